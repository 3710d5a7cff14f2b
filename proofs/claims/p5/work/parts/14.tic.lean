/-! THE CHECKER IS RIGHT: conditions, locals, stack, known cells. -/
theorem nbeq {a c : Nat} (h : Nat.beq a c = false) : ¬ a = c := fun z => by
  rw [z] at h
  rw [Nat.beq_refl] at h
  cases h
section AC
variable {b : Nat} {so ad : List Nat} {tys : List (ClassId × FieldType)} {ST : Nat → Option aS} {JL : List aJ} {ρ ρ2 : Nat → Int} {ρr ρr2 : Nat → Nat} {md : aMd} {ws0 ws : va_W} {A : aA}
/-- what a step that only learns gives -/
def aCut (b : Nat) (so ad : List Nat) (tys : List (ClassId × FieldType)) (ST : Nat → Option aS) (JL : List aJ) (md : aMd) (ws0 ws : va_W) (A : aA) (ρ : Nat → Int) (ρr : Nat → Nat) (kk : aA → Bool) : Prop :=
  ∃ A2 : aA, kk A2 = true ∧ A2.1 = A.1 ∧ A2.2.2 = A.2.2 ∧ aRel b so ad tys ST JL ρ ρr md ws0 A2 ws
theorem aCut.up {A A2 : aA} (h1 : A2.1 = A.1) (h2 : A2.2.2 = A.2.2) : aUp A ρ ρr A2 ρ ρr := aUp.same h1 (by rw [h2])
theorem acs_set {n k k2 : Nat} {cs : List aC} {q w : aC} (hk : k < n) (hl : cs.length = n) (h : acs n (cs.set (n - 1 - k) q) k2 = some w) : (k2 = k ∧ w = q) ∨ acs n cs k2 = some w := by
  obtain ⟨g1, g2⟩ := acs_lt h
  by_cases hkk : k2 = k
  · subst hkk
    rw [List.getElem?_set_self (by omega)] at g2
    exact Or.inl ⟨rfl, (Option.some.inj g2).symm⟩
  · rw [List.getElem?_set_ne (by omega)] at g2
    refine Or.inr ?_
    unfold acs
    rw [show Nat.blt k2 n = true from Nat.ble_eq_true_of_le g1, cond_true, eg_eq]
    exact g2
theorem aRel_cs {n nr : Nat} {cs : List aC} {rs : List Nat} {hm : List aE} (hR : aRel b so ad tys ST JL ρ ρr md ws0 (n, cs, nr, rs, hm) ws) {k : Nat} {q : aC} (hk : k < n) (hq : cOk ρ n k q) : aRel b so ad tys ST JL ρ ρr md ws0 (n, cs.set (n - 1 - k) q, nr, rs, hm) ws := by
  obtain ⟨⟨s1, s2, s3, s4⟩, hr⟩ := hR
  refine ⟨⟨s1, ?_, s3, fun k2 w hw => ?_⟩, hr⟩
  · show (cs.set _ _).length = n
    rw [List.length_set]; exact s2
  · rcases acs_set hk s2 hw with ⟨rfl, rfl⟩ | hw
    · exact hq
    · exact s4 k2 w hw
theorem aset_ok (hR : aRel b so ad tys ST JL ρ ρr md ws0 A ws) {k : Nat} {lo hi : Int} {kk : aA → Bool} (h : aset A k lo hi kk = true) (h1 : lo ≤ ρ k) (h2 : ρ k ≤ hi) : aCut b so ad tys ST JL md ws0 ws A ρ ρr kk := by
  obtain ⟨n, cs, nr, rs, hm⟩ := A
  unfold aset at h
  dsimp only at h
  cases hq : acs n cs k with
  | none => rw [hq] at h; cases h
  | some q =>
    rw [hq] at h
    dsimp only at h
    rw [efI_eq, efI_eq] at h
    obtain ⟨c1, c2, c3, c4, c5⟩ := hR.1.2.2.2 k q hq
    have f1 := imx_le c1 h1
    have f2 := imn_ge c2 h2
    rw [(ile_iff _ _).mpr (Int.le_trans f1 f2), cond_true, es_eq] at h
    exact ⟨_, h, rfl, rfl, aRel_cs hR (acs_lt hq).1 ⟨f1, f2, c3, c4, c5⟩⟩
theorem abt_ok (hR : aRel b so ad tys ST JL ρ ρr md ws0 A ws) {v : Nat × Int} {lo hi : Int} {kk : aA → Bool} (h : abt v lo hi A kk = true) (h1 : lo ≤ ρ v.1 + v.2) (h2 : ρ v.1 + v.2 ≤ hi) : aCut b so ad tys ST JL md ws0 ws A ρ ρr kk := by
  obtain ⟨k, c⟩ := v
  unfold abt at h
  cases k with
  | zero =>
    dsimp only at h h1 h2
    rw [hR.1.2.2.1] at h1 h2
    rw [(ile_iff lo c).mpr (by omega), (ile_iff c hi).mpr (by omega)] at h
    exact ⟨A, h, rfl, rfl, hR⟩
  | succ k =>
    dsimp only at h h1 h2
    exact aset_ok hR h (by omega) (by omega)
theorem apar_ok (hR : aRel b so ad tys ST JL ρ ρr md ws0 A ws) {x y : Nat × Int} {d : Int} {kk : aA → Bool} (h : apar x y d A kk = true) (h1 : ρ x.1 + x.2 + d ≤ ρ y.1 + y.2) : aCut b so ad tys ST JL md ws0 ws A ρ ρr kk := by
  obtain ⟨n, cs, nr, rs, hm⟩ := A
  obtain ⟨kx, cx⟩ := x
  obtain ⟨ky, cy⟩ := y
  unfold apar at h
  cases kx with
  | zero => exact ⟨_, h, rfl, rfl, hR⟩
  | succ kx =>
    cases ky with
    | zero => exact ⟨_, h, rfl, rfl, hR⟩
    | succ ky =>
      dsimp only at h h1
      cases hq : acs n cs (ky + 1) with
      | none => rw [hq] at h; cases h
      | some q =>
        rw [hq] at h
        dsimp only at h
        cases hb : Nat.beq q.2.2.1.1 0 && Nat.blt (kx + 1) n with
        | false => rw [hb, cond_false] at h; exact ⟨_, h, rfl, rfl, hR⟩
        | true =>
          rw [hb, cond_true, efI_eq, es_eq] at h
          rw [Bool.and_eq_true] at hb
          obtain ⟨c1, c2, c3, c4, c5⟩ := hR.1.2.2.2 _ q hq
          exact ⟨_, h, rfl, rfl, aRel_cs hR (acs_lt hq).1 ⟨c1, c2, Nat.le_of_ble_eq_true hb.2, by show ρ (kx + 1) + (cx + d - cy) ≤ ρ (ky + 1); omega, c5⟩⟩
theorem aCut.bind {kk : aA → Bool} {f : aA → (aA → Bool) → Bool} (h : aCut b so ad tys ST JL md ws0 ws A ρ ρr (fun A => f A kk)) (g : ∀ A2 : aA, aRel b so ad tys ST JL ρ ρr md ws0 A2 ws → f A2 kk = true → aCut b so ad tys ST JL md ws0 ws A2 ρ ρr kk) : aCut b so ad tys ST JL md ws0 ws A ρ ρr kk := by
  obtain ⟨A2, h1, h2, h3, h4⟩ := h
  obtain ⟨A3, g1, g2, g3, g4⟩ := g A2 h4 h1
  exact ⟨A3, g1, by rw [g2, h2], by rw [g3, h3], g4⟩
theorem alt_ok (hR : aRel b so ad tys ST JL ρ ρr md ws0 A ws) {x y : Nat × Int} {d : Int} {kk : aA → Bool} (h : alt x y d A kk = true) (h1 : ρ x.1 + x.2 + d ≤ ρ y.1 + y.2) (hx : iMin ≤ ρ x.1 + x.2) (hy : ρ y.1 + y.2 ≤ iMax) : aCut b so ad tys ST JL md ws0 ws A ρ ρr kk := by
  obtain ⟨l1, h1', h, b1, b2⟩ := abd_ok hR.1 h
  obtain ⟨l2, h2', h, b3, b4⟩ := abd_ok hR.1 h
  exact aCut.bind (f := fun A kk => abt y (l1 + d) iMax A (fun A => apar x y d A kk)) (abt_ok hR h hx (by omega)) (fun A2 hR2 h => aCut.bind (f := fun A kk => apar x y d A kk) (abt_ok hR2 h (by omega) hy) (fun A3 hR3 h => apar_ok hR3 h h1))
theorem aeq_ok (hR : aRel b so ad tys ST JL ρ ρr md ws0 A ws) {x y : Nat × Int} {kk : aA → Bool} (h : aeq x y A kk = true) (h1 : ρ x.1 + x.2 = ρ y.1 + y.2) : aCut b so ad tys ST JL md ws0 ws A ρ ρr kk := by
  obtain ⟨l1, h1', h, b1, b2⟩ := abd_ok hR.1 h
  obtain ⟨l2, h2', h, b3, b4⟩ := abd_ok hR.1 h
  exact aCut.bind (f := fun A kk => abt y l1 h1' A kk) (abt_ok hR h (by omega) (by omega)) (fun A2 hR2 h => abt_ok hR2 h (by omega) (by omega))
theorem ane1_ok (hR : aRel b so ad tys ST JL ρ ρr md ws0 A ws) {x : Nat × Int} {l1 h1 c : Int} {kk : aA → Bool} (h : ane1 x l1 h1 c A kk = true) (hl : l1 ≤ ρ x.1 + x.2) (hh : ρ x.1 + x.2 ≤ h1) (hn : ¬ ρ x.1 + x.2 = c) (hx : iMin ≤ ρ x.1 + x.2) (hy : ρ x.1 + x.2 ≤ iMax) : aCut b so ad tys ST JL md ws0 ws A ρ ρr kk := by
  unfold ane1 at h
  cases e1 : ieq l1 c with
  | true =>
    rw [e1, cond_true] at h
    rw [ieq_iff] at e1
    exact abt_ok hR h (by omega) hy
  | false =>
    rw [e1, cond_false] at h
    cases e2 : ieq h1 c with
    | true =>
      rw [e2, cond_true] at h
      rw [ieq_iff] at e2
      exact abt_ok hR h hx (by omega)
    | false => rw [e2, cond_false] at h; exact ⟨A, h, rfl, rfl, hR⟩
theorem ane_ok (hR : aRel b so ad tys ST JL ρ ρr md ws0 A ws) {x y : Nat × Int} {kk : aA → Bool} (h : ane x y A kk = true) (hn : ¬ ρ x.1 + x.2 = ρ y.1 + y.2) (hx : iMin ≤ ρ x.1 + x.2) (hx2 : ρ x.1 + x.2 ≤ iMax) (hy : iMin ≤ ρ y.1 + y.2) (hy2 : ρ y.1 + y.2 ≤ iMax) : aCut b so ad tys ST JL md ws0 ws A ρ ρr kk := by
  obtain ⟨l1, h1', h, b1, b2⟩ := abd_ok hR.1 h
  obtain ⟨l2, h2', h, b3, b4⟩ := abd_ok hR.1 h
  cases e1 : ieq l2 h2' with
  | true =>
    rw [e1, cond_true] at h
    rw [ieq_iff] at e1
    exact ane1_ok hR h b1 b2 (by omega) hx hx2
  | false =>
    rw [e1, cond_false] at h
    cases e2 : ieq l1 h1' with
    | true =>
      rw [e2, cond_true] at h
      rw [ieq_iff] at e2
      exact ane1_ok hR h b3 b4 (by omega) hy hy2
    | false => rw [e2, cond_false] at h; exact ⟨A, h, rfl, rfl, hR⟩
theorem ast_ok (hR : aRel b so ad tys ST JL ρ ρr md ws0 A ws) {x y : Nat × Int} {kk : aA → Bool} {z1 z2 : Int32} (e1 : z1.toInt = ρ x.1 + x.2) (e2 : z2.toInt = ρ y.1 + y.2) (c : ClassFile.Cond) (h : ast c x y A kk = true) (hc : eCd c z1 z2) : aCut b so ad tys ST JL md ws0 ws A ρ ρr kk := by
  have a1 := i_lo z1
  have a2 := i_hi z1
  have a3 := i_lo z2
  have a4 := i_hi z2
  rw [e1] at a1 a2
  rw [e2] at a3 a4
  cases c with
  | lt =>
    have hc : z1 < z2 := hc
    rw [Int32.lt_iff_toInt_lt] at hc
    exact alt_ok hR h (by omega) a1 a4
  | le =>
    have hc : z1 ≤ z2 := hc
    rw [Int32.le_iff_toInt_le] at hc
    exact alt_ok hR h (by omega) a1 a4
  | gt =>
    have hc : z2 < z1 := hc
    rw [Int32.lt_iff_toInt_lt] at hc
    exact alt_ok hR h (by omega) a3 a2
  | ge =>
    have hc : z2 ≤ z1 := hc
    rw [Int32.le_iff_toInt_le] at hc
    exact alt_ok hR h (by omega) a3 a2
  | eq =>
    have hc : z1 = z2 := hc
    exact aeq_ok hR h (by rw [← e1, ← e2, hc])
  | ne =>
    have hc : ¬ z1 = z2 := hc
    exact ane_ok hR h (fun q => hc (Int32.toInt_inj.mp (by rw [e1, e2]; exact q))) a1 a2 a3 a4
theorem adI_ok {c : ClassFile.Cond} {p q : Int} {z1 z2 : Int32} {w : Int} (e1 : z1.toInt = w + p) (e2 : z2.toInt = w + q) : adI c p q = true ↔ eCd c z1 z2 := by
  cases c with
  | eq =>
    show ieq p q = true ↔ z1 = z2
    rw [ieq_iff, ← Int32.toInt_inj]
    omega
  | ne =>
    show (bif ieq p q then false else true) = true ↔ ¬ z1 = z2
    rw [← Int32.toInt_inj]
    cases h : ieq p q with
    | true =>
      rw [ieq_iff] at h
      exact ⟨fun z => (nomatch z), fun z => absurd (by omega) z⟩
    | false =>
      have : ¬ p = q := fun z => by rw [(ieq_iff p q).mpr z] at h; cases h
      exact ⟨fun _ => by omega, fun _ => rfl⟩
  | lt =>
    show ile (p + 1) q = true ↔ z1 < z2
    rw [ile_iff, Int32.lt_iff_toInt_lt]
    omega
  | ge =>
    show ile q p = true ↔ z2 ≤ z1
    rw [ile_iff, Int32.le_iff_toInt_le]
    omega
  | gt =>
    show ile (q + 1) p = true ↔ z2 < z1
    rw [ile_iff, Int32.lt_iff_toInt_lt]
    omega
  | le =>
    show ile p q = true ↔ z1 ≤ z2
    rw [ile_iff, Int32.le_iff_toInt_le]
    omega
theorem ano_ok (hR : aRel b so ad tys ST JL ρ ρr md ws0 A ws) {x y : Nat × Int} {z1 z2 : Int32} (e1 : z1.toInt = ρ x.1 + x.2) (e2 : z2.toInt = ρ y.1 + y.2) (c : ClassFile.Cond) (h : ano c x y A = true) : ¬ eCd c z1 z2 := by
  cases c with
  | eq => cases h
  | ne => cases h
  | lt =>
    have := age_ok hR.1 _ _ _ (show age A y.1 y.2 40 x.1 x.2 = true from h)
    show ¬ z1 < z2
    rw [Int32.lt_iff_toInt_lt]
    omega
  | le =>
    have := age_ok hR.1 _ _ _ (show age A y.1 (y.2 + 1) 40 x.1 x.2 = true from h)
    show ¬ z1 ≤ z2
    rw [Int32.le_iff_toInt_le]
    omega
  | gt =>
    have := age_ok hR.1 _ _ _ (show age A x.1 x.2 40 y.1 y.2 = true from h)
    show ¬ z2 < z1
    rw [Int32.lt_iff_toInt_lt]
    omega
  | ge =>
    have := age_ok hR.1 _ _ _ (show age A x.1 (x.2 + 1) 40 y.1 y.2 = true from h)
    show ¬ z2 ≤ z1
    rw [Int32.le_iff_toInt_le]
    omega
theorem acmp_ok (hR : aRel b so ad tys ST JL ρ ρr md ws0 A ws) {x y : Nat × Int} {kt kf : aA → Bool} {z1 z2 : Int32} (e1 : z1.toInt = ρ x.1 + x.2) (e2 : z2.toInt = ρ y.1 + y.2) {c : ClassFile.Cond} (h : acmp c x y A kt kf = true) : (eCd c z1 z2 → aCut b so ad tys ST JL md ws0 ws A ρ ρr kt) ∧ (¬ eCd c z1 z2 → aCut b so ad tys ST JL md ws0 ws A ρ ρr kf) := by
  unfold acmp at h
  cases hb : Nat.beq x.1 y.1 with
  | true =>
    rw [hb, cond_true] at h
    rw [← Nat.eq_of_beq_eq_true hb] at e2
    have hd := adI_ok (c := c) e1 e2
    cases hc : adI c x.2 y.2 with
    | true =>
      rw [hc, cond_true] at h
      exact ⟨fun _ => ⟨A, h, rfl, rfl, hR⟩, fun q => absurd (hd.mp hc) q⟩
    | false =>
      rw [hc, cond_false] at h
      exact ⟨fun q => absurd (hd.mpr q) (by rw [hc]; exact Bool.false_ne_true), fun _ => ⟨A, h, rfl, rfl, hR⟩⟩
  | false =>
    rw [hb, cond_false, Bool.and_eq_true] at h
    refine ⟨fun q => ?_, fun q => ?_⟩
    · cases hn : ano c x y A with
      | true => exact absurd q (ano_ok hR e1 e2 c hn)
      | false =>
        have h1 := h.1
        rw [hn, cond_false] at h1
        exact ast_ok hR e1 e2 c h1 q
    · have q2 := (eneg_ok c z1 z2).mpr q
      cases hn : ano (eneg c) x y A with
      | true => exact absurd q2 (ano_ok hR e1 e2 (eneg c) hn)
      | false =>
        have h1 := h.2
        rw [hn, cond_false] at h1
        exact ast_ok hR e1 e2 (eneg c) h1 q2
/-- locals -/
def lRel (b : Nat) (ad : List Nat) (ρ : Nat → Int) (ρr : Nat → Nat) (n nr : Nat) (ls : List (Nat × aV)) (lv : List (Nat × Value)) : Prop := ∀ q ∈ ls, ∃ x, (q.1, x) ∈ lv ∧ vRel b ad ρ ρr n nr q.2 x
def sRel (b : Nat) (ad : List Nat) (ρ : Nat → Int) (ρr : Nat → Nat) (n nr : Nat) : List aV → List Value → Prop
  | [], [] => True
  | v :: vs, x :: xs => vRel b ad ρ ρr n nr v x ∧ sRel b ad ρ ρr n nr vs xs
  | _, _ => False
theorem lRel_up {n nr n2 nr2 : Nat} (h1 : n ≤ n2) (h2 : nr ≤ nr2) (h : aExt n nr ρ ρr ρ2 ρr2) {ls : List (Nat × aV)} {lv : List (Nat × Value)} (hl : lRel b ad ρ ρr n nr ls lv) : lRel b ad ρ2 ρr2 n2 nr2 ls lv := fun q hq => by
  obtain ⟨x, g1, g2⟩ := hl q hq
  exact ⟨x, g1, vRel_up h1 h2 h g2⟩
theorem sRel_up {n nr n2 nr2 : Nat} (h1 : n ≤ n2) (h2 : nr ≤ nr2) (h : aExt n nr ρ ρr ρ2 ρr2) : ∀ {vs : List aV} {xs : List Value}, sRel b ad ρ ρr n nr vs xs → sRel b ad ρ2 ρr2 n2 nr2 vs xs
  | [], [], _ => trivial
  | _ :: _, _ :: _, hs => ⟨vRel_up h1 h2 h hs.1, sRel_up h1 h2 h hs.2⟩
  | [], _ :: _, hs => absurd hs id
  | _ :: _, [], hs => absurd hs id
theorem sRel_cons {n nr : Nat} {v : aV} {vs : List aV} {xs : List Value} (h : sRel b ad ρ ρr n nr (v :: vs) xs) : ∃ x t, xs = x :: t ∧ vRel b ad ρ ρr n nr v x ∧ sRel b ad ρ ρr n nr vs t := by
  cases xs with
  | nil => exact absurd h id
  | cons x t => exact ⟨x, t, rfl, h.1, h.2⟩
theorem sRel_nil {n nr : Nat} {xs : List Value} (h : sRel b ad ρ ρr n nr [] xs) : xs = [] := by
  cases xs with
  | nil => rfl
  | cons x t => exact absurd h id
theorem sRel_cats {n nr : Nat} : ∀ {vs : List aV} {xs : List Value}, sRel b ad ρ ρr n nr vs xs → (xs.map fun v => v.category).sum = acats vs
  | [], [], _ => rfl
  | v :: vs, x :: xs, h => by
    rw [List.map_cons, List.sum_cons, sRel_cats h.2, vRel_cat h.1]
    rfl
  | [], _ :: _, h => absurd h id
  | _ :: _, [], h => absurd h id
theorem sRel_len {n nr : Nat} : ∀ {vs : List aV} {xs : List Value}, sRel b ad ρ ρr n nr vs xs → vs.length = xs.length
  | [], [], _ => rfl
  | _ :: _, _ :: _, h => by rw [List.length_cons, List.length_cons, sRel_len h.2]
  | [], _ :: _, h => absurd h id
  | _ :: _, [], h => absurd h id
theorem sRel_get {n nr : Nat} : ∀ {vs : List aV} {xs : List Value} {k : Nat} {v : aV}, sRel b ad ρ ρr n nr vs xs → vs[k]? = some v → ∃ x, xs[k]? = some x ∧ vRel b ad ρ ρr n nr v x
  | [], [], _, _, _, h => by simp at h
  | v0 :: vs, x0 :: xs, 0, v, h, hk => by
    rw [List.getElem?_cons_zero] at hk
    cases hk
    exact ⟨x0, List.getElem?_cons_zero, h.1⟩
  | v0 :: vs, x0 :: xs, k + 1, v, h, hk => by
    rw [List.getElem?_cons_succ] at hk
    rw [List.getElem?_cons_succ]
    exact sRel_get h.2 hk
  | [], _ :: _, _, _, h, _ => absurd h id
  | _ :: _, [], _, _, h, _ => absurd h id
theorem al_mem {ls : List (Nat × aV)} {j : Nat} {v : aV} (h : al ls j = some v) : (j, v) ∈ ls := by
  induction ls with
  | nil => cases h
  | cons q t ih =>
    have h : (bif Nat.beq q.1 j then some q.2 else al t j) = some v := h
    cases hb : Nat.beq q.1 j with
    | true =>
      rw [hb, cond_true] at h
      cases h
      rw [← Nat.eq_of_beq_eq_true hb]
      exact List.mem_cons_self
    | false =>
      rw [hb, cond_false] at h
      exact List.mem_cons_of_mem _ (ih h)
theorem alf_eq (p : Nat × aV → Bool) (ls : List (Nat × aV)) : ∀ k : List (Nat × aV) → Bool, alf p ls k = k (ls.filter p) := by
  induction ls with
  | nil => intro k; rfl
  | cons q t ih =>
    intro k
    have e : alf p (q :: t) k = bif p q then alf p t (fun t => k (q :: t)) else alf p t k := rfl
    rw [e, List.filter_cons]
    cases hp : p q with
    | true => rw [cond_true, ih]; rfl
    | false => rw [cond_false, ih]; rfl
theorem lRel_st {n nr : Nat} {ls : List (Nat × aV)} {lv : List (Nat × Value)} (h : lRel b ad ρ ρr n nr ls lv) {j : Nat} {v : aV} {x : Value} (hv : vRel b ad ρ ρr n nr v x) : lRel b ad ρ ρr n nr ((j, v) :: ls.filter (alp j)) (gSt lv j x) := by
  intro q hq
  rcases List.mem_cons.mp hq with rfl | hq
  · exact ⟨x, List.mem_cons_self, hv⟩
  · obtain ⟨hq, hp⟩ := List.mem_filter.mp hq
    obtain ⟨y, g1, g2⟩ := h q hq
    refine ⟨y, List.mem_cons_of_mem _ (List.mem_filter.mpr ⟨g1, ?_⟩), g2⟩
    have hc := vRel_cat g2
    unfold alp at hp
    cases h1 : Nat.beq q.1 j with
    | true => rw [h1] at hp; cases hp
    | false =>
      rw [h1, cond_false] at hp
      have n1 : ¬ q.1 = j := nbeq h1
      cases h2 : Nat.beq (q.1 + 1) j with
      | true =>
        rw [h2, cond_true] at hp
        have := Nat.eq_of_beq_eq_true hp
        simp [n1, hc, this]
      | false =>
        have n2 : ¬ q.1 + 1 = j := nbeq h2
        simp [n1, n2]
theorem lRel_st2 {n nr : Nat} {ls : List (Nat × aV)} {lv : List (Nat × Value)} (h : lRel b ad ρ ρr n nr ls lv) {j : Nat} {v : aV} {x : Value} (hv : vRel b ad ρ ρr n nr v x) : lRel b ad ρ ρr n nr ((j, v) :: ls.filter (alp2 j)) (gSt2 lv j x) := by
  intro q hq
  rcases List.mem_cons.mp hq with rfl | hq
  · exact ⟨x, List.mem_cons_self, hv⟩
  · obtain ⟨hq, hp⟩ := List.mem_filter.mp hq
    obtain ⟨y, g1, g2⟩ := h q hq
    refine ⟨y, List.mem_cons_of_mem _ (List.mem_filter.mpr ⟨g1, ?_⟩), g2⟩
    have hc := vRel_cat g2
    unfold alp2 at hp
    cases h3 : Nat.beq q.1 (j + 1) with
    | true => rw [h3] at hp; cases hp
    | false =>
      rw [h3, cond_false] at hp
      have n3 : ¬ q.1 = j + 1 := nbeq h3
      unfold alp at hp
      cases h1 : Nat.beq q.1 j with
      | true => rw [h1] at hp; cases hp
      | false =>
        rw [h1, cond_false] at hp
        have n1 : ¬ q.1 = j := nbeq h1
        cases h2 : Nat.beq (q.1 + 1) j with
        | true =>
          rw [h2, cond_true] at hp
          have := Nat.eq_of_beq_eq_true hp
          simp [n1, n3, hc, this]
        | false =>
          have n2 : ¬ q.1 + 1 = j := nbeq h2
          simp [n1, n2, n3]
theorem aargs_ok {n nr : Nat} : ∀ {vs : List aV} {xs : List Value} (i : Nat), sRel b ad ρ ρr n nr vs xs → lRel b ad ρ ρr n nr (aargs vs i) (lv_args i xs)
  | [], [], _, _ => fun q hq => absurd hq List.not_mem_nil
  | v :: vs, x :: xs, i, h => by
    intro q hq
    have hq : q ∈ (i, v) :: aargs vs (i + acat v) := hq
    have hc := vRel_cat h.1
    have e : (if x.category = 2 then i + 2 else i + 1) = i + acat v := by
      rcases lv_cat x with q | q
      · rw [if_neg (by omega), ← hc, q]
      · rw [if_pos q, ← hc, q]
    rcases List.mem_cons.mp hq with rfl | hq
    · exact ⟨x, List.mem_cons_self, h.1⟩
    · obtain ⟨y, g1, g2⟩ := aargs_ok (i + acat v) h.2 q hq
      refine ⟨y, ?_, g2⟩
      show (q.1, y) ∈ (i, x) :: lv_args (if x.category = 2 then i + 2 else i + 1) xs
      rw [e]
      exact List.mem_cons_of_mem _ g1
  | [], _ :: _, _, h => absurd h id
  | _ :: _, [], _, h => absurd h id
theorem atake_ok {n nr : Nat} : ∀ (m : Nat) {st acc : List aV} {stA accA : List Value} {k : List aV → List aV → Bool}, sRel b ad ρ ρr n nr st stA → sRel b ad ρ ρr n nr acc accA → atake m st acc k = true → ∃ vs r asx rx, k vs r = true ∧ sRel b ad ρ ρr n nr vs asx ∧ sRel b ad ρ ρr n nr r rx ∧ accA.reverse ++ stA = asx.reverse ++ rx ∧ asx.length = accA.length + m
  | 0, st, acc, stA, accA, k, h1, h2, h => ⟨acc, st, accA, stA, h, h2, h1, rfl, rfl⟩
  | m + 1, [], acc, stA, accA, k, h1, h2, h => (nomatch h)
  | m + 1, v :: st, acc, stA, accA, k, h1, h2, h => by
    obtain ⟨x, t, rfl, g1, g2⟩ := sRel_cons h1
    have h : atake m st (v :: acc) k = true := h
    obtain ⟨vs, r, asx, rx, q1, q2, q3, q4, q5⟩ := atake_ok m (acc := v :: acc) (accA := x :: accA) g2 ⟨g1, h2⟩ h
    refine ⟨vs, r, asx, rx, q1, q2, q3, ?_, ?_⟩
    · rw [← q4, List.reverse_cons, List.append_assoc]; rfl
    · rw [q5, List.length_cons]; omega
/-- known cells -/
theorem amf_mem {hm : List aE} {r : Nat} {ix : Nat × Int} {v : aV} (h : amf hm r ix = some v) : ∃ t, (r, t, ix, v) ∈ hm := by
  induction hm with
  | nil => cases h
  | cons e t ih =>
    have h : (bif Nat.beq e.1 r && (Nat.beq e.2.2.1.1 ix.1 && ieq e.2.2.1.2 ix.2) then some e.2.2.2 else amf t r ix) = some v := h
    cases hb : Nat.beq e.1 r && (Nat.beq e.2.2.1.1 ix.1 && ieq e.2.2.1.2 ix.2) with
    | true =>
      rw [hb, cond_true] at h
      cases h
      rw [Bool.and_eq_true, Bool.and_eq_true, ieq_iff] at hb
      obtain ⟨r0, t0, ⟨k0, c0⟩, v0⟩ := e
      obtain ⟨k, c⟩ := ix
      have e1 := Nat.eq_of_beq_eq_true hb.1
      have e2 := Nat.eq_of_beq_eq_true hb.2.1
      have e3 := hb.2.2
      dsimp only at e1 e2 e3
      subst e1; subst e2; subst e3
      exact ⟨t0, List.mem_cons_self⟩
    | false =>
      rw [hb, cond_false] at h
      obtain ⟨t0, g⟩ := ih h
      exact ⟨t0, List.mem_cons_of_mem _ g⟩
theorem adj_ok (hs : cSat ρ A.1 A.2.1) {x y : Nat × Int} (h : adj A x y = true) : ¬ ρ x.1 + x.2 = ρ y.1 + y.2 := by
  unfold adj at h
  cases hb : Nat.beq x.1 y.1 with
  | true =>
    rw [hb, cond_true] at h
    rw [Nat.eq_of_beq_eq_true hb]
    cases hc : ieq x.2 y.2 with
    | true => rw [hc] at h; cases h
    | false =>
      have : ¬ x.2 = y.2 := fun z => by rw [(ieq_iff _ _).mpr z] at hc; cases hc
      omega
  | false =>
    rw [hb, cond_false] at h
    obtain ⟨l1, h1, h, b1, b2⟩ := abd_ok hs h
    obtain ⟨l2, h2, h, b3, b4⟩ := abd_ok hs h
    rw [Bool.or_eq_true, ile_iff, ile_iff] at h
    omega
theorem aflt_eq (p : aE → Bool) (hm : List aE) : ∀ k : List aE → Bool, aflt p hm k = k (hm.filter p) := by
  induction hm with
  | nil => intro k; rfl
  | cons q t ih =>
    intro k
    have e : aflt p (q :: t) k = bif p q then aflt p t (fun t => k (q :: t)) else aflt p t k := rfl
    rw [e, List.filter_cons]
    cases hp : p q with
    | true => rw [cond_true, ih]; rfl
    | false => rw [cond_false, ih]; rfl
theorem acap_ok (t : Nat) (hm : List aE) : ∀ (n : Nat) (k : List aE → Bool), acap t hm n k = true → ∃ l, k l = true ∧ ∀ e ∈ l, e ∈ hm := by
  induction hm with
  | nil => intro n k h; exact ⟨[], h, fun e he => he⟩
  | cons q r ih =>
    intro n k h
    have h : (bif Nat.beq q.2.1 t then (Nat.rec (bif Nat.beq q.2.2.1.1 0 && ieq q.2.2.1.2 221 then acap t r 0 (fun l => k (q :: l)) else acap t r 0 k) (fun m _ => acap t r m (fun l => k (q :: l))) n : Bool) else acap t r n (fun l => k (q :: l))) = true := h
    cases hb : Nat.beq q.2.1 t with
    | true =>
      rw [hb, cond_true] at h
      cases n with
      | zero =>
        have h : (bif Nat.beq q.2.2.1.1 0 && ieq q.2.2.1.2 221 then acap t r 0 (fun l => k (q :: l)) else acap t r 0 k) = true := h
        cases hc : Nat.beq q.2.2.1.1 0 && ieq q.2.2.1.2 221 with
        | true =>
          rw [hc, cond_true] at h
          obtain ⟨l, h1, h2⟩ := ih 0 (fun l => k (q :: l)) h
          refine ⟨q :: l, h1, fun e he => ?_⟩
          rcases List.mem_cons.mp he with rfl | he
          · exact List.mem_cons_self
          · exact List.mem_cons_of_mem _ (h2 e he)
        | false =>
          rw [hc, cond_false] at h
          obtain ⟨l, h1, h2⟩ := ih 0 k h
          exact ⟨l, h1, fun e he => List.mem_cons_of_mem _ (h2 e he)⟩
      | succ m =>
        obtain ⟨l, h1, h2⟩ := ih m (fun l => k (q :: l)) h
        refine ⟨q :: l, h1, fun e he => ?_⟩
        rcases List.mem_cons.mp he with rfl | he
        · exact List.mem_cons_self
        · exact List.mem_cons_of_mem _ (h2 e he)
    | false =>
      rw [hb, cond_false] at h
      obtain ⟨l, h1, h2⟩ := ih n (fun l => k (q :: l)) h
      refine ⟨q :: l, h1, fun e he => ?_⟩
      rcases List.mem_cons.mp he with rfl | he
      · exact List.mem_cons_self
      · exact List.mem_cons_of_mem _ (h2 e he)
theorem aput_ok (hR : aRel b so ad tys ST JL ρ ρr md ws0 A ws) {e : aE} {kk : aA → Bool} (h : aput A e kk = true) (he : mRel b so ad ρ ρr A.1 A.2.2.1 ws e) : ∃ A2 : aA, kk A2 = true ∧ A2.1 = A.1 ∧ A2.2.2.1 = A.2.2.1 ∧ aRel b so ad tys ST JL ρ ρr md ws0 A2 ws := by
  obtain ⟨n, cs, nr, rs, hm⟩ := A
  unfold aput at h
  dsimp only at h
  obtain ⟨l, h1, h2⟩ := acap_ok _ _ _ _ h
  refine ⟨_, h1, rfl, rfl, hR.1, hR.2.1, hR.2.2.1, fun e2 he2 => ?_⟩
  rcases List.mem_cons.mp he2 with rfl | he2
  · exact he
  · exact hR.2.2.2 e2 (h2 e2 he2)
theorem asrt_ok (hR : aRel b so ad tys ST JL ρ ρr md ws0 A ws) {r t : Nat} (h : asrt A r = some t) : r < A.2.2.1 ∧ so[ρr r]? = some t := by
  obtain ⟨n, cs, nr, rs, hm⟩ := A
  unfold asrt at h
  dsimp only at h
  cases hb : Nat.blt r nr with
  | false => rw [hb] at h; cases h
  | true =>
    rw [hb, cond_true, eg_eq] at h
    have hr : r < nr := Nat.le_of_ble_eq_true hb
    exact ⟨hr, hR.2.1.2 r t hr h⟩
end AC
