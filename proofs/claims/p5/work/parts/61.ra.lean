/-! WHAT THE ROUNDS KEEP: each thing's own things, the tapes alike, the thirty words. -/
noncomputable section
/-- of a sort of the class's reader: what it is among the sorts -/
def zcoa (t : Nat) : Nat := match [8, 36, 37, 38, 39, 40, 41, 42, 43, 1, 17, 18, 19, 20, 21, 8, 36, 37, 38, 39, 40, 41, 42, 43, 6, 31, 32, 33][t - 78]? with
  | some u => bif Nat.ble 78 t then u else t
  | none => t
def zffk (f g : aF) : Bool := match f, g with
  | .inl a, .inl b => ieq a.1 b.1 && ieq a.2 b.2
  | .inr (.inl t), .inr (.inl u) => Nat.beq (zcoa t) u
  | .inr (.inr _), .inr (.inr _) => true
  | _, _ => false
def zffl : List aF → List aF → Bool
  | [], [] => true
  | f :: r, g :: s => zffk f g && zffl r s
  | _, _ => false
def zrgl : List (Nat × Int × Int) → List (Nat × Int × Int) → Bool
  | [], [] => true
  | f :: r, g :: s => Nat.beq f.1 g.1 && (ieq f.2.1 g.2.1 && (ieq f.2.2 g.2.2 && zrgl r s))
  | _, _ => false
def zffo (a b : Option aS) : Bool := match a, b with
  | some (.inl p), some (.inl q) => Nat.beq p.1 q.1 && zffl p.2 q.2
  | some (.inr p), some (.inr q) => Nat.beq p.1 q.1 && (Nat.beq p.2.1 q.2.1 && (zrgl p.2.2.1 q.2.2.1 && Nat.beq (zcoa p.2.2.2) q.2.2.2))
  | none, none => true
  | _, _ => false
/-- no cell that leads to a thing may be written -/
def mdnr (md : aMd) : Bool := (List.range 78).all fun t => match gST t with
  | some (.inl ob) => (List.range ob.2.length).all fun i => match ob.2[i]? with
    | some (.inr (.inl _)) => md.all fun q => !(Nat.beq q.1 t && (Nat.ble q.2.1 i && Nat.blt i q.2.2))
    | _ => true
  | some (.inr ob) => bif Nat.beq ob.1 4 then md.all (fun q => !(Nat.beq q.1 t)) else true
  | none => true
def mdk (md : aMd) : Bool := mdnr md && md.all (fun q => !(Nat.beq q.1 34) && (!(Nat.beq q.1 51) && (!(Nat.beq q.1 35) && !(Nat.beq q.1 56))))
/-- .. but the tapes -/
def mdk2 (md : aMd) : Bool := mdnr md && md.all (fun q => (!(Nat.beq q.1 35) && !(Nat.beq q.1 56)))
def zFn (E : zE) (ws : va_W) : Prop := ∀ (o t : Nat) (q : Nat × va_E), ws[o]? = some q → zsoc[o]? = some t → eOk zsoc (zad E) E.2.2.2.2.2.2.1 gSTc t q.2
def zBy (E : zE) (ws : va_W) : Prop := ∃ c r : Nat, (zso E)[c]? = some 34 ∧ (zso E)[r]? = some 51 ∧ ∀ i : Nat, i < 940 → gcv ws c i = gcv ws r i
def zLg (E : zE) (t : Nat) (f : Int → Int) (ws : va_W) : Prop := ∃ k : Nat, (zso E)[k]? = some t ∧ ∀ j : Nat, j < 30 → gcv ws k j = some (.long (Int64.ofInt (f (j : Int))))
def zTp (E : zE) (ws : va_W) : Prop := zso E = zso0 ∧ zFn E ws ∧ zBy E ws ∧ zLg E 35 qkc ws ∧ zLg E 56 qrw ws
end
theorem zcs_so : ((List.range 195).all fun o => match zsoc[o]?, zso0[o]? with
    | some t, some u => Nat.beq (zcoa t) u && zffo (gSTc t) (gST u)
    | _, _ => false) = true := by decide +kernel
theorem zcs_lt : ((List.range 195).all fun o => match zso0[o]? with
    | some u => Nat.blt u 78
    | _ => false) = true := by decide +kernel
theorem zso_l : zso0.length = 195 ∧ zsoc.length = 195 := by decide +kernel
theorem zcs_o {o t : Nat} (h : zsoc[o]? = some t) : zso0[o]? = some (zcoa t) ∧ zffo (gSTc t) (gST (zcoa t)) = true ∧ zcoa t < 78 := by
  have hl : o < 195 := by rw [← zso_l.2]; exact (List.getElem?_eq_some_iff.mp h).1
  have g := List.all_eq_true.mp zcs_so o (List.mem_range.mpr hl)
  have g2 := List.all_eq_true.mp zcs_lt o (List.mem_range.mpr hl)
  rw [h] at g
  split at g
  · rename_i u hu e1 e2
    cases e1
    rw [Bool.and_eq_true] at g
    have e := Nat.eq_of_beq_eq_true g.1
    rw [← e] at e2 g
    rw [e2] at g2
    exact ⟨e2, g.2, Nat.le_of_ble_eq_true g2⟩
  · cases g
theorem zrgl_e : ∀ {a b : List (Nat × Int × Int)}, zrgl a b = true → a = b
  | [], [], _ => rfl
  | f :: r, g :: s, h => by
    unfold zrgl at h
    rw [Bool.and_eq_true, Bool.and_eq_true, Bool.and_eq_true, ieq_iff, ieq_iff] at h
    obtain ⟨h1, h2, h3, h4⟩ := h
    rw [zrgl_e h4]
    obtain ⟨f1, f2, f3⟩ := f
    obtain ⟨g1, g2, g3⟩ := g
    have h1 : f1 = g1 := Nat.eq_of_beq_eq_true h1
    have h2 : f2 = g2 := h2
    have h3 : f3 = g3 := h3
    subst h1 h2 h3
    rfl
  | [], _ :: _, h => by cases h
  | _ :: _, [], h => by cases h
theorem zffl_a : ∀ {a b : List aF} {i : Nat} {f : aF}, zffl a b = true → b[i]? = some f → ∃ g, a[i]? = some g ∧ zffk g f = true
  | [], [], i, f, _, h => by cases h
  | g :: r, f2 :: s, 0, f, h, e => by
    unfold zffl at h
    rw [Bool.and_eq_true] at h
    cases e
    exact ⟨g, rfl, h.1⟩
  | g :: r, f2 :: s, i + 1, f, h, e => by
    unfold zffl at h
    rw [Bool.and_eq_true] at h
    exact zffl_a (a := r) (b := s) (i := i) h.2 e
  | [], _ :: _, _, _, h, _ => by cases h
  | _ :: _, [], _, _, h, _ => by cases h
theorem zffl_b : ∀ {a b : List aF} {i : Nat} {f : aF}, zffl a b = true → a[i]? = some f → ∃ g, b[i]? = some g ∧ zffk f g = true
  | [], [], i, f, _, h => by cases h
  | g :: r, f2 :: s, 0, f, h, e => by
    unfold zffl at h
    rw [Bool.and_eq_true] at h
    cases e
    exact ⟨f2, rfl, h.1⟩
  | g :: r, f2 :: s, i + 1, f, h, e => by
    unfold zffl at h
    rw [Bool.and_eq_true] at h
    exact zffl_b (a := r) (b := s) (i := i) h.2 e
  | [], _ :: _, _, _, h, _ => by cases h
  | _ :: _, [], _, _, h, _ => by cases h
theorem zffl_l : ∀ {a b : List aF}, zffl a b = true → a.length = b.length
  | [], [], _ => rfl
  | g :: r, f2 :: s, h => by
    unfold zffl at h
    rw [Bool.and_eq_true] at h
    rw [List.length_cons, List.length_cons, zffl_l h.2]
  | [], _ :: _, h => by cases h
  | _ :: _, [], h => by cases h
/-- what holds of a thing by its own things holds of it by the sorts -/
theorem zfn_co {ad : List Nat} {tys : List (ClassId × FieldType)} {o t : Nat} {e : va_E} (ht : zsoc[o]? = some t) (h : eOk zsoc ad tys gSTc t e) : eOk zso0 ad tys gST (zcoa t) e := by
  have hs := (zcs_o ht).2.1
  unfold eOk at h ⊢
  cases ha : gSTc t with
  | none => rw [ha] at h; exact absurd h id
  | some a =>
    cases hb : gST (zcoa t) with
    | none => rw [ha, hb] at hs; cases a <;> cases hs
    | some b =>
      rw [ha] at h hs
      rw [hb] at hs
      rcases a with p | p
      · rcases b with q | q
        · have hs : (Nat.beq p.1 q.1 && zffl p.2 q.2) = true := hs
          rw [Bool.and_eq_true] at hs
          obtain ⟨fs, rfl, h1, h2⟩ := h
          refine ⟨fs, by rw [Nat.eq_of_beq_eq_true hs.1], h1.trans (zffl_l hs.2), fun i f x hf hx => ?_⟩
          obtain ⟨g, hg, hk⟩ := zffl_a hs.2 hf
          have v := h2 i g x hg hx
          unfold zffk at hk
          split at hk
          · rw [Bool.and_eq_true, ieq_iff, ieq_iff] at hk
            obtain ⟨z, hz, z1, z2⟩ := v
            exact ⟨z, hz, by rw [← hk.1]; exact z1, by rw [← hk.2]; exact z2⟩
          · obtain ⟨o2, a2, k1, k2, k3⟩ := v
            have e := (zcs_o k1).1
            rw [Nat.eq_of_beq_eq_true hk] at e
            exact ⟨o2, a2, e, k2, k3⟩
          · exact v
          · cases hk
        · cases hs
      · rcases b with q | q
        · cases hs
        · have hs : (Nat.beq p.1 q.1 && (Nat.beq p.2.1 q.2.1 && (zrgl p.2.2.1 q.2.2.1 && Nat.beq (zcoa p.2.2.2) q.2.2.2))) = true := hs
          rw [Bool.and_eq_true, Bool.and_eq_true, Bool.and_eq_true] at hs
          obtain ⟨s1, s2, s3, s4⟩ := hs
          have s1 := Nat.eq_of_beq_eq_true s1
          have s2 := Nat.eq_of_beq_eq_true s2
          have s3 := zrgl_e s3
          have s4 := Nat.eq_of_beq_eq_true s4
          show (q.1 < 3 ∧ _) ∨ (q.1 = 3 ∧ _) ∨ (q.1 = 4 ∧ _)
          rw [← s1, ← s2, ← s3, ← s4]
          rcases h with h | h | ⟨h1, cA, C, f, t0, h2, h3, h4⟩
          · exact Or.inl h
          · exact Or.inr (Or.inl h)
          · exact Or.inr (Or.inr ⟨h1, cA, C, f, t0, h2, h3, fun j hj => by
              obtain ⟨o2, a2, k1, k2, k3⟩ := h4 j hj
              exact ⟨o2, a2, (zcs_o k1).1, k2, k3⟩⟩)
theorem rf_inj {a b : Option Nat} (h : va_rf a = va_rf b) : a = b := by
  cases a with
  | none => cases b with
    | none => rfl
    | some y => cases h
  | some x => cases b with
    | none => cases h
    | some y => cases h; rfl
/-- by the sorts, and its own things as they were -/
theorem zfn_fr {ad : List Nat} {tys : List (ClassId × FieldType)} {md : aMd} {o t : Nat} {e e2 : va_E} (hm : mdnr md = true) (ht : zsoc[o]? = some t) (h : eOk zsoc ad tys gSTc t e) (h2 : eOk zso0 ad tys gST (zcoa t) e2) (hf : ∀ i : Nat, (∀ q ∈ md, ¬ (q.1 = zcoa t ∧ q.2.1 ≤ i ∧ i < q.2.2)) → gcl e2 i = gcl e i) : eOk zsoc ad tys gSTc t e2 := by
  obtain ⟨-, hs, hlt⟩ := zcs_o ht
  have hm := List.all_eq_true.mp hm (zcoa t) (List.mem_range.mpr hlt)
  unfold eOk at h h2 ⊢
  cases ha : gSTc t with
  | none => rw [ha] at h; exact absurd h id
  | some a =>
    cases hb : gST (zcoa t) with
    | none => rw [ha, hb] at hs; cases a <;> cases hs
    | some b =>
      rw [ha] at h hs
      rw [hb] at hs h2 hm
      rcases a with p | p
      · rcases b with q | q
        · have hs : (Nat.beq p.1 q.1 && zffl p.2 q.2) = true := hs
          rw [Bool.and_eq_true] at hs
          obtain ⟨fs, rfl, h1, h3⟩ := h
          obtain ⟨fs2, rfl, k1, k3⟩ := h2
          refine ⟨fs2, by rw [Nat.eq_of_beq_eq_true hs.1], k1.trans (zffl_l hs.2).symm, fun i f x hf2 hx => ?_⟩
          obtain ⟨g, hg, hk⟩ := zffl_b hs.2 hf2
          have v := k3 i g x hg hx
          unfold zffk at hk
          split at hk
          · rw [Bool.and_eq_true, ieq_iff, ieq_iff] at hk
            obtain ⟨z, hz, z1, z2⟩ := v
            exact ⟨z, hz, by rw [hk.1]; exact z1, by rw [hk.2]; exact z2⟩
          · have hi : i < q.2.length := (List.getElem?_eq_some_iff.mp hg).1
            have hm := List.all_eq_true.mp hm i (List.mem_range.mpr hi)
            rw [hg] at hm
            have e := hf i (fun q2 hq2 ⟨w1, w2, w3⟩ => by
              have := List.all_eq_true.mp hm q2 hq2
              rw [w1, Nat.beq_refl, Nat.ble_eq_true_of_le w2, show Nat.blt i q2.2.2 = true from Nat.ble_eq_true_of_le w3] at this
              exact absurd this (by decide))
            have e : fs2[i]? = fs[i]? := e
            rw [hx] at e
            exact h3 i _ x hf2 e.symm
          · exact v
          · cases hk
        · cases hs
      · rcases b with q | q
        · cases hs
        · have hs : (Nat.beq p.1 q.1 && (Nat.beq p.2.1 q.2.1 && (zrgl p.2.2.1 q.2.2.1 && Nat.beq (zcoa p.2.2.2) q.2.2.2))) = true := hs
          rw [Bool.and_eq_true, Bool.and_eq_true, Bool.and_eq_true] at hs
          obtain ⟨s1, s2, s3, s4⟩ := hs
          have s1 := Nat.eq_of_beq_eq_true s1
          have s2 := Nat.eq_of_beq_eq_true s2
          have s3 := zrgl_e s3
          show (p.1 < 3 ∧ _) ∨ (p.1 = 3 ∧ _) ∨ (p.1 = 4 ∧ _)
          have h2 : (q.1 < 3 ∧ _) ∨ (q.1 = 3 ∧ _) ∨ (q.1 = 4 ∧ _) := h2
          rw [← s1, ← s2, ← s3] at h2
          rcases h2 with h2 | h2 | ⟨h1, cA, C, f, t0, rfl, h3, h4⟩
          · exact Or.inl h2
          · exact Or.inr (Or.inl h2)
          · rcases h with ⟨w, -⟩ | ⟨w, -⟩ | ⟨-, cA2, C2, f2, t2, rfl, k3, k4⟩
            · omega
            · omega
            · refine Or.inr (Or.inr ⟨h1, cA, C, f, t0, rfl, h3, fun j hj => ?_⟩)
              have hm : (bif Nat.beq q.1 4 then md.all (fun r => !(Nat.beq r.1 (zcoa t))) else true) = true := hm
              rw [← s1, h1] at hm
              have e := hf j (fun q2 hq2 ⟨w1, _, _⟩ => by
                have := List.all_eq_true.mp hm q2 hq2
                rw [w1, Nat.beq_refl] at this
                exact absurd this (by decide))
              have e : (if j < p.2.1 then some (va_rf (f j)) else none) = (if j < p.2.1 then some (va_rf (f2 j)) else none) := e
              rw [if_pos hj, if_pos hj] at e
              have e := rf_inj (Option.some.inj e)
              rw [e]
              exact k4 j hj
section ZTP
variable {E : zE}
theorem zFn_fr {md : aMd} {ws ws2 : va_W} (hm : mdnr md = true) (hE : zso E = zso0) (hf : fRel (zso E) md ws ws2) (hw : wOk (zso E) (zad E) E.2.2.2.2.2.2.1 gST ws) (hw2 : wOk (zso E) (zad E) E.2.2.2.2.2.2.1 gST ws2) (h : zFn E ws) : zFn E ws2 := by
  intro o t q hq ht
  have hc := (zcs_o ht).1
  have hl : o < ws2.length := (List.getElem?_eq_some_iff.mp hq).1
  have hll : ws2.length = ws.length := by
    have a := congrArg List.length (hw.1.trans hw2.1.symm)
    unfold ead at a
    rw [List.length_map, List.length_map] at a
    exact a.symm
  have hx : ws[o]? = some ws[o] := List.getElem?_eq_getElem (by omega)
  refine zfn_fr hm ht (h o t _ hx ht) ?_ (fun i hi => ?_)
  · have := (hw2.2.2 o (zcoa t) q hq (by rw [hE]; exact hc)).1
    rw [hE] at this
    exact this
  · have e := hf o (zcoa t) i (by rw [hE]; exact hc) hi
    unfold gcv at e
    rw [hq, hx] at e
    exact e
theorem zBy_fr {md : aMd} {ws ws2 : va_W} (h1 : ∀ q ∈ md, ¬ q.1 = 34) (h2 : ∀ q ∈ md, ¬ q.1 = 51) (hf : fRel (zso E) md ws ws2) (h : zBy E ws) : zBy E ws2 := by
  obtain ⟨c, r, k1, k2, k3⟩ := h
  exact ⟨c, r, k1, k2, fun i hi => by rw [hf c 34 i k1 (fun q hq w => h1 q hq w.1), hf r 51 i k2 (fun q hq w => h2 q hq w.1)]; exact k3 i hi⟩
theorem zLg_fr {md : aMd} {t : Nat} {f : Int → Int} {ws ws2 : va_W} (h1 : ∀ q ∈ md, ¬ q.1 = t) (hf : fRel (zso E) md ws ws2) (h : zLg E t f ws) : zLg E t f ws2 := by
  obtain ⟨k, k1, k2⟩ := h
  exact ⟨k, k1, fun j hj => by rw [hf k t j k1 (fun q hq w => h1 q hq w.1)]; exact k2 j hj⟩
theorem zTp_fr {md : aMd} {ws ws2 : va_W} (hm : mdk md = true) (hf : fRel (zso E) md ws ws2) (hw : wOk (zso E) (zad E) E.2.2.2.2.2.2.1 gST ws) (hw2 : wOk (zso E) (zad E) E.2.2.2.2.2.2.1 gST ws2) (h : zTp E ws) : zTp E ws2 := by
  unfold mdk at hm
  rw [Bool.and_eq_true] at hm
  obtain ⟨m1, m2⟩ := hm
  have m2 : ∀ q ∈ md, ¬ q.1 = 34 ∧ ¬ q.1 = 51 ∧ ¬ q.1 = 35 ∧ ¬ q.1 = 56 := fun q hq => by
    have g := List.all_eq_true.mp m2 q hq
    rw [Bool.and_eq_true, Bool.and_eq_true, Bool.and_eq_true] at g
    obtain ⟨a, b, c, d⟩ := g
    refine ⟨fun e => ?_, fun e => ?_, fun e => ?_, fun e => ?_⟩
    · rw [e] at a; exact absurd a (by decide)
    · rw [e] at b; exact absurd b (by decide)
    · rw [e] at c; exact absurd c (by decide)
    · rw [e] at d; exact absurd d (by decide)
  obtain ⟨h1, h2, h3, h4, h5⟩ := h
  exact ⟨h1, zFn_fr m1 h1 hf hw hw2 h2, zBy_fr (fun q hq => (m2 q hq).1) (fun q hq => (m2 q hq).2.1) hf h3, zLg_fr (fun q hq => (m2 q hq).2.2.1) hf h4, zLg_fr (fun q hq => (m2 q hq).2.2.2) hf h5⟩
end ZTP
