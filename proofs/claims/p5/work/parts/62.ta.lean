/-! BETWEEN THE WORLD AND THE EXACT WALKS -/
noncomputable section
abbrev zgE (E : zE) (mi : eM) (pc : Nat) (lv : List (Nat × Value)) (st : List Value) (ws : va_W) (ce sl : Nat) (K : gK) : Prop := gG E.1 E.2.1 E.2.2.1 E.2.2.2.1 E.2.2.2.2.1 E.2.2.2.2.2.1 E.2.2.2.2.2.2.1 E.2.2.2.2.2.2.2.1 E.2.2.2.2.2.2.2.2.1 E.2.2.2.2.2.2.2.2.2.1 E.2.2.2.2.2.2.2.2.2.2.1 mi pc lv st ws ce sl K
/-- a sort that the class's reader doesn't split -/
def okc (t : Nat) : Bool := [8, 36, 37, 38, 39, 40, 41, 42, 43, 1, 17, 18, 19, 20, 21, 6, 31, 32, 33].all fun n => !(Nat.beq n t)
end
theorem sg_can {so : List Nat} {uq : Nat → Bool} {ps : Nat → Nat} (hU : ∀ t, uq t = true → ∀ o o2 : Nat, so[o]? = some t → so[o2]? = some t → o = o2) (hp : ∀ t, uq t = true → ∀ o : Nat, so[o]? = some t → o = ps t) (ws : va_W) : ∃ σ : vS, vsgL so uq ws σ ∧ ∀ t, uq t = true → σ t = zci ws (ps t) := by
  obtain ⟨σ, h1, h2⟩ := sg_exL hU ws (fun t => if uq t = true then zci ws (ps t) else fun _ => 0)
  refine ⟨σ, h1, fun t ht => funext fun i => ?_⟩
  rw [h2 t i]
  · rw [if_pos ht]
  · intro o z ho hi hz
    rw [if_pos ht, ← hp t ht o ho]
    have e := zci_int hz
    rw [show ((i.toNat : Nat) : Int) = i by omega] at e
    exact e.symm
  · intro o z ho hi hz
    rw [if_pos ht, ← hp t ht o ho]
    have e := zci_long hz
    rw [show ((i.toNat : Nat) : Int) = i by omega] at e
    exact e.symm
theorem zf_same : ((List.range 195).all fun o => match zso0[o]?, zsoc[o]? with
    | some u, some t => !(okc u) || Nat.beq t u
    | _, _ => false) = true := by decide +kernel
theorem zf_to {o t : Nat} (h : zso0[o]? = some t) (ht : okc t = true) : zsoc[o]? = some t := by
  have hl : o < 195 := by rw [← zso_l.1]; exact (List.getElem?_eq_some_iff.mp h).1
  have g := List.all_eq_true.mp zf_same o (List.mem_range.mpr hl)
  rw [h] at g
  split at g
  · rename_i u t2 e1 e2
    cases e1
    rw [ht] at g
    rw [e2, Nat.eq_of_beq_eq_true g]
  · cases g
theorem xcd_cg {f f2 : Nat → Int32} {a N : Nat} (h : ∀ j, j < N → f2 j = f j) {i : Nat} (hi : a + 1 + 3 * i < N) : xcd f2 a i = xcd f a i := by
  unfold xcd
  rw [h _ hi]
theorem xdp_cg {f f2 : Nat → Int32} {a N : Nat} (h : ∀ j, j < N → f2 j = f j) : ∀ i : Nat, a + 1 + 3 * i < N + 3 → xdp f2 a i = xdp f a i
  | 0, _ => rfl
  | i + 1, hi => by
    show xdp f2 a i + (if xcd f2 a i = 20 then 0 else if xcd f2 a i = 21 ∨ xcd f2 a i = 22 then -1 else 1) = xdp f a i + (if xcd f a i = 20 then 0 else if xcd f a i = 21 ∨ xcd f a i = 22 then -1 else 1)
    rw [xdp_cg h i (by omega), xcd_cg h (i := i) (by omega)]
theorem xVP_cg {f f2 : Nat → Int32} {a N : Nat} (h : ∀ j, j < N → f2 j = f j) (ha : a < N) (hN : a + 160 ≤ N) (hb : (f a).toInt ≤ 53) (hx : xVP f a) : xVP f2 a := by
  intro i hi
  rw [h a ha] at hi
  have := hx i hi
  rw [xcd_cg h (i := i) (by omega), xdp_cg h i (by omega)]
  exact this
theorem xE_fr {ad : List Nat} {tys : List (ClassId × FieldType)} {so : List Nat} {t : Nat} {e e2 : va_E} (h1 : eOk so ad tys gST t e) (h2 : eOk so ad tys gST t e2) (hc : ∀ i, gcl e2 i = gcl e i) (hx : xE t e) : xE t e2 := by
  by_cases h52 : t = 52 ∨ t = 74
  · intro cA2 n2 f2 he2
    subst he2
    obtain ⟨ob, hob, k3, kl⟩ : ∃ ob, gST t = some (.inr ob) ∧ ob.1 < 3 ∧ (t = 52 → ob.2.1 = 402 ∧ rgAt ob.2.2.1 221 = some (.ofNat 0, .ofNat 53)) ∧ (t = 74 → ob.2.1 = 804 ∧ rgAt ob.2.2.1 221 = some (.ofNat 0, .ofNat 53) ∧ rgAt ob.2.2.1 623 = some (.ofNat 0, .ofNat 53)) := by
      rcases h52 with rfl | rfl
      · exact ⟨_, rfl, by decide, ⟨fun _ => ⟨rfl, rfl⟩, fun q => absurd q (by decide)⟩⟩
      · exact ⟨_, rfl, by decide, ⟨fun q => absurd q (by decide), fun _ => ⟨rfl, rfl, rfl⟩⟩⟩
    unfold eOk at h1 h2
    rw [hob] at h1 h2
    rcases h1 with ⟨-, cA, f, t0, rfl, -, hr⟩ | ⟨w, -⟩ | ⟨w, -⟩
    · rcases h2 with ⟨-, cA3, f3, t3, e3, -, hr3⟩ | ⟨w, -⟩ | ⟨w, -⟩
      · injection e3 with e3
        injection e3 with e3 e4
        injection e4 with e4 e5
        have e5 : f2 = f3 := by injection e5
        subst e4 e5
        have hj : ∀ j, j < ob.2.1 → f2 j = f j := fun j hj => by
          have e := hc j
          have e : (if j < ob.2.1 then some (Value.int (f2 j)) else none) = (if j < ob.2.1 then some (Value.int (f j)) else none) := e
          rw [if_pos hj, if_pos hj] at e
          injection e with e
          injection e
        have hx := hx cA ob.2.1 f rfl
        constructor
        · intro q
          obtain ⟨l1, l2⟩ := kl.1 q
          obtain ⟨w, w1, w2, w3⟩ := hr 221 (by rw [l1]; decide)
          rw [l2] at w1
          cases w1
          exact xVP_cg hj (by rw [l1]; decide) (by rw [l1]; decide) w3 (hx.1 q)
        · intro q
          obtain ⟨l1, l2, l3⟩ := kl.2 q
          obtain ⟨w, w1, w2, w3⟩ := hr 221 (by rw [l1]; decide)
          rw [l2] at w1
          cases w1
          obtain ⟨v, v1, v2, v3⟩ := hr 623 (by rw [l1]; decide)
          rw [l3] at v1
          cases v1
          exact ⟨xVP_cg hj (by rw [l1]; decide) (by rw [l1]; decide) w3 (hx.2 q).1, xVP_cg hj (by rw [l1]; decide) (by rw [l1]; decide) v3 (hx.2 q).2⟩
      · omega
      · omega
    · omega
    · omega
  · intro cA n f _
    exact ⟨fun q => absurd (Or.inl q) h52, fun q => absurd (Or.inr q) h52⟩
theorem jOk_cg {so : List Nat} {JL : List aJ} {ws ws2 : va_W} (h1 : ∀ J ∈ JL, ∀ (o i : Nat), so[o]? = some J.1 → gcv ws2 o i = gcv ws o i) (h2 : ∀ J ∈ JL, ∀ q ∈ J.2.2.1, ∀ (o i : Nat), so[o]? = some q.2.1 → gcv ws2 o i = gcv ws o i) (h : jOk so JL ws) : jOk so JL ws2 := by
  intro J hJ o y ho hy i hi
  rw [h1 J hJ o _ ho] at hy
  obtain ⟨bx, hb, hl, hr⟩ := h J hJ o y ho hy i hi
  refine ⟨bx, hb, hl, fun c q w hq hw o2 z ho2 hz => ?_⟩
  rw [h2 J hJ q (List.mem_of_getElem? hq) o2 _ ho2] at hz
  exact hr c q w hq hw o2 z ho2 hz
theorem gJ1_ok : (gJ1.all fun J => (okc J.1 && (!(Nat.beq J.1 7) && !(Nat.beq J.1 34))) && J.2.2.1.all fun q => okc q.2.1 && (!(Nat.beq q.2.1 7) && !(Nat.beq q.2.1 34))) = true := by decide +kernel
section ZTA
variable {E : zE}
/-- what the class's exact walks write: the reader's things alone -/
def mdcl (md : aMd) : Bool := md.all fun q => Nat.beq q.1 7 || Nat.ble 78 q.1
/-- .. and the bytes -/
def mdcl2 (md : aMd) : Bool := md.all fun q => Nat.beq q.1 7 || (Nat.beq q.1 34 || Nat.ble 78 q.1)
theorem zf_keep {md : aMd} {ws ws2 : va_W} (hm : mdcl2 md = true) (hf : fRel zsoc md ws ws2) {o t i : Nat} (h : zso0[o]? = some t) (ht : okc t = true) (h7 : ¬ t = 7) (h34 : t = 34 → mdcl md = true) : gcv ws2 o i = gcv ws o i := by
  have hlt : t < 78 := by
    have hl : o < 195 := by rw [← zso_l.1]; exact (List.getElem?_eq_some_iff.mp h).1
    have g2 := List.all_eq_true.mp zcs_lt o (List.mem_range.mpr hl)
    rw [h] at g2
    exact Nat.le_of_ble_eq_true g2
  refine hf o t i (zf_to h ht) (fun q hq w => ?_)
  by_cases q34 : t = 34
  · have g := List.all_eq_true.mp (h34 q34) q hq
    rw [w.1, Bool.or_eq_true] at g
    rcases g with g | g
    · exact h7 (Nat.eq_of_beq_eq_true g)
    · have := Nat.le_of_ble_eq_true g; omega
  · have g := List.all_eq_true.mp hm q hq
    rw [w.1, Bool.or_eq_true, Bool.or_eq_true] at g
    rcases g with g | g | g
    · exact h7 (Nat.eq_of_beq_eq_true g)
    · exact q34 (Nat.eq_of_beq_eq_true g)
    · have := Nat.le_of_ble_eq_true g; omega
theorem zc_back {md : aMd} {ws ws2 : va_W} (hm : mdcl2 md = true) (hE : zso E = zso0) (hw : wOk (zso E) (zad E) E.2.2.2.2.2.2.1 gST ws) (hj : jOk (zso E) gJ1 ws) (h0 : wOk0 E.2.2.2.2.2.2.1 zsoc (zad E) gSTc ws2) (hf : fRel zsoc md ws ws2) : wOk (zso E) (zad E) E.2.2.2.2.2.2.1 gST ws2 ∧ jOk (zso E) gJ1 ws2 ∧ zFn E ws2 := by
  rw [hE] at hw hj ⊢
  refine ⟨⟨h0.1, hw.2.1, fun o t q hq ht => ?_⟩, ?_, fun o t q hq ht => h0.2.2 o t q hq ht⟩
  · have hl : o < 195 := by rw [← zso_l.1]; exact (List.getElem?_eq_some_iff.mp ht).1
    have hc : zsoc[o]? = some zsoc[o] := List.getElem?_eq_getElem (by rw [zso_l.2]; exact hl)
    have g := zfn_co hc (h0.2.2 o _ q hq hc)
    have e := (zcs_o hc).1
    rw [ht] at e
    cases e
    refine ⟨g, ?_⟩
    have hl2 : o < ws2.length := (List.getElem?_eq_some_iff.mp hq).1
    have hll : ws2.length = ws.length := by
      have a := congrArg List.length (hw.1.trans h0.1.symm)
      unfold ead at a
      rw [List.length_map, List.length_map] at a
      exact a.symm
    have hx : ws[o]? = some ws[o] := List.getElem?_eq_getElem (by omega)
    by_cases h52 : zcoa zsoc[o] = 52 ∨ zcoa zsoc[o] = 74
    · refine xE_fr (hw.2.2 o _ _ hx ht).1 g (fun i => ?_) (hw.2.2 o _ _ hx ht).2
      have e := zf_keep hm hf (i := i) ht (by rcases h52 with h | h <;> rw [h] <;> decide) (by omega) (fun q => by omega)
      unfold gcv at e
      rw [hq, hx] at e
      exact e
    · intro cA n f _
      exact ⟨fun q => absurd (Or.inl q) h52, fun q => absurd (Or.inr q) h52⟩
  · have g := List.all_eq_true.mp gJ1_ok
    have key : ∀ t, (okc t && (!(Nat.beq t 7) && !(Nat.beq t 34))) = true → ∀ (o i : Nat), zso0[o]? = some t → gcv ws2 o i = gcv ws o i := fun t ht o i ho => by
      rw [Bool.and_eq_true, Bool.and_eq_true] at ht
      refine zf_keep hm hf ho ht.1 (fun q => ?_) (fun q => ?_)
      · rw [q] at ht; exact absurd ht.2.1 (by decide)
      · rw [q] at ht; exact absurd ht.2.2 (by decide)
    refine jOk_cg (fun J hJ o i ho => ?_) (fun J hJ q hq o i ho => ?_) hj
    · have gg := g J hJ
      rw [Bool.and_eq_true] at gg
      exact key _ gg.1 o i ho
    · have gg := g J hJ
      rw [Bool.and_eq_true] at gg
      exact key _ (List.all_eq_true.mp gg.2 q hq) o i ho
/-- the class, walked exactly -/
theorem zg_ofC {mi : eM} {md : aMd} {ws : va_W} (hw : wOk (zso E) (zad E) E.2.2.2.2.2.2.1 gST ws) (hT : zFn E ws) (hl : zsoc.length = (zad E).length) {vs : List vVL} {asx : List Value} (ha : vsRL zsoc (zad E) vs asx) {Kg : gK}
    (h : ∀ σ : vS, vsgL zsoc uqc ws σ → (∀ t, uqc t = true → σ t = zci ws (zucp t)) → zGC E md ws mi 0 (vargsL vs 0) σ (fun ret σ2 => ∀ (ws2 : va_W) (rv : Option Value), wOk0 E.2.2.2.2.2.2.1 zsoc (zad E) gSTc ws2 → fRel zsoc md ws ws2 → vsgL zsoc uqc ws2 σ2 → vRtL zsoc (zad E) ret rv → Kg rv ws2)) :
    zgE E mi 0 (lv_args 0 asx) [] ws 0 0 Kg := by
  obtain ⟨σ, s1, s2⟩ := sg_can (so := zsoc) (uq := uqc) (ps := zucp) zsoc_2 (fun t ht o ho => zsoc_1 ho ht) ws
  have hW : vWL E.2.2.2.2.2.2.1 zsoc (zad E) gSTc [] md ws uqc ws σ := ⟨⟨hw.1, hl, fun o t q hq ht => hT o t q hq ht⟩, fun J hJ => absurd hJ List.not_mem_nil, fRel_refl, s1⟩
  refine h σ s1 s2 Kg (lv_args 0 asx) [] ws hW (vargs_okL 0 ha) trivial ?_
  intro ret σ2 ws2 rv hk hW2 hrt
  exact hk ws2 rv hW2.1 hW2.2.2.1 hW2.2.2.2 hrt
/-- the reference -/
theorem zg_ofL (B : zB E) (hE : zso E = zso0) {mi : eM} {md : aMd} {ws : va_W} (hw : wOk (zso E) (zad E) E.2.2.2.2.2.2.1 gST ws) (hj : jOk (zso E) gJ1 ws) {vs : List vVL} {asx : List Value} (ha : vsRL (zso E) (zad E) vs asx) {Kg : gK}
    (h : ∀ σ : vS, vX σ → vsgL (zso E) zuq ws σ → (∀ t, zuq t = true → σ t = zci ws (zps t)) → zGL E gJ1 md ws mi 0 (vargsL vs 0) σ (fun ret σ2 => vX σ2 ∧ ∀ (ws2 : va_W) (rv : Option Value), wOk (zso E) (zad E) E.2.2.2.2.2.2.1 gST ws2 → jOk (zso E) gJ1 ws2 → fRel (zso E) md ws ws2 → vsgL (zso E) zuq ws2 σ2 → vRtL (zso E) (zad E) ret rv → Kg rv ws2)) :
    zgE E mi 0 (lv_args 0 asx) [] ws 0 0 Kg := by
  have hU := B.2.2.2.2.2.2.1
  have hex : (∃ o : Nat, (zso E)[o]? = some 52) ∧ ∃ o : Nat, (zso E)[o]? = some 74 := ⟨B.2.2.2.2.2.2.2 52 rfl, B.2.2.2.2.2.2.2 74 rfl⟩
  obtain ⟨σ, s1, s2⟩ := sg_can (so := zso E) (uq := zuq) (ps := zps) hU (fun t ht o ho => by rw [hE] at ho; exact so_one ho (so_uq t (zuq_lt ht) ht).1) ws
  have hW : vWL E.2.2.2.2.2.2.1 (zso E) (zad E) gST gJ1 md ws zuq ws σ := ⟨⟨hw.1, hw.2.1, fun o t q hq ht => (hw.2.2 o t q hq ht).1⟩, hj, fRel_refl, s1⟩
  refine h σ (of_wL z_vXh ⟨rfl, rfl⟩ hex hW hw) s1 s2 Kg (lv_args 0 asx) [] ws hW (vargs_okL 0 ha) trivial ?_
  intro ret σ2 ws2 rv ⟨x1, hk⟩ hW2 hrt
  exact hk ws2 rv (w_ofL z_vXh ⟨rfl, rfl⟩ hW2 x1) hW2.2.1 hW2.2.2.1 hW2.2.2.2 hrt
end ZTA
