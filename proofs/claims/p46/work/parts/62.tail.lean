/-! IMAGES: the reference's call, exactly; then the two cases of the law. -/
section ZTL
variable {E : zE} {oX oM oO oT ax am ao : Nat}
abbrev zgE (E : zE) (mi : eM) (pc : Nat) (lv : List (Nat × Value)) (st : List Value) (ws : va_W) (ce sl : Nat) (K : gK) : Prop := gG E.1 E.2.1 E.2.2.1 E.2.2.2.1 E.2.2.2.2.1 E.2.2.2.2.2.1 E.2.2.2.2.2.2.1 E.2.2.2.2.2.2.2.1 E.2.2.2.2.2.2.2.2.1 E.2.2.2.2.2.2.2.2.2.1 E.2.2.2.2.2.2.2.2.2.2.1 mi pc lv st ws ce sl K
/-- a method of the reference with one int, walked exactly -/
theorem zg_of (B : zB E) {mi : eM} {md : aMd} {ws : va_W} (hw : wOk (zso E) (zad E) E.2.2.2.2.2.2.1 gST ws) (hj : jOk (zso E) gJ1 ws) (m1 : (zso E)[oM]? = some 12) (m2 : (zad E)[oM]? = some am) {x : Int32} {Kg : gK}
    (h : ∀ σ : vS, vX σ → vBd (zso E) gST zuq σ → vsg (zso E) zuq ws σ → zG E gJ1 md ws mi 0 [(0, .inr (.inl 12)), (1, .inl x.toInt)] σ (fun ret σ2 => vX σ2 ∧ ∀ (ws2 : va_W) (rv : Option Value), wOk (zso E) (zad E) E.2.2.2.2.2.2.1 gST ws2 → jOk (zso E) gJ1 ws2 → fRel (zso E) md ws ws2 → vsg (zso E) zuq ws2 σ2 → vRt (zso E) (zad E) ret rv → Kg rv ws2)) :
    zgE E mi 0 (lv_args 0 [.ref am, .int x]) [] ws 0 0 Kg := by
  have hU := B.2.2.2.2.2.2.1
  have hex : (∃ o : Nat, (zso E)[o]? = some 52) ∧ ∃ o : Nat, (zso E)[o]? = some 74 := ⟨B.2.2.2.2.2.2.2 52 rfl, B.2.2.2.2.2.2.2 74 rfl⟩
  obtain ⟨σ, s1, -⟩ := sg_ex hU ws (fun _ _ => 0)
  have hW : vW E.2.2.2.2.2.2.1 (zso E) (zad E) gST gJ1 md ws zuq ws σ := ⟨⟨hw.1, hw.2.1, fun o t q hq ht => (hw.2.2 o t q hq ht).1⟩, hj, fRel_refl, s1⟩
  refine h σ (of_w z_vXh ⟨rfl, rfl⟩ hex hW hw) (vBd_of hW) s1 Kg (lv_args 0 [.ref am, .int x]) [] ws hW ?_ trivial ?_
  · intro q hq
    rcases List.mem_cons.mp hq with rfl | hq
    · exact ⟨.ref am, List.mem_cons_self, oM, am, m1, m2, rfl⟩
    have e := List.mem_singleton.mp hq
    subst e
    exact ⟨.int x, List.mem_cons_of_mem _ List.mem_cons_self, x, rfl, rfl⟩
  · intro ret σ2 ws2 rv ⟨x1, hk⟩ hW2 hrt
    exact hk ws2 rv (w_of z_vXh ⟨rfl, rfl⟩ hW2 x1) hW2.2.1 hW2.2.2.1 hW2.2.2.2 hrt
/-- the reference itself -/
theorem zr_at {ws : va_W} (w1 : wOk (zso E) (zad E) E.2.2.2.2.2.2.1 gST ws) (m1 : (zso E)[oM]? = some 12) (m2 : (zad E)[oM]? = some am) : ∃ fs, ws[oM]? = some (am, (.inr (12, fs) : va_E)) := by
  obtain ⟨a, e, g1, g2, g3⟩ := w0_at (ST := gST) (tys := E.2.2.2.2.2.2.1) ⟨w1.1, w1.2.1, fun o t q hq ht => (w1.2.2 o t q hq ht).1⟩ m1
  unfold eOk at g3
  obtain ⟨ob, hob, hf⟩ : ∃ ob, gST 12 = some (.inl ob) ∧ ob.1 = 12 := ⟨_, rfl, rfl⟩
  rw [hob] at g3
  obtain ⟨fs, rfl, -, -⟩ := g3
  rw [m2] at g2
  cases g2
  exact ⟨fs, by rw [g1, hf]⟩
/-- the reference's two -/
theorem zk_cell {ws : va_W} (w1 : wOk (zso E) (zad E) E.2.2.2.2.2.2.1 gST ws) {q : Nat} (hq : (zso E)[q]? = some 76) {n : Nat} (hn : n < 2) : ∃ y : Int32, gcv ws q n = some (.int y) := by
  obtain ⟨a, e, g1, g2, g3⟩ := w0_at (ST := gST) (tys := E.2.2.2.2.2.2.1) ⟨w1.1, w1.2.1, fun o t q hq ht => (w1.2.2 o t q hq ht).1⟩ hq
  unfold eOk at g3
  obtain ⟨ob, hob, hf, hm⟩ : ∃ ob, gST 76 = some (.inr ob) ∧ ob.1 < 3 ∧ ob.2.1 = 2 := ⟨_, rfl, by decide, rfl⟩
  rw [hob] at g3
  rcases g3 with ⟨-, cA, f, t0, rfl, -, -⟩ | ⟨h3, -⟩ | ⟨h4, -⟩
  · rw [gcv_at g1]
    exact ⟨f n, if_pos (by rw [hm]; exact hn)⟩
  · omega
  · omega
/-- what the law pushes ahead of the reference's call -/
theorem z_push {i : Int32} (hi : 0 ≤ i.toInt ∧ i.toInt + 6 ≤ (E.2.2.1 : Int)) (hLS : E.2.2.1 ≤ 3072) {pc : Nat} (n0 : (pc, Instr.aload_n 2, 1) ∈ ga_297) (n1 : (pc + 1, Instr.aload_n 0, 1) ∈ ga_297) (n2 : (pc + 2, Instr.iload 4, 2) ∈ ga_297) (n3 : (pc + 4, Instr.iconst 1, 1) ∈ ga_297) (n4 : (pc + 5, Instr.iadd, 1) ∈ ga_297) (n5 : (pc + 6, Instr.iaload, 1) ∈ ga_297) {z : Int32} {st : List Value} {ws : va_W} {ce sl : Nat} {K : gK}
    (h : ∀ x : Int32, x.toInt = zρ E i z 4 → zGl E (pc + 7) (zlv E ax am ao i) (.int x :: .ref am :: st) ws ce sl K) : zGl E pc (zlv E ax am ao i) st ws ce sl K := by
  have i1 : (i + Int32.ofInt 1).toInt = i.toInt + 1 := by
    have c1 : (Int32.ofInt 1).toInt = 1 := rfl
    rw [i_add (x := i) (y := Int32.ofInt 1) (by rw [c1]; omega) (by rw [c1]; omega), c1]
  refine g_aload (j := 2) (len := 1) (i := .aload_n 2) (Or.inr ⟨2, rfl, rfl, rfl⟩) n0 (a := am) (List.mem_cons_of_mem _ (List.mem_cons_of_mem _ List.mem_cons_self)) ?_
  refine g_aload (j := 0) (len := 1) (i := .aload_n 0) (Or.inr ⟨0, rfl, rfl, rfl⟩) n1 (a := E.1) List.mem_cons_self ?_
  refine g_iload (j := 4) (len := 2) (i := .iload 4) (Or.inl ⟨rfl, rfl⟩) n2 (z := i) (List.mem_cons_of_mem _ (List.mem_cons_of_mem _ (List.mem_cons_of_mem _ (List.mem_cons_of_mem _ List.mem_cons_self)))) ?_
  refine g_iconst (n := 1) n3 ?_
  refine g_iadd n4 ?_
  refine g_sld rfl n5 (vp_of (lo := i.toInt + 1) (hi := i.toInt + 1) (by omega) (by omega) (by omega) (by omega)).1 ?_
  refine h _ ?_
  rw [zq_s (E := E) i z 1 (by decide)]
  have e : (i + Int32.ofInt 1).toNatClampNeg = (zρ E i z 2 + ((1 : Nat) : Int)).toNat := by
    show (i + Int32.ofInt 1).toInt.toNat = (i.toInt + 1).toNat
    rw [i1]
  rw [e]
theorem zk_fr1 {md : aMd} {ws ws2 : va_W} (hf : fRel (zso E) md ws ws2) {o t n : Nat} (ho : (zso E)[o]? = some t) (hm : ∀ q ∈ md, ¬ (q.1 = t ∧ q.2.1 ≤ n ∧ n < q.2.2)) {x : Option Value} (h : gcv ws o n = x) : gcv ws2 o n = x := (hf o t n ho hm).trans h
theorem z_im1 (B : zB E) (A : zA E gJ1) (F : zFx E oX oM oO oT ax am ao) (hLS : E.2.2.1 ≤ 3072) {i z : Int32} {ws : va_W} {ce sl : Nat} {K : gK} (G : (0 ≤ i.toInt ∧ i.toInt + 6 ≤ (E.2.2.1 : Int)) ∧ (0 ≤ z.toInt ∧ z.toInt ≤ 940) ∧ zWl E oM oT z ws ∧ ce + 1 ≤ 601024 ∧ sl + 6 ≤ 7293034)
    {v k c : Nat} {L : List (Nat × List aCon)} (P : zP E gJ1 L) (hseg : gLwK L 1450 (zKA v k) (zKT 1461 v k c []) = true) (hk : k ≤ 1) (h4 : zρ E i z 4 = (k : Int)) {p q : Nat} {y y0 y1 : Int32} (k1 : (zso E)[p]? = some 11 ∧ ∀ o : Nat, (zso E)[o]? = some 11 → o = p) (k2 : (zso E)[q]? = some 76) (k3 : gcv ws p 16 = some (.int y)) (k4 : gcv ws q 0 = some (.int y0)) (k5 : gcv ws q 1 = some (.int y1)) (hyv : y.toInt = (v : Int)) (hkr : zkr (c : Int) (if k = 0 then 1 else y0.toInt) (if k = 1 then 1 else y1.toInt))
    (hT : ∀ ws2 : va_W, zWl E oM oT z ws2 → zGl E 1525 (zlv E ax am ao i) [] ws2 ce sl K) : zGl E 1450 (zlv E ax am ao i) [] ws ce sl K := by
  obtain ⟨g1, g2, g3, g4, g5⟩ := G
  have ep : oX = p := k1.2 oX F.1.1
  refine z_seg B A P hseg (fun R hR => absurd hR List.not_mem_nil) F hLS g1 g2 g3 (y := y) (by rw [ep]; exact k3) hyv h4 g4 g5 (fun ws2 st2 y2 hw hj hf hL1 hL2 hx hy hst => ?_)
  obtain ⟨ρ, ρr, hst⟩ := hst
  have e0 : st2 = [] := by
    cases st2 with
    | nil => rfl
    | cons a t => exact absurd hst id
  subst e0
  refine z_push (z := z) g1 hLS (List.mem_of_getElem? (l := ga_297) (i := 875) (by decide +kernel)) (List.mem_of_getElem? (l := ga_297) (i := 876) (by decide +kernel)) (List.mem_of_getElem? (l := ga_297) (i := 877) (by decide +kernel)) (List.mem_of_getElem? (l := ga_297) (i := 878) (by decide +kernel)) (List.mem_of_getElem? (l := ga_297) (i := 879) (by decide +kernel)) (List.mem_of_getElem? (l := ga_297) (i := 880) (by decide +kernel)) (fun x hx4 => ?_)
  obtain ⟨yN, cc, ret, ok, lk, hcls⟩ := B.2.2.2.1 13 201 1 217 2 (by decide +kernel) (Or.inr (Or.inr (Or.inl rfl))) (gm_217, 3) rfl
  obtain ⟨fs, hfs⟩ := zr_at hw F.2.1.1 F.2.1.2
  have hxk : x.toInt = (k : Int) := hx4.trans h4
  refine g_call B.1 B.2.1 ok (mi := gm_L) lk hcls (i := .invokevirtual 201) (Or.inr ⟨rfl, Or.inl rfl⟩) (pc := 1468) (asx := [.ref am, .int x]) (rx := []) (List.mem_of_getElem? (l := ga_297) (i := 881) (by decide +kernel)) ⟨by decide, by decide, by show ce + 0 + 0 ≤ 601024; omega, by show sl + 0 + 0 ≤ 7293034; omega, Nat.le_of_ble_eq_true rfl, Nat.le_of_ble_eq_true rfl⟩ rfl rfl (fun _ => ⟨oM, am, fs, [.int x], rfl, hfs⟩) ?_
  refine zg_of B (md := md217) hw hj F.2.1.1 F.2.1.2 (fun σ hX hb hs => zx_217 B (by omega) hX hb (fun σ2 hX2 h76 => ⟨hX2, fun ws3 rv hw3 hj3 hf3 hs3 hrt => ?_⟩))
  cases rv with
  | none => exact absurd hrt id
  | some r =>
    obtain ⟨r1, rfl, -⟩ := hrt
    refine g_pop (List.mem_of_getElem? (l := ga_297) (i := 882) (by decide +kernel)) rfl ?_
    refine g_goto (off := 53) (t := 1525) (List.mem_of_getElem? (l := ga_297) (i := 883) (by decide +kernel)) rfl ?_
    have j0 : gcv ws2 q 0 = some (.int y0) := zk_fr1 hf k2 (by decide +kernel) k4
    have j1 : gcv ws2 q 1 = some (.int y1) := zk_fr1 hf k2 (by decide +kernel) k5
    have s0 := hs q 76 0 y0 k2 rfl j0
    have s1 := hs q 76 1 y1 k2 rfl j1
    obtain ⟨u0, c0⟩ := zk_cell hw3 k2 (n := 0) (by decide)
    obtain ⟨u1, c1⟩ := zk_cell hw3 k2 (n := 1) (by decide)
    have d0 := hs3 q 76 0 u0 k2 rfl c0
    have d1 := hs3 q 76 1 u1 k2 rfl c1
    rw [h76] at d0 d1
    have d0 : u0.toInt = if k = 0 then 1 else y0.toInt := by
      rw [d0, s0]
      by_cases hh : k = 0
      · rw [if_pos hh, if_pos (by rw [hxk]; omega)]
      · rw [if_neg hh, if_neg (by rw [hxk]; omega)]
    have d1 : u1.toInt = if k = 1 then 1 else y1.toInt := by
      rw [d1, s1]
      by_cases hh : k = 1
      · rw [if_pos hh, if_pos (by rw [hxk]; omega)]
      · rw [if_neg hh, if_neg (by rw [hxk]; omega)]
    refine hT ws3 ⟨hw3, ⟨hj3, p, q, y2, u0, u1, k1, k2, zk_fr1 hf3 k1.1 (by decide +kernel) (by rw [← ep]; exact hx), c0, c1, by rw [d0, d1, hy]; exact hkr⟩, zk_fr1 hf3 F.2.2.2.1 (by decide +kernel) hL1, zk_fr1 hf3 F.2.1.1 (by decide +kernel) hL2⟩
theorem z_re1 (B : zB E) (A : zA E gJ1) (F : zFx E oX oM oO oT ax am ao) (hLS : E.2.2.1 ≤ 3072) {i z : Int32} {ws : va_W} {ce sl : Nat} {K : gK} (G : (0 ≤ i.toInt ∧ i.toInt + 6 ≤ (E.2.2.1 : Int)) ∧ (0 ≤ z.toInt ∧ z.toInt ≤ 940) ∧ zWl E oM oT z ws ∧ ce + 1 ≤ 601024 ∧ sl + 6 ≤ 7293034)
    {v k r : Nat} {L : List (Nat × List aCon)} (P : zP E gJ1 L) (hseg : gLwK L 1475 (zKA v k) (zKT 1485 v k v [zKr r]) = true) (hk : k ≤ 1) (h4 : zρ E i z 4 = (k : Int)) {p q : Nat} {y y0 y1 : Int32} (k1 : (zso E)[p]? = some 11 ∧ ∀ o : Nat, (zso E)[o]? = some 11 → o = p) (k2 : (zso E)[q]? = some 76) (k3 : gcv ws p 16 = some (.int y)) (k4 : gcv ws q 0 = some (.int y0)) (k5 : gcv ws q 1 = some (.int y1)) (hyv : y.toInt = (v : Int)) (hkr : zkr (v : Int) y0.toInt y1.toInt) (hr : (if k = 0 then y0.toInt else y1.toInt) = (r : Int))
    (hT : ∀ ws2 : va_W, zWl E oM oT z ws2 → zGl E 1525 (zlv E ax am ao i) [] ws2 ce sl K) : zGl E 1475 (zlv E ax am ao i) [] ws ce sl K := by
  obtain ⟨g1, g2, g3, g4, g5⟩ := G
  have ep : oX = p := k1.2 oX F.1.1
  refine z_seg B A P hseg (fun R hR => by have e := List.mem_singleton.mp hR; subst e; exact (by decide : 0 < 11)) F hLS g1 g2 g3 (y := y) (by rw [ep]; exact k3) hyv h4 g4 g5 (fun ws2 st2 y2 hw hj hf hL1 hL2 hx hy hst => ?_)
  obtain ⟨ρ, ρr, hst⟩ := hst
  obtain ⟨r1, e0, hr1⟩ : ∃ r1 : Int32, st2 = [.int r1] ∧ r1.toInt = (r : Int) := by
    cases st2 with
    | nil => exact absurd hst id
    | cons a t =>
      cases t with
      | nil =>
        obtain ⟨⟨⟨r1, rfl, b1, b2⟩, -⟩, -⟩ := hst
        have b1 : (r : Int) ≤ r1.toInt := b1
        have b2 : r1.toInt ≤ (r : Int) := b2
        exact ⟨r1, rfl, by omega⟩
      | cons b t => exact absurd hst.2 id
  subst e0
  refine z_push (z := z) g1 hLS (List.mem_of_getElem? (l := ga_297) (i := 891) (by decide +kernel)) (List.mem_of_getElem? (l := ga_297) (i := 892) (by decide +kernel)) (List.mem_of_getElem? (l := ga_297) (i := 893) (by decide +kernel)) (List.mem_of_getElem? (l := ga_297) (i := 894) (by decide +kernel)) (List.mem_of_getElem? (l := ga_297) (i := 895) (by decide +kernel)) (List.mem_of_getElem? (l := ga_297) (i := 896) (by decide +kernel)) (fun x hx4 => ?_)
  obtain ⟨yN, cc, ret, ok, lk, hcls⟩ := B.2.2.2.1 13 205 1 261 2 (by decide +kernel) (Or.inr (Or.inr (Or.inl rfl))) (gm_261, 3) rfl
  obtain ⟨fs, hfs⟩ := zr_at hw F.2.1.1 F.2.1.2
  have hxk : x.toInt = (k : Int) := hx4.trans h4
  have j0 : gcv ws2 q 0 = some (.int y0) := zk_fr1 hf k2 (by decide +kernel) k4
  have j1 : gcv ws2 q 1 = some (.int y1) := zk_fr1 hf k2 (by decide +kernel) k5
  refine g_call B.1 B.2.1 ok (mi := gm_L) lk hcls (i := .invokevirtual 205) (Or.inr ⟨rfl, Or.inl rfl⟩) (pc := 1492) (asx := [.ref am, .int x]) (rx := [.int r1]) (List.mem_of_getElem? (l := ga_297) (i := 897) (by decide +kernel)) ⟨by decide, by decide, by show ce + 0 + 0 ≤ 601024; omega, by show sl + 0 + 0 ≤ 7293034; omega, Nat.le_of_ble_eq_true rfl, Nat.le_of_ble_eq_true rfl⟩ rfl rfl (fun _ => ⟨oM, am, fs, [.int x], rfl, hfs⟩) ?_
  refine zg_of B (md := md261) hw hj F.2.1.1 F.2.1.2 (fun σ hX hb hs => ?_)
  have s0 := hs q 76 0 y0 k2 rfl j0
  have s1 := hs q 76 1 y1 k2 rfl j1
  have sk : σ 76 x.toInt = (r : Int) := by
    rw [hxk, ← hr]
    rcases (show k = 0 ∨ k = 1 by omega) with rfl | rfl
    · exact s0.symm
    · exact s1.symm
  have fin : ∀ (n : Int), n = (r : Int) → ∀ σ2 : vS, vX σ2 → (fun (ret : Option vV) (σ2 : vS) => vX σ2 ∧ ∀ (ws2_1 : va_W) (rv : Option Value), wOk (zso E) (zad E) E.2.2.2.2.2.2.1 gST ws2_1 → jOk (zso E) gJ1 ws2_1 → fRel (zso E) md261 ws2 ws2_1 → vsg (zso E) zuq ws2_1 σ2 → vRt (zso E) (zad E) ret rv → zGl E (1492 + 3) (zlv E ax am ao i) (rv.toList ++ [.int r1]) ws2_1 (ce + 0 + gm_261.2.1) (sl + 0 + gm_261.2.2.1) K) (some (.inl n)) σ2 := by
    intro n hn σ2 hX2
    refine ⟨hX2, fun ws3 rv hw3 hj3 hf3 hs3 hrt => ?_⟩
    cases rv with
    | none => exact absurd hrt id
    | some rr =>
      obtain ⟨r2, rfl, hr2⟩ := hrt
      have er : r2 = r1 := Int32.toInt_inj.mp (by rw [hr2, hn, hr1])
      subst er
      refine g_icmp (cd := .eq) (off := 30) (t := 1525) (List.mem_of_getElem? (l := ga_297) (i := 898) (by decide +kernel)) rfl (fun _ => ?_) (fun hne => absurd (show r2 = r2 from rfl) hne)
      exact hT ws3 ⟨hw3, ⟨hj3, p, q, y2, y0, y1, k1, k2, zk_fr1 hf3 k1.1 (by decide +kernel) (by rw [← ep]; exact hx), zk_fr1 hf3 k2 (by decide +kernel) j0, zk_fr1 hf3 k2 (by decide +kernel) j1, by rw [hy]; exact hkr⟩, zk_fr1 hf3 F.2.2.2.1 (by decide +kernel) hL1, zk_fr1 hf3 F.2.1.1 (by decide +kernel) hL2⟩
  refine zx_261 B (by omega) hX hb (fun h1 σ2 hX2 => fin 1 ?_ σ2 hX2) (fun h0 σ2 hX2 => fin 0 ?_ σ2 hX2)
  · rw [sk] at h1
    have hr' : (if k = 0 then y0.toInt else y1.toInt) = 0 ∨ (if k = 0 then y0.toInt else y1.toInt) = 1 := by
      rcases (show k = 0 ∨ k = 1 by omega) with rfl | rfl
      · show y0.toInt = 0 ∨ y0.toInt = 1
        rcases hkr with h | h | h | h <;> omega
      · show y1.toInt = 0 ∨ y1.toInt = 1
        rcases hkr with h | h | h | h <;> omega
    omega
  · rw [sk] at h0
    omega
/-- image of 0 or 1 -/
theorem z_imc (B : zB E) (A : zA E gJ1) (F : zFx E oX oM oO oT ax am ao) (hLS : E.2.2.1 ≤ 3072) {i z : Int32} {ws : va_W} {ce sl : Nat} {K : gK} (G : (0 ≤ i.toInt ∧ i.toInt + 6 ≤ (E.2.2.1 : Int)) ∧ (0 ≤ z.toInt ∧ z.toInt ≤ 940) ∧ zWl E oM oT z ws ∧ ce + 1 ≤ 601024 ∧ sl + 6 ≤ 7293034) (q4 : 0 ≤ zρ E i z 4 ∧ zρ E i z 4 ≤ 1)
    (hT : ∀ ws2 : va_W, zWl E oM oT z ws2 → zGl E 1525 (zlv E ax am ao i) [] ws2 ce sl K) : zGl E 1450 (zlv E ax am ao i) [] ws ce sl K := by
  obtain ⟨p, q, y, y0, y1, k1, k2, k3, k4, k5, k6⟩ := G.2.2.1.2.1.2
  rcases (show zρ E i z 4 = 0 ∨ zρ E i z 4 = 1 by omega) with e4 | e4
  · rcases k6 with ⟨a, b, c⟩ | ⟨a, b, c⟩ | ⟨a, b, c⟩ | ⟨a, b, c⟩
    · exact z_im1 B A F hLS G (v := 0) (k := 0) (c := 1) (zP_cons rfl (zF_cons (zc_11_0 B A) zF_nil) (zP_cons rfl (zF_cons (zc_79_0 B A) zF_nil) zP_nil)) lwk_43_0_0 (by decide) e4 k1 k2 k3 k4 k5 a (by rw [b, c]; simp [zkr]) hT
    · exact z_im1 B A F hLS G (v := 1) (k := 0) (c := 1) (zP_cons rfl (zF_cons (zc_11_0 B A) zF_nil) (zP_cons rfl (zF_cons (zc_79_0 B A) zF_nil) zP_nil)) lwk_43_1_0 (by decide) e4 k1 k2 k3 k4 k5 a (by rw [b, c]; simp [zkr]) hT
    · exact z_im1 B A F hLS G (v := 2) (k := 0) (c := 3) (zP_cons rfl (zF_cons (zc_11_0 B A) zF_nil) (zP_cons rfl (zF_cons (zc_79_0 B A) zF_nil) zP_nil)) lwk_43_2_0 (by decide) e4 k1 k2 k3 k4 k5 a (by rw [b, c]; simp [zkr]) hT
    · exact z_im1 B A F hLS G (v := 3) (k := 0) (c := 3) (zP_cons rfl (zF_cons (zc_11_0 B A) zF_nil) (zP_cons rfl (zF_cons (zc_79_0 B A) zF_nil) zP_nil)) lwk_43_3_0 (by decide) e4 k1 k2 k3 k4 k5 a (by rw [b, c]; simp [zkr]) hT
  · rcases k6 with ⟨a, b, c⟩ | ⟨a, b, c⟩ | ⟨a, b, c⟩ | ⟨a, b, c⟩
    · exact z_im1 B A F hLS G (v := 0) (k := 1) (c := 2) (zP_cons rfl (zF_cons (zc_11_0 B A) zF_nil) (zP_cons rfl (zF_cons (zc_79_0 B A) zF_nil) zP_nil)) lwk_43_0_1 (by decide) e4 k1 k2 k3 k4 k5 a (by rw [b, c]; simp [zkr]) hT
    · exact z_im1 B A F hLS G (v := 1) (k := 1) (c := 3) (zP_cons rfl (zF_cons (zc_11_0 B A) zF_nil) (zP_cons rfl (zF_cons (zc_79_0 B A) zF_nil) zP_nil)) lwk_43_1_1 (by decide) e4 k1 k2 k3 k4 k5 a (by rw [b, c]; simp [zkr]) hT
    · exact z_im1 B A F hLS G (v := 2) (k := 1) (c := 2) (zP_cons rfl (zF_cons (zc_11_0 B A) zF_nil) (zP_cons rfl (zF_cons (zc_79_0 B A) zF_nil) zP_nil)) lwk_43_2_1 (by decide) e4 k1 k2 k3 k4 k5 a (by rw [b, c]; simp [zkr]) hT
    · exact z_im1 B A F hLS G (v := 3) (k := 1) (c := 3) (zP_cons rfl (zF_cons (zc_11_0 B A) zF_nil) (zP_cons rfl (zF_cons (zc_79_0 B A) zF_nil) zP_nil)) lwk_43_3_1 (by decide) e4 k1 k2 k3 k4 k5 a (by rw [b, c]; simp [zkr]) hT
/-- restore of 0 or 1 -/
theorem z_rsc (B : zB E) (A : zA E gJ1) (F : zFx E oX oM oO oT ax am ao) (hLS : E.2.2.1 ≤ 3072) {i z : Int32} {ws : va_W} {ce sl : Nat} {K : gK} (G : (0 ≤ i.toInt ∧ i.toInt + 6 ≤ (E.2.2.1 : Int)) ∧ (0 ≤ z.toInt ∧ z.toInt ≤ 940) ∧ zWl E oM oT z ws ∧ ce + 1 ≤ 601024 ∧ sl + 6 ≤ 7293034) (q4 : 0 ≤ zρ E i z 4 ∧ zρ E i z 4 ≤ 1)
    (hT : ∀ ws2 : va_W, zWl E oM oT z ws2 → zGl E 1525 (zlv E ax am ao i) [] ws2 ce sl K) : zGl E 1475 (zlv E ax am ao i) [] ws ce sl K := by
  obtain ⟨p, q, y, y0, y1, k1, k2, k3, k4, k5, k6⟩ := G.2.2.1.2.1.2
  have k7 := k6
  rcases (show zρ E i z 4 = 0 ∨ zρ E i z 4 = 1 by omega) with e4 | e4
  · rcases k6 with ⟨a, b, c⟩ | ⟨a, b, c⟩ | ⟨a, b, c⟩ | ⟨a, b, c⟩
    · exact z_re1 B A F hLS G (v := 0) (k := 0) (r := 0) (zP_cons rfl (zF_cons (zc_11_0 B A) zF_nil) (zP_cons rfl (zF_cons (zc_79_0 B A) zF_nil) zP_nil)) lwk_44_0_0 (by decide) e4 k1 k2 k3 k4 k5 a (by rw [b, c]; simp [zkr]) b hT
    · exact z_re1 B A F hLS G (v := 1) (k := 0) (r := 1) (zP_cons rfl (zF_cons (zc_11_0 B A) zF_nil) (zP_cons rfl (zF_cons (zc_79_0 B A) zF_nil) zP_nil)) lwk_44_1_0 (by decide) e4 k1 k2 k3 k4 k5 a (by rw [b, c]; simp [zkr]) b hT
    · exact z_re1 B A F hLS G (v := 2) (k := 0) (r := 0) (zP_cons rfl (zF_cons (zc_11_0 B A) zF_nil) (zP_cons rfl (zF_cons (zc_79_0 B A) zF_nil) zP_nil)) lwk_44_2_0 (by decide) e4 k1 k2 k3 k4 k5 a (by rw [b, c]; simp [zkr]) b hT
    · exact z_re1 B A F hLS G (v := 3) (k := 0) (r := 1) (zP_cons rfl (zF_cons (zc_11_0 B A) zF_nil) (zP_cons rfl (zF_cons (zc_79_0 B A) zF_nil) zP_nil)) lwk_44_3_0 (by decide) e4 k1 k2 k3 k4 k5 a (by rw [b, c]; simp [zkr]) b hT
  · rcases k6 with ⟨a, b, c⟩ | ⟨a, b, c⟩ | ⟨a, b, c⟩ | ⟨a, b, c⟩
    · exact z_re1 B A F hLS G (v := 0) (k := 1) (r := 0) (zP_cons rfl (zF_cons (zc_11_0 B A) zF_nil) (zP_cons rfl (zF_cons (zc_79_0 B A) zF_nil) zP_nil)) lwk_44_0_1 (by decide) e4 k1 k2 k3 k4 k5 a (by rw [b, c]; simp [zkr]) c hT
    · exact z_re1 B A F hLS G (v := 1) (k := 1) (r := 0) (zP_cons rfl (zF_cons (zc_11_0 B A) zF_nil) (zP_cons rfl (zF_cons (zc_79_0 B A) zF_nil) zP_nil)) lwk_44_1_1 (by decide) e4 k1 k2 k3 k4 k5 a (by rw [b, c]; simp [zkr]) c hT
    · exact z_re1 B A F hLS G (v := 2) (k := 1) (r := 1) (zP_cons rfl (zF_cons (zc_11_0 B A) zF_nil) (zP_cons rfl (zF_cons (zc_79_0 B A) zF_nil) zP_nil)) lwk_44_2_1 (by decide) e4 k1 k2 k3 k4 k5 a (by rw [b, c]; simp [zkr]) c hT
    · exact z_re1 B A F hLS G (v := 3) (k := 1) (r := 1) (zP_cons rfl (zF_cons (zc_11_0 B A) zF_nil) (zP_cons rfl (zF_cons (zc_79_0 B A) zF_nil) zP_nil)) lwk_44_3_1 (by decide) e4 k1 k2 k3 k4 k5 a (by rw [b, c]; simp [zkr]) c hT
end ZTL
