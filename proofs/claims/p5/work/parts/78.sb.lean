/-! THE BOOK BY THINGS: the class's, the reference's -/
noncomputable section
def mdKr : aMd := gc_116_r.2.2.2
end
section ZTB2
variable {E : zE}
/-- a switch -/
theorem z_sw {ws : va_W} {K : gK} {q : Int32} (h1 : q.toInt = 0 ∨ q.toInt = 1 → K (some (.int 1)) ws) (h0 : ¬ (q.toInt = 0 ∨ q.toInt = 1) → K (some (.int 0)) ws) : zgE E gm_143 0 (lv_args 0 [.int q]) [] ws 0 0 K := by
  refine g_iload (j := 0) (len := 1) (i := .iload_n 0) (Or.inr ⟨0, rfl, rfl, rfl⟩) (List.mem_of_getElem? (l := ga_143) (i := 0) (by decide +kernel)) (z := q) List.mem_cons_self ?_
  refine g_ifc (cd := .eq) (off := 8) (t := 9) (List.mem_of_getElem? (l := ga_143) (i := 1) (by decide +kernel)) rfl (fun hc => ?_) (fun hc => ?_)
  · have e : q = 0 := hc
    refine g_iconst (n := 1) (List.mem_of_getElem? (l := ga_143) (i := 5) (by decide +kernel)) ?_
    refine g_goto (off := 4) (t := 14) (List.mem_of_getElem? (l := ga_143) (i := 6) (by decide +kernel)) rfl ?_
    exact g_ireturn (List.mem_of_getElem? (l := ga_143) (i := 8) (by decide +kernel)) (Or.inr ⟨Or.inl rfl, Or.inr rfl⟩) (by decide) (by decide) (h1 (Or.inl (by rw [e]; rfl)))
  · have n0 : ¬ q.toInt = 0 := fun e => hc (Int32.toInt_inj.mp e)
    refine g_iload (j := 0) (len := 1) (i := .iload_n 0) (Or.inr ⟨0, rfl, rfl, rfl⟩) (List.mem_of_getElem? (l := ga_143) (i := 2) (by decide +kernel)) (z := q) List.mem_cons_self ?_
    refine g_iconst (n := 1) (List.mem_of_getElem? (l := ga_143) (i := 3) (by decide +kernel)) ?_
    refine g_icmp (cd := .ne) (off := 7) (t := 13) (List.mem_of_getElem? (l := ga_143) (i := 4) (by decide +kernel)) rfl (fun hn => ?_) (fun hn => ?_)
    · have n1 : ¬ q.toInt = 1 := fun e => hn (Int32.toInt_inj.mp e)
      refine g_iconst (n := 0) (List.mem_of_getElem? (l := ga_143) (i := 7) (by decide +kernel)) ?_
      exact g_ireturn (List.mem_of_getElem? (l := ga_143) (i := 8) (by decide +kernel)) (Or.inr ⟨Or.inl rfl, Or.inl rfl⟩) (by decide) (by decide) (h0 (by omega))
    · have e : q = 1 := Decidable.byContradiction fun z => hn z
      refine g_iconst (n := 1) (List.mem_of_getElem? (l := ga_143) (i := 5) (by decide +kernel)) ?_
      refine g_goto (off := 4) (t := 14) (List.mem_of_getElem? (l := ga_143) (i := 6) (by decide +kernel)) rfl ?_
      exact g_ireturn (List.mem_of_getElem? (l := ga_143) (i := 8) (by decide +kernel)) (Or.inr ⟨Or.inl rfl, Or.inr rfl⟩) (by decide) (by decide) (h1 (Or.inr (by rw [e]; rfl)))
/-- the class's rows are right again -/
theorem z_jc {ws : va_W} (hE : zso E = zso0) {σ : vS} (hs : vsgL zsoc uqc ws σ) (hr : ∀ i : Int, 0 ≤ i → i < σ 0 4 → cRow σ i) : jOk (zso E) gJ1 ws := by
  intro J hJ o y ho hy i hi
  have e := List.mem_singleton.mp hJ
  subst e
  rw [hE] at ho ⊢
  have hy2 := hs.1 o 0 4 y (zf_to ho (by decide +kernel)) rfl hy
  have hi2 : (i : Int) < σ 0 4 := by rw [← show y.toInt = σ 0 4 from hy2]; exact hi
  have full : ∀ z : Int32, ∀ q : Int, z.toInt = q → Int.negSucc 2147483647 ≤ z.toInt ∧ z.toInt ≤ Int.ofNat 2147483647 := fun z _ _ => ⟨Int32.le_toInt z, Int32.toInt_le z⟩
  have row : ∀ {w0 w1 w2 w3 : Int × Int}, (∀ z : Int32, z.toInt = σ 13 (i : Int) → w0.1 ≤ z.toInt ∧ z.toInt ≤ w0.2) → (∀ z : Int32, z.toInt = σ 14 (i : Int) → w1.1 ≤ z.toInt ∧ z.toInt ≤ w1.2) → (∀ z : Int32, z.toInt = σ 15 (i : Int) → w2.1 ≤ z.toInt ∧ z.toInt ≤ w2.2) → (∀ z : Int32, z.toInt = σ 16 (i : Int) → w3.1 ≤ z.toInt ∧ z.toInt ≤ w3.2) → jRow zso0 ws i [(0, 13, 1, 0), (1, 14, 1, 0), (2, 15, 1, 0), (3, 16, 1, 0)] [w0, w1, w2, w3] := fun h0 h1 h2 h3 => by
    refine ⟨rfl, fun c q w hq hw o z ho hz => ?_⟩
    have key : ∀ t : Nat, okc t = true → uqc t = true → zso0[o]? = some t → gcv ws o (1 * i + 0) = some (.int z) → z.toInt = σ t (i : Int) := fun t h1 h2 h3 hg => by
      rw [show 1 * i + 0 = i by omega] at hg
      exact hs.1 o t i z (zf_to h3 h1) h2 hg
    match c, hq, hw with
    | 0, hq, hw => cases hq; cases hw; exact h0 z (key 13 (by decide +kernel) (by decide +kernel) ho hz)
    | 1, hq, hw => cases hq; cases hw; exact h1 z (key 14 (by decide +kernel) (by decide +kernel) ho hz)
    | 2, hq, hw => cases hq; cases hw; exact h2 z (key 15 (by decide +kernel) (by decide +kernel) ho hz)
    | 3, hq, hw => cases hq; cases hw; exact h3 z (key 16 (by decide +kernel) (by decide +kernel) ho hz)
    | n + 4, hq, hw => exact absurd hq (by intro q2; cases q2)
  have m0 := hr (i : Int) (by omega) hi2
  unfold cRow at m0
  rcases m0 with ⟨a, ⟨b, c⟩, d⟩ | ⟨a, ⟨b, c⟩, d, d2⟩ | ⟨a, ⟨b, c⟩, d⟩ | ⟨a, b⟩ | ⟨a, ⟨b, c⟩, d⟩ | ⟨a, b, d⟩ | ⟨a, b, d⟩ | ⟨a, b, d⟩
  · exact ⟨_, List.mem_cons_self, row (fun z q => by rw [q, a]; decide) (fun z q => by rw [q]; exact ⟨b, c⟩) (fun z q => by rw [q]; exact d) (fun z q => full z _ q)⟩
  · exact ⟨_, List.mem_cons_of_mem _ List.mem_cons_self, row (fun z q => by rw [q, a]; decide) (fun z q => by rw [q]; exact ⟨b, c⟩) (fun z q => by rw [q]; exact d) (fun z q => by rw [q]; exact d2)⟩
  · exact ⟨_, List.mem_cons_of_mem _ (List.mem_cons_of_mem _ List.mem_cons_self), row (fun z q => by rw [q]; exact a) (fun z q => by rw [q]; exact ⟨b, c⟩) (fun z q => by rw [q]; exact d) (fun z q => full z _ q)⟩
  · exact ⟨_, List.mem_cons_of_mem _ (List.mem_cons_of_mem _ (List.mem_cons_of_mem _ List.mem_cons_self)), row (fun z q => by rw [q, a]; decide) (fun z q => by rw [q]; exact b) (fun z q => full z _ q) (fun z q => full z _ q)⟩
  · exact ⟨_, List.mem_cons_of_mem _ (List.mem_cons_of_mem _ (List.mem_cons_of_mem _ (List.mem_cons_of_mem _ List.mem_cons_self))), row (fun z q => by rw [q, a]; decide) (fun z q => by rw [q]; exact ⟨b, c⟩) (fun z q => by rw [q]; exact d) (fun z q => full z _ q)⟩
  · exact ⟨_, List.mem_cons_of_mem _ (List.mem_cons_of_mem _ (List.mem_cons_of_mem _ (List.mem_cons_of_mem _ (List.mem_cons_of_mem _ List.mem_cons_self)))), row (fun z q => by rw [q]; exact a) (fun z q => by rw [q, b]; decide) (fun z q => by rw [q]; exact d) (fun z q => full z _ q)⟩
  · exact ⟨_, List.mem_cons_of_mem _ (List.mem_cons_of_mem _ (List.mem_cons_of_mem _ (List.mem_cons_of_mem _ (List.mem_cons_of_mem _ (List.mem_cons_of_mem _ List.mem_cons_self))))), row (fun z q => by rw [q, a]; decide) (fun z q => by rw [q, b]; decide) (fun z q => by rw [q]; exact d) (fun z q => full z _ q)⟩
  · exact ⟨_, List.mem_cons_of_mem _ (List.mem_cons_of_mem _ (List.mem_cons_of_mem _ (List.mem_cons_of_mem _ (List.mem_cons_of_mem _ (List.mem_cons_of_mem _ (List.mem_cons_of_mem _ List.mem_cons_self)))))), row (fun z q => by rw [q, a]; decide) (fun z q => by rw [q, b]; decide) (fun z q => by rw [q]; exact d) (fun z q => full z _ q)⟩
/-- the world behind a walk of the class's that has written the BOOK too -/
theorem zc_backB {ws ws2 : va_W} (hE : zso E = zso0) (hw : wOk (zso E) (zad E) E.2.2.2.2.2.2.1 gST ws) (h0 : wOk0 E.2.2.2.2.2.2.1 zsoc (zad E) gSTc ws2) (hf : fRel zsoc mdK ws ws2) : wOk (zso E) (zad E) E.2.2.2.2.2.2.1 gST ws2 ∧ zFn E ws2 := by
  rw [hE] at hw ⊢
  refine ⟨⟨h0.1, hw.2.1, fun o t q hq ht => ?_⟩, fun o t q hq ht => h0.2.2 o t q hq ht⟩
  have hl : o < 195 := by rw [← zso_l.1]; exact (List.getElem?_eq_some_iff.mp ht).1
  have hc : zsoc[o]? = some zsoc[o] := List.getElem?_eq_getElem (by rw [zso_l.2]; exact hl)
  have g := zfn_co hc (h0.2.2 o _ q hq hc)
  have e := (zcs_o hc).1
  rw [ht] at e
  cases e
  refine ⟨g, ?_⟩
  have hl2 : o < ws2.length := (List.getElem?_eq_some_iff.mp hq).1
  have hll : ws2.length = ws.length := by
    have a := congrArg List.length (hw.1.trans h0.1.symm)
    unfold ead at a
    rw [List.length_map, List.length_map] at a
    exact a.symm
  have hx : ws[o]? = some ws[o] := List.getElem?_eq_getElem (by omega)
  by_cases h52 : zcoa zsoc[o] = 52 ∨ zcoa zsoc[o] = 74
  · refine xE_fr (hw.2.2 o _ _ hx ht).1 g (fun i => ?_) (hw.2.2 o _ _ hx ht).2
    have hk : okc (zcoa zsoc[o]) = true := by rcases h52 with h | h <;> rw [h] <;> decide +kernel
    have e := hf o _ i (zf_to ht hk) (fun q hq w => by
      have g2 := (by decide : ∀ q ∈ mdK, ¬ q.1 = 52 ∧ ¬ q.1 = 74) q hq
      rcases h52 with h | h
      · exact g2.1 (w.1.trans h)
      · exact g2.2 (w.1.trans h))
    unfold gcv at e
    rw [hq, hx] at e
    exact e
  · intro cA n f _
    exact ⟨fun q => absurd (Or.inl q) h52, fun q => absurd (Or.inr q) h52⟩
theorem zTp_c2 {ws ws2 : va_W} (hE : zso E = zso0) (hF : zFn E ws2) (key : ∀ {o t i : Nat}, zso0[o]? = some t → (t = 34 ∨ t = 35 ∨ t = 51 ∨ t = 56) → gcv ws2 o i = gcv ws o i) (h : zTp E ws) : zTp E ws2 := by
  obtain ⟨h1, h2, ⟨c, r, k1, k2, k3⟩, ⟨p, p1, p2⟩, ⟨q, q1, q2⟩⟩ := h
  have kk : ∀ {o t i : Nat}, (zso E)[o]? = some t → (t = 34 ∨ t = 35 ∨ t = 51 ∨ t = 56) → gcv ws2 o i = gcv ws o i := fun h ht => key (by rw [← hE]; exact h) ht
  exact ⟨hE, hF, ⟨c, r, k1, k2, fun i hi => by rw [kk k1 (by decide), kk k2 (by decide)]; exact k3 i hi⟩, ⟨p, p1, fun j hj => by rw [kk p1 (by decide)]; exact p2 j hj⟩, ⟨q, q1, fun j hj => by rw [kk q1 (by decide)]; exact q2 j hj⟩⟩
/-- the class's BOOK -/
theorem z_boc (X : zX gKX E) (B : zB E) (A : zA E gJ1) {ax : Nat} (ha : (zad E)[0]? = some ax) (hl : zsoc.length = (zad E).length) {ws : va_W} (hw : wOk (zso E) (zad E) E.2.2.2.2.2.2.1 gST ws) (hj : jOk (zso E) gJ1 ws) (hT : zTp E ws) (hR : zAl ws 4 169 0 172 0) {q : Int32} {Q : qA} (hQ : Q = qBk (fun q => vand (zci ws 2 q) 255, zci ws 1 1, 400) (zci ws 172) (zci ws 169 1) (zci ws 169 2) 1000 0 0) {K : gK}
    (h0 : ¬ (q.toInt = 0 ∨ q.toInt = 1) → K (some (.int (Int32.ofInt (-1000)))) ws)
    (h : (q.toInt = 0 ∨ q.toInt = 1) → ∀ (ws2 : va_W) (v : Int32), wOk (zso E) (zad E) E.2.2.2.2.2.2.1 gST ws2 → jOk (zso E) gJ1 ws2 → zTp E ws2 → (∀ o t i : Nat, zso0[o]? = some t → (t = 12 ∨ 51 ≤ t) → gcv ws2 o i = gcv ws o i) → gcv ws2 1 1 = some (.int 0) → zCs zclc ws ws2 → zci ws2 1 2 = Q.1 → K (some (.int v)) ws2) : zgE E gm_116 0 (lv_args 0 [.ref ax, .int q]) [] ws 0 0 K := by
  have hE : zso E = zso0 := hT.1
  have hF := hT.2.1
  obtain ⟨a0, e, g1, g2, g3⟩ := w0_at (so := zsoc) (ad := zad E) (tys := E.2.2.2.2.2.2.1) (ST := gSTc) ⟨hw.1, hl, fun o t q hq ht => hF o t q hq ht⟩ (o := 0) (t := 11) rfl
  rw [ha] at g2
  cases g2
  unfold eOk at g3
  obtain ⟨ob, hob, hf, hf1, hf8, hfc⟩ : ∃ ob, gSTc 11 = some (.inl ob) ∧ ob.2[0]? = some (.inr (.inl 7)) ∧ ob.2[1]? = some (.inr (.inl 93)) ∧ ob.2[8]? = some (.inr (.inl 0)) ∧ ob.1 = 11 := ⟨_, rfl, rfl, rfl, rfl, rfl⟩
  rw [hob] at g3
  obtain ⟨fs, rfl, k1, k2⟩ := g3
  rw [hfc] at g1
  have x0 := List.getElem?_eq_getElem (show 0 < fs.length by rw [k1]; exact (List.getElem?_eq_some_iff.mp hf).1)
  have x1 := List.getElem?_eq_getElem (show 1 < fs.length by rw [k1]; exact (List.getElem?_eq_some_iff.mp hf1).1)
  have x8 := List.getElem?_eq_getElem (show 8 < fs.length by rw [k1]; exact (List.getElem?_eq_some_iff.mp hf8).1)
  obtain ⟨o0, b0, p0, q0, r0⟩ := k2 _ _ _ hf x0
  obtain ⟨o1, b1_, p1, q1, r1⟩ := k2 _ _ _ hf1 x1
  obtain ⟨o8, b8, p8, q8, r8⟩ := k2 _ _ _ hf8 x8
  rw [r0] at x0
  rw [r1] at x1
  rw [r8] at x8
  have n0 : o0 = 1 := zsoc_1 p0 rfl
  subst n0
  have y0 : gcv ws 0 0 = some (.ref b0) := (gcv_at g1 0).trans x0
  have y1 : gcv ws 0 1 = some (.ref b1_) := (gcv_at g1 1).trans x1
  have y8 : gcv ws 0 8 = some (.ref b8) := (gcv_at g1 8).trans x8
  refine g_iload (j := 1) (len := 1) (i := .iload_n 1) (Or.inr ⟨1, rfl, rfl, rfl⟩) (List.mem_of_getElem? (l := ga_116) (i := 0) (by decide +kernel)) (z := q) (List.mem_cons_of_mem _ List.mem_cons_self) ?_
  obtain ⟨yS, cS_, retS, okS, lkS, hclsS⟩ := B.2.2.2.1 11 254 0 143 1 (by decide +kernel) (Or.inl rfl) (gm_143, 1) rfl
  refine g_call B.1 B.2.1 okS (mi := gm_116) lkS hclsS (i := .invokestatic 254) (Or.inl ⟨rfl, Or.inl rfl⟩) (pc := 1) (asx := [.int q]) (rx := []) (List.mem_of_getElem? (l := ga_116) (i := 1) (by decide +kernel)) ⟨by decide, by decide, by decide, by decide, Nat.le_of_ble_eq_true rfl, Nat.le_of_ble_eq_true rfl⟩ rfl rfl (fun q => absurd q (by decide)) ?_
  refine z_sw (fun hq => ?_) (fun hq => ?_)
  rotate_left
  · refine g_ifc (cd := .ne) (off := 7) (t := 11) (List.mem_of_getElem? (l := ga_116) (i := 2) (by decide +kernel)) rfl (fun hc => absurd (show (0 : Int32) = 0 from rfl) hc) (fun _ => ?_)
    refine g_sipush (n := -1000) (List.mem_of_getElem? (l := ga_116) (i := 3) (by decide +kernel)) ?_
    exact g_ireturn (List.mem_of_getElem? (l := ga_116) (i := 4) (by decide +kernel)) (Or.inl rfl) (by decide) (by decide) (h0 hq)
  refine g_ifc (cd := .ne) (off := 7) (t := 11) (List.mem_of_getElem? (l := ga_116) (i := 2) (by decide +kernel)) rfl (fun _ => ?_) (fun hc => absurd (show ¬ (1 : Int32) = 0 by decide) hc)
  refine g_aload (j := 0) (len := 1) (i := .aload_n 0) (Or.inr ⟨0, rfl, rfl, rfl⟩) (List.mem_of_getElem? (l := ga_116) (i := 5) (by decide +kernel)) (a := ax) List.mem_cons_self ?_
  refine g_getT B hE (idx := 60) (t := 11) (o := 0) (List.mem_of_getElem? (l := ga_116) (i := 6) (by decide +kernel)) (q := (11, 8, 12)) (by decide +kernel) hw rfl ha ⟨_, rfl⟩ y8 ?_
  refine g_aload (j := 0) (len := 1) (i := .aload_n 0) (Or.inr ⟨0, rfl, rfl, rfl⟩) (List.mem_of_getElem? (l := ga_116) (i := 7) (by decide +kernel)) (a := ax) List.mem_cons_self ?_
  refine g_getT B hE (idx := 10) (t := 11) (o := 0) (List.mem_of_getElem? (l := ga_116) (i := 8) (by decide +kernel)) (q := (11, 0, 12)) (by decide +kernel) hw rfl ha ⟨_, rfl⟩ y0 ?_
  refine g_aload (j := 0) (len := 1) (i := .aload_n 0) (Or.inr ⟨0, rfl, rfl, rfl⟩) (List.mem_of_getElem? (l := ga_116) (i := 9) (by decide +kernel)) (a := ax) List.mem_cons_self ?_
  refine g_getT B hE (idx := 19) (t := 11) (o := 0) (List.mem_of_getElem? (l := ga_116) (i := 10) (by decide +kernel)) (q := (11, 1, 12)) (by decide +kernel) hw rfl ha ⟨_, rfl⟩ y1 ?_
  obtain ⟨yN, cc, ret, ok, lk, hcls⟩ := B.2.2.2.1 11 387 1 6 3 (by decide +kernel) (Or.inr (Or.inr (Or.inl rfl))) (gm_6, 4) rfl
  have p8' : zso0[o8]? = some 0 := (zcs_o p8).1
  obtain ⟨fs8, hfs8⟩ := zt_obj hw (o := o8) (t := 0) (by rw [hE]; exact p8') q8 (c := 0) ⟨_, rfl, rfl⟩
  refine g_call B.1 B.2.1 ok (mi := gm_116) lk hcls (i := .invokevirtual 387) (Or.inr ⟨rfl, Or.inl rfl⟩) (pc := 23) (asx := [.ref b8, .ref b0, .ref b1_]) (rx := []) (List.mem_of_getElem? (l := ga_116) (i := 11) (by decide +kernel)) ⟨by decide, by decide, by decide, by decide, Nat.le_of_ble_eq_true rfl, Nat.le_of_ble_eq_true rfl⟩ rfl rfl (fun _ => ⟨o8, b8, fs8, _, rfl, hfs8⟩) ?_
  have fin : ∀ (σ2 : vS) (ws2 : va_W) (v : Int32), (v.toInt = 0 ∨ v.toInt = 1) → σ2 7 2 = Q.1 → (∀ i : Int, 0 ≤ i → i < σ2 0 4 → cRow σ2 i) → wOk0 E.2.2.2.2.2.2.1 zsoc (zad E) gSTc ws2 → fRel zsoc mdK ws ws2 → vsgL zsoc uqc ws2 σ2 → zgE E gm_116 26 (lv_args 0 [.ref ax, .int q]) [.int v] ws2 0 0 K := by
    intro σ2 ws2 v hv h2 r2 hw2 hf2 hs2
    obtain ⟨B1, B2⟩ := zc_backB hE hw hw2 hf2
    have j2 := z_jc hE hs2 r2
    have fr : ∀ o t i : Nat, zso0[o]? = some t → (t = 12 ∨ 51 ≤ t) → gcv ws2 o i = gcv ws o i := fun o t i ho ht => by
      have hlt : t < 78 := by
        have g2 := List.all_eq_true.mp zcs_lt o (List.mem_range.mpr (by rw [← zso_l.1]; exact (List.getElem?_eq_some_iff.mp ho).1))
        rw [ho] at g2
        exact Nat.le_of_ble_eq_true g2
      refine hf2 o t i (zf_to ho (okc_hi t hlt ht)) (fun q hq w => ?_)
      have g := (by decide : ∀ q ∈ mdK, ¬ q.1 = 12 ∧ (q.1 < 51 ∨ 78 ≤ q.1)) q hq
      omega
    have T2 : zTp E ws2 := zTp_c2 hE B2 (fun {o t i} ho ht => by
      refine hf2 o t i (zf_to ho (by rcases ht with rfl | rfl | rfl | rfl <;> decide +kernel)) (fun q hq w => ?_)
      have g := (by decide : ∀ q ∈ mdK, ¬ q.1 = 34 ∧ ¬ q.1 = 35 ∧ ¬ q.1 = 51 ∧ ¬ q.1 = 56) q hq
      omega) hT
    have zc2 : zCs zclc ws ws2 := zCs_md (so := zsoc) (md := mdK) (by decide +kernel) hf2
    have k12 : zci ws2 1 2 = Q.1 := by
      obtain ⟨y, hy, -, -⟩ := cf_int hE B1 (o := 1) (t := 7) rfl (f := 2) (lo := .ofNat 0) (hi := .ofNat 4) ⟨_, rfl, rfl⟩
      exact (cx_ci hs2 (o := 1) (t := 7) rfl rfl (i := 2) (by decide) (Or.inl ⟨y, hy⟩)).trans h2
    have z0 : gcv ws2 0 0 = some (.ref b0) := (zc2 (0, 0, 17) (by decide) 0 (by decide) (by decide)).trans y0
    refine g_istore (j := 2) (len := 1) (i := .istore_n 2) (Or.inr ⟨2, rfl, rfl, rfl⟩) (List.mem_of_getElem? (l := ga_116) (i := 12) (by decide +kernel)) ?_
    refine g_aload (j := 0) (len := 1) (i := .aload_n 0) (Or.inr ⟨0, rfl, rfl, rfl⟩) (List.mem_of_getElem? (l := ga_116) (i := 13) (by decide +kernel)) (a := ax) (List.mem_cons_of_mem _ List.mem_cons_self) ?_
    refine g_getT B hE (idx := 10) (t := 11) (o := 0) (List.mem_of_getElem? (l := ga_116) (i := 14) (by decide +kernel)) (q := (11, 0, 12)) (by decide +kernel) B1 rfl ha ⟨_, rfl⟩ z0 ?_
    refine g_iconst (n := 0) (List.mem_of_getElem? (l := ga_116) (i := 15) (by decide +kernel)) ?_
    refine g_putT B hE (idx := 104) (t := 7) (o := 1) (List.mem_of_getElem? (l := ga_116) (i := 16) (by decide +kernel)) (q := (7, 1, 0)) (by decide +kernel) (by decide) B1 j2 rfl q0 rfl rfl (lo := .ofNat 0) (hi := .ofNat 940) (by decide) (Or.inl ⟨rfl, _, rfl⟩) (cj_no (by decide +kernel)) (fun wsZ wZ jZ fZ cZ FZ => ?_)
    refine gG_sub (fun e he => ?_) (gG_mono ?_ (c_116r B A [.ref ax, .int q, .int v] wsZ wZ jZ ⟨⟨0, ax, by rw [hE]; rfl, ha, rfl⟩, ⟨q, rfl, by show (0 : Int) ≤ q.toInt ∧ q.toInt ≤ 1; omega⟩, ⟨v, rfl, by show (0 : Int) ≤ v.toInt ∧ v.toInt ≤ 1; omega⟩, trivial⟩))
    · rcases List.mem_cons.mp he with rfl | he
      · exact (List.mem_cons_of_mem _ List.mem_cons_self)
      rcases List.mem_cons.mp he with rfl | he
      · exact List.mem_cons_of_mem _ (List.mem_cons_of_mem _ List.mem_cons_self)
      have e2 := List.mem_singleton.mp he
      subst e2
      exact List.mem_cons_self
    · intro rv ws3 ⟨u1, u2, u3, al, u4, u5, u6⟩
      have ea := List.mem_singleton.mp u4
      subst ea
      cases rv with
      | none => exact absurd u5 id
      | some x =>
        obtain ⟨z, rfl, -⟩ := (show ∃ z : Int32, x = .int z ∧ _ from u5)
        have FF : fRel (zso E) (mdKr ++ [(7, 1, 2)]) ws2 ws3 := fRel_tr (fRel_tr fRel_refl FZ (amds_ok (by decide +kernel))) u3 (amds_ok (by decide +kernel))
        refine h hq ws3 z u1 u2 (zTp_fr (md := mdKr ++ [(7, 1, 2)]) (by decide +kernel) FF B1 u1 T2) (fun o t i ho ht => ?_) ?_ (zCs_tr zc2 (zCs_md (so := zso0) (md := mdKr ++ [(7, 1, 2)]) (by decide +kernel) (by rw [← hE]; exact FF))) ?_
        · rw [← fr o t i ho ht]
          refine FF o t i (by rw [hE]; exact ho) (fun q hq w => ?_)
          have g := (by decide : ∀ q ∈ mdKr ++ [(7, 1, 2)], q.1 < 51 ∧ ¬ q.1 = 12) q hq
          omega
        · exact (u3 1 7 1 (by rw [hE]; rfl) (fun q hq w => absurd w.1 ((by decide : ∀ q ∈ mdKr, ¬ q.1 = 7) q hq))).trans cZ
        · exact (zci_pt (j := 2) (i := 2) ((u3 1 7 2 (by rw [hE]; rfl) (fun q hq w => absurd w.1 ((by decide : ∀ q ∈ mdKr, ¬ q.1 = 7) q hq))).trans (fZ 1 2 (fun q => absurd (show (2 : Nat) = 1 from q.2) (by decide))))).trans k12
  refine zg_ofC (md := mdK) hw hF hl (vs := [.inr (.inl 0), .inr (.inl 7), .inr (.inl 93)]) (asx := [.ref b8, .ref b0, .ref b1_]) ⟨⟨o8, b8, p8, q8, rfl⟩, ⟨1, b0, p0, q0, rfl⟩, ⟨o1, b1_, p1, q1, rfl⟩, trivial⟩ (fun σ hs hc => vt_6 X B (gm_6, 4) rfl _ σ _ ?_)
  have c34 : σ 34 = zci ws 2 := hc 34 rfl
  have c7 : σ 7 = zci ws 1 := hc 7 rfl
  have c35 : σ 35 = zci ws 3 := hc 35 rfl
  have ex : ctx σ = fun q => vand (zci ws 2 q) 255 := by
    funext q
    unfold ctx
    rw [c34]
  have eQ : qBk (ctx σ, σ 7 1, 400) (zS0 ws).2.2 ((zS0 ws).2.1 1) ((zS0 ws).2.1 2) 1000 0 0 = Q := by
    rw [ex, c7, hQ]
    rfl
  refine ⟨zS0 ws, zS0_ok hc hR, fun j j0 j1 => ?_, fun hk σ2 f2 h2 r2 ws2 rv hw2 hf2 hs2 hrt => ?_, fun hk σ2 f2 h2 r2 ws2 rv hw2 hf2 hs2 hrt => ?_⟩
  · obtain ⟨p, p1, p2⟩ := hT.2.2.2.1
    rw [hE] at p1
    have ep : p = 3 := so_one p1 rfl
    subst ep
    have e := p2 j.toNat (by omega)
    rw [show ((j.toNat : Nat) : Int) = j by omega] at e
    have e := zci_long e
    rw [show ((j.toNat : Nat) : Int) = j by omega] at e
    rw [c35, e]
    exact qkc_64 j j0 j1
  · rw [eQ] at hk
    cases rv with
    | none => exact absurd hrt id
    | some v =>
      obtain ⟨v, rfl, hv⟩ := hrt
      exact fin σ2 ws2 v (Or.inr hv) (h2.trans hk.symm) r2 hw2 hf2 hs2
  · rw [eQ] at hk h2
    cases rv with
    | none => exact absurd hrt id
    | some v =>
      obtain ⟨v, rfl, hv⟩ := hrt
      exact fin σ2 ws2 v (Or.inl hv) h2 r2 hw2 hf2 hs2
/-- the reference's BOOK -/
theorem z_bol (X : zX gKX E) (B : zB E) (A2 : zA E gjl) {am : Nat} (ha : (zad E)[167]? = some am) {ws : va_W} (hw : wOk (zso E) (zad E) E.2.2.2.2.2.2.1 gST ws) (hj : jOk (zso E) gJ1 ws) (hT : zTp E ws) {q : Int32} {Q : qA} (hQ : Q = qBk (fun q => vand (zci ws 168 q) 255, zci ws 167 2, 400) (zci ws 172) (zci ws 169 1) (zci ws 169 2) 1000 0 0) {K : gK}
    (h0 : ¬ (q.toInt = 0 ∨ q.toInt = 1) → ∀ ws2 : va_W, wOk (zso E) (zad E) E.2.2.2.2.2.2.1 gST ws2 → jOk (zso E) gJ1 ws2 → zTp E ws2 → (∀ o i : Nat, ¬ (o = 167 ∧ i = 0) → (∃ t, zso0[o]? = some t) → gcv ws2 o i = gcv ws o i) → K (some (.int (Int32.ofInt (-1000)))) ws2)
    (h : (q.toInt = 0 ∨ q.toInt = 1) → ∀ (ws2 : va_W) (v : Int32), wOk (zso E) (zad E) E.2.2.2.2.2.2.1 gST ws2 → jOk (zso E) gJ1 ws2 → zTp E ws2 → (∀ i : Nat, gcv ws2 1 i = gcv ws 1 i) → gcv ws2 167 2 = some (.int 0) → zCs zclk ws ws2 → zci ws2 167 15 = Q.1 → (∀ i : Int, 0 ≤ i → i < 5 → zci ws2 169 i = zci ws 169 i) → (∀ i : Int, 0 ≤ i → i < 24 → zci ws2 172 i = zci ws 172 i) → K (some (.int v)) ws2) : zgE E gm_184 0 (lv_args 0 [.ref am, .int q]) [] ws 0 0 K := by
  have hE : zso E = zso0 := hT.1
  have q1 : -2147483648 ≤ q.toInt := Int32.le_toInt q
  have q2 : q.toInt ≤ 2147483647 := Int32.toInt_le q
  by_cases hsw : q.toInt = 0 ∨ q.toInt = 1
  · refine zg_ofL B hE (md := mdB) hw hj (vs := [.inr (.inl 12), .inl q.toInt]) (asx := [.ref am, .int q]) ⟨⟨167, am, by rw [hE]; rfl, ha, rfl⟩, ⟨_, rfl, rfl⟩, trivial⟩ (fun σ hX hs hc => uk_184 X B A2 (gm_184, 7) rfl _ σ _ ?_)
    have c51 : σ 51 = zci ws 168 := hc 51 rfl
    have c12 : σ 12 = zci ws 167 := hc 12 rfl
    have c52 : σ 52 = zci ws 169 := hc 52 rfl
    have c55 : σ 55 = zci ws 172 := hc 55 rfl
    have c56 : σ 56 = zci ws 173 := hc 56 rfl
    have ex : rtx σ = fun q => vand (zci ws 168 q) 255 := by
      funext q
      unfold rtx
      rw [c51]
    have eq : qBk (rtx σ, σ 12 2, 400) (σ 55) (σ 52 1) (σ 52 2) 1000 0 0 = Q := by rw [ex, c12, c52, c55, ← hQ]
    have fin : ∀ (z : Int) (σ2 : vS), σ2 12 2 = 0 → σ2 12 15 = Q.1 → (∀ i : Int, 0 ≤ i → i < 179 → σ2 52 i = σ 52 i) → (∀ i : Int, 0 ≤ i → σ2 55 i = σ 55 i) → ∀ (ws2 : va_W) (rv : Option Value), wOk (zso E) (zad E) E.2.2.2.2.2.2.1 gST ws2 → jOk (zso E) gJ1 ws2 → fRel (zso E) mdB ws ws2 → vsgL (zso E) zuq ws2 σ2 → vRtL (zso E) (zad E) (some (.inl z)) rv → K rv ws2 := by
      intro z σ2 e2 e15 h5 h24 ws2 rv hw2 hj2 hf2 hs2 hrt
      cases rv with
      | none => exact absurd hrt id
      | some v =>
        obtain ⟨v, rfl, hv⟩ := hrt
        have v52 : ∀ i : Int, 0 ≤ i → i < 5 → zci ws2 169 i = σ2 52 i := fun i i0 i1 => cx_ci hs2 (o := 169) (by rw [hE]; rfl) rfl i0 (Or.inl ((cx_int hE hw2 (o := 169) (t := 52) rfl (n := 402) rfl (by decide) (i := i.toNat) (by omega)).imp fun _ h => h.1))
        have v55 : ∀ i : Int, 0 ≤ i → i < 24 → zci ws2 172 i = σ2 55 i := fun i i0 i1 => cx_ci hs2 (o := 172) (by rw [hE]; rfl) rfl i0 (Or.inr (cx_long hE hw2 (o := 172) (t := 55) rfl (n := 48) rfl (i := i.toNat) (by omega)))
        refine h hsw ws2 v hw2 hj2 (zTp_fr (md := mdB) (by decide +kernel) hf2 hw hw2 hT) (fun n => hf2 1 7 n (by rw [hE]; rfl) (fun q hq w => ?_)) ?_ (zCs_md (so := zso0) (md := mdB) (by decide +kernel) (by rw [← hE]; exact hf2)) ?_ (fun i i0 i1 => (v52 i i0 i1).trans (by rw [h5 i i0 (by omega), c52])) (fun i i0 i1 => (v55 i i0 i1).trans (by rw [h24 i i0, c55]))
        · have g := List.all_eq_true.mp (show (mdB.all fun q => !(Nat.beq q.1 7)) = true from by decide +kernel) q hq
          rw [w.1] at g
          exact absurd g (by decide)
        · obtain ⟨y, hy⟩ := zt_int hw2 (o := 167) (t := 12) (f := 2) (by rw [hE]; rfl) ⟨_, rfl, _, rfl⟩
          have e := hs2.1 167 12 2 y (by rw [hE]; rfl) rfl hy
          have e : y.toInt = σ2 12 2 := e
          rw [hy, show y = 0 from Int32.toInt_inj.mp (by rw [e, e2]; rfl)]
        · obtain ⟨y, hy⟩ := zt_int hw2 (o := 167) (t := 12) (f := 15) (by rw [hE]; rfl) ⟨_, rfl, _, rfl⟩
          exact (cx_ci hs2 (o := 167) (t := 12) (by rw [hE]; rfl) rfl (i := 15) (by decide) (Or.inl ⟨y, hy⟩)).trans e15
    refine ⟨⟨q1, q2⟩, hX, fun j j0 j1 => ?_, fun hn => absurd (show 0 ≤ q.toInt ∧ q.toInt ≤ 1 by omega) hn, fun _ => ⟨fun hk z σ2 x2 e2 e15 e52 e55 => ⟨x2, fun ws2 rv hw2 hj2 hf2 hs2 hrt => ?_⟩, fun hk z σ2 x2 e2 e15 e52 e55 => ⟨x2, fun ws2 rv hw2 hj2 hf2 hs2 hrt => ?_⟩⟩⟩
    · obtain ⟨p, p1, p2⟩ := hT.2.2.2.2
      rw [hE] at p1
      have ep : p = 173 := so_one p1 rfl
      subst ep
      have e := p2 j.toNat (by omega)
      rw [show ((j.toNat : Nat) : Int) = j by omega] at e
      have e := zci_long e
      rw [show ((j.toNat : Nat) : Int) = j by omega] at e
      rw [c56, e]
      exact qrw_64 j j0 j1
    · rw [eq] at hk
      exact fin z σ2 e2 (e15.trans hk.symm) e52 e55 ws2 rv hw2 hj2 hf2 hs2 hrt
    · rw [eq] at e15
      exact fin z σ2 e2 e15 e52 e55 ws2 rv hw2 hj2 hf2 hs2 hrt
  · refine zg_ofL B hE (md := [(12, 0, 1)]) hw hj (vs := [.inr (.inl 12), .inl q.toInt]) (asx := [.ref am, .int q]) ⟨⟨167, am, by rw [hE]; rfl, ha, rfl⟩, ⟨_, rfl, rfl⟩, trivial⟩ (fun σ hX hs hc => ?_)
    refine uk_184n X B ⟨q1, q2⟩ (by omega) ⟨vX_fr hX rfl rfl, fun ws2 rv hw2 hj2 hf2 hs2 hrt => ?_⟩
    cases rv with
    | none => exact absurd hrt id
    | some v =>
      obtain ⟨v, rfl, hv⟩ := hrt
      have ev : v = Int32.ofInt (-1000) := Int32.toInt_inj.mp (by rw [hv]; rfl)
      subst ev
      refine h0 hsw ws2 hw2 hj2 (zTp_fr (md := [(12, 0, 1)]) (by decide +kernel) hf2 hw hw2 hT) (fun o i hn ⟨t, ht⟩ => hf2 o t i (by rw [hE]; exact ht) (fun q hq w => ?_))
      have e := List.mem_singleton.mp hq
      subst e
      obtain ⟨w1, w2, w3⟩ := w
      have w1 : 12 = t := w1
      have w3 : i < 1 := w3
      subst w1
      exact hn ⟨so_one ht rfl, by omega⟩
end ZTB2
