/-! THE LAW'S ROUND OF TERRACE, AND OF FEED -/
section ZTC
variable {E : zE}
theorem zt_int {ws : va_W} (hw : wOk (zso E) (zad E) E.2.2.2.2.2.2.1 gST ws) {o t f : Nat} (ho : (zso E)[o]? = some t) (hob : ∃ ob, gST t = some (.inl ob) ∧ ∃ q, ob.2[f]? = some (.inl q)) : ∃ y : Int32, gcv ws o f = some (.int y) := by
  obtain ⟨a, e, g1, g2, g3⟩ := w0_at (ST := gST) (tys := E.2.2.2.2.2.2.1) ⟨hw.1, hw.2.1, fun o t q hq ht => (hw.2.2 o t q hq ht).1⟩ ho
  unfold eOk at g3
  obtain ⟨ob, hob, q, hf⟩ := hob
  rw [hob] at g3
  obtain ⟨fs, rfl, k1, k2⟩ := g3
  have x1 := List.getElem?_eq_getElem (show f < fs.length by rw [k1]; exact (List.getElem?_eq_some_iff.mp hf).1)
  obtain ⟨y, hy, -⟩ := k2 _ _ _ hf x1
  rw [hy] at x1
  exact ⟨y, (gcv_at g1 f).trans x1⟩
/-- a byte there is, and past the end none -/
theorem zt_arr {ws : va_W} (hw : wOk (zso E) (zad E) E.2.2.2.2.2.2.1 gST ws) {o t n : Nat} (ho : (zso E)[o]? = some t) (hob : ∃ ob, gST t = some (.inr ob) ∧ ob.1 < 3 ∧ ob.2.1 = n) : (∀ i, i < n → ∃ y : Int32, gcv ws o i = some (.int y)) ∧ ∀ i, n ≤ i → gcv ws o i = none := by
  obtain ⟨a, e, g1, g2, g3⟩ := w0_at (ST := gST) (tys := E.2.2.2.2.2.2.1) ⟨hw.1, hw.2.1, fun o t q hq ht => (hw.2.2 o t q hq ht).1⟩ ho
  unfold eOk at g3
  obtain ⟨ob, hob, h3, rfl⟩ := hob
  rw [hob] at g3
  rcases g3 with ⟨-, cA, f, t0, rfl, -, -⟩ | ⟨w, -⟩ | ⟨w, -⟩
  · constructor
    · intro i hi
      refine ⟨f i, (gcv_at g1 i).trans ?_⟩
      show (if i < ob.2.1 then some (Value.int (f i)) else none) = _
      rw [if_pos hi]
    · intro i hi
      refine (gcv_at g1 i).trans ?_
      show (if i < ob.2.1 then some (Value.int (f i)) else none) = _
      rw [if_neg (by omega)]
  · omega
  · omega
theorem zt_by {ws : va_W} (hw : wOk (zso E) (zad E) E.2.2.2.2.2.2.1 gST ws) (hE : zso E = zso0) (h : zBy E ws) : ∀ i : Nat, gcv ws 2 i = gcv ws 168 i := by
  obtain ⟨c, r, k1, k2, k3⟩ := h
  have k1' := k1
  have k2' := k2
  rw [hE] at k1 k2
  have ec : c = 2 := so_one k1 rfl
  have er : r = 168 := so_one k2 rfl
  subst ec er
  intro i
  by_cases hi : i < 940
  · exact k3 i hi
  · rw [(zt_arr hw k1' (n := 940) ⟨_, rfl, by decide, rfl⟩).2 i (by omega), (zt_arr hw k2' (n := 940) ⟨_, rfl, by decide, rfl⟩).2 i (by omega)]
/-- the cells but for what the reference's TERRACE that stands tells -/
def zclk : List (Nat × Nat × Nat) := zclc ++ [(191, 0, 5), (191, 402, 407), (192, 0, 48), (193, 0, 2)]
/-- the reference's TERRACE -/
theorem z_terl (X : zX gKX E) (B : zB E) {am : Nat} (ha : (zad E)[167]? = some am) {ws : va_W} (hw : wOk (zso E) (zad E) E.2.2.2.2.2.2.1 gST ws) (hj : jOk (zso E) gJ1 ws) (hT : zTp E ws) {Q : Int × Int × qS} (hQ : Q = qloop (fun q => vand (zci ws 168 q) 255, zci ws 167 2, 900) 1000 0 (q0 (zci ws 172))) {r : Int} (hr : r = Q.1) {K : gK}
    (h : ∀ (ws2 : va_W) (v : Int32), wOk (zso E) (zad E) E.2.2.2.2.2.2.1 gST ws2 → jOk (zso E) gJ1 ws2 → zTp E ws2 → (∀ i : Nat, gcv ws2 1 i = gcv ws 1 i) → gcv ws2 167 2 = some (.int 0) → v.toInt = r → zCs zclk ws ws2 → zci ws2 167 15 = Q.2.1 → (¬ Q.2.1 = 0 → (∀ i : Int, 0 ≤ i → i < 5 → zci ws2 169 i = zci ws 169 i) ∧ ∀ i : Int, 0 ≤ i → i < 24 → zci ws2 172 i = zci ws 172 i) → (Q.2.1 = 0 → (∀ i : Int, 0 ≤ i → i < 5 → zci ws2 169 i = Q.2.2.2.1 i) ∧ ∀ i : Int, 0 ≤ i → i < 24 → zci ws2 172 i = Q.2.2.2.2 i) → K (some (.int v)) ws2) : zgE E gm_278 0 (lv_args 0 [.ref am]) [] ws 0 0 K := by
  have hE : zso E = zso0 := hT.1
  refine zg_ofL B hE (md := mdT) hw hj (vs := [.inr (.inl 12)]) (asx := [.ref am]) ⟨⟨167, am, by rw [hE]; rfl, ha, rfl⟩, trivial⟩ (fun σ hX hs hc => uk_278 X B (gm_278, 2) rfl _ σ _ ?_)
  have c51 : σ 51 = zci ws 168 := hc 51 rfl
  have c12 : σ 12 = zci ws 167 := hc 12 rfl
  have c55 : σ 55 = zci ws 172 := hc 55 rfl
  have c56 : σ 56 = zci ws 173 := hc 56 rfl
  have ex : rtx σ = fun q => vand (zci ws 168 q) 255 := by
    funext q
    unfold rtx
    rw [c51]
  have fin : ∀ (σ2 : vS), σ2 12 2 = 0 → σ2 12 15 = Q.2.1 → (¬ Q.2.1 = 0 → (∀ i : Int, 0 ≤ i → i < 5 → σ2 52 i = zci ws 169 i) ∧ ∀ i : Int, 0 ≤ i → i < 24 → σ2 55 i = zci ws 172 i) → (Q.2.1 = 0 → (∀ i : Int, 0 ≤ i → i < 5 → σ2 52 i = Q.2.2.2.1 i) ∧ ∀ i : Int, 0 ≤ i → i < 24 → σ2 55 i = Q.2.2.2.2 i) → ∀ (ws2 : va_W) (rv : Option Value), wOk (zso E) (zad E) E.2.2.2.2.2.2.1 gST ws2 → jOk (zso E) gJ1 ws2 → fRel (zso E) mdT ws ws2 → vsgL (zso E) zuq ws2 σ2 → vRtL (zso E) (zad E) (some (.inl r)) rv → K rv ws2 := by
    intro σ2 e2 e15 hB hG ws2 rv hw2 hj2 hf2 hs2 hrt
    cases rv with
    | none => exact absurd hrt id
    | some v =>
      obtain ⟨v, rfl, hv⟩ := hrt
      have v52 : ∀ i : Int, 0 ≤ i → i < 5 → zci ws2 169 i = σ2 52 i := fun i i0 i1 => cx_ci hs2 (o := 169) (by rw [hE]; rfl) rfl i0 (Or.inl ((cx_int hE hw2 (o := 169) (t := 52) rfl (n := 402) rfl (by decide) (i := i.toNat) (by omega)).imp fun _ h => h.1))
      have v55 : ∀ i : Int, 0 ≤ i → i < 24 → zci ws2 172 i = σ2 55 i := fun i i0 i1 => cx_ci hs2 (o := 172) (by rw [hE]; rfl) rfl i0 (Or.inr (cx_long hE hw2 (o := 172) (t := 55) rfl (n := 48) rfl (i := i.toNat) (by omega)))
      refine h ws2 v hw2 hj2 (zTp_fr (md := mdT) (by decide +kernel) hf2 hw hw2 hT) (fun n => hf2 1 7 n (by rw [hE]; rfl) (fun q hq w => ?_)) ?_ hv (zCs_md (so := zso0) (md := mdT) (by decide +kernel) (by rw [← hE]; exact hf2)) ?_ (fun q => ⟨fun i i0 i1 => (v52 i i0 i1).trans ((hB q).1 i i0 i1), fun i i0 i1 => (v55 i i0 i1).trans ((hB q).2 i i0 i1)⟩) (fun q => ⟨fun i i0 i1 => (v52 i i0 i1).trans ((hG q).1 i i0 i1), fun i i0 i1 => (v55 i i0 i1).trans ((hG q).2 i i0 i1)⟩)
      · have g := List.all_eq_true.mp (show (mdT.all fun q => !(Nat.beq q.1 7)) = true from by decide +kernel) q hq
        rw [w.1] at g
        exact absurd g (by decide)
      · obtain ⟨y, hy⟩ := zt_int hw2 (o := 167) (t := 12) (f := 2) (by rw [hE]; rfl) ⟨_, rfl, _, rfl⟩
        have e := hs2.1 167 12 2 y (by rw [hE]; rfl) rfl hy
        have e : y.toInt = σ2 12 2 := e
        rw [hy, show y = 0 from Int32.toInt_inj.mp (by rw [e, e2]; rfl)]
      · obtain ⟨y, hy⟩ := zt_int hw2 (o := 167) (t := 12) (f := 15) (by rw [hE]; rfl) ⟨_, rfl, _, rfl⟩
        exact (cx_ci hs2 (o := 167) (t := 12) (by rw [hE]; rfl) rfl (i := 15) (by decide) (Or.inl ⟨y, hy⟩)).trans e15
  refine ⟨hX, fun j j0 j1 => ?_, fun hk σ2 x2 e2 e15 e52 e55 => ⟨x2, fun ws2 rv hw2 hj2 hf2 hs2 hrt => ?_⟩, fun hk σ2 x2 e2 e15 e52 e55 => ⟨x2, fun ws2 rv hw2 hj2 hf2 hs2 hrt => ?_⟩⟩
  · obtain ⟨p, p1, p2⟩ := hT.2.2.2.2
    rw [hE] at p1
    have ep : p = 173 := so_one p1 rfl
    subst ep
    have e := p2 j.toNat (by omega)
    rw [show ((j.toNat : Nat) : Int) = j by omega] at e
    have e := zci_long e
    rw [show ((j.toNat : Nat) : Int) = j by omega] at e
    rw [c56, e]
    exact qrw_64 j j0 j1
  · rw [ex, c12, c55, ← hQ] at hk hrt e52 e55
    rw [← hr] at hrt
    exact fin σ2 e2 (e15.trans hk.symm) (fun q => absurd hk q) (fun _ => ⟨e52, e55⟩) ws2 rv hw2 hj2 hf2 hs2 hrt
  · rw [ex, c12, c55, ← hQ] at hk hrt e15
    rw [← hr] at hrt
    exact fin σ2 e2 e15 (fun _ => ⟨fun i _ _ => by rw [e52, show σ 52 = zci ws 169 from hc 52 rfl], fun i i0 i1 => by rw [e55 i i0 i1, c55]⟩) (fun q => absurd q hk) ws2 rv hw2 hj2 hf2 hs2 hrt
/-- an object and its class -/
theorem zt_obj {ws : va_W} (hw : wOk (zso E) (zad E) E.2.2.2.2.2.2.1 gST ws) {o t a c : Nat} (ho : (zso E)[o]? = some t) (ha : (zad E)[o]? = some a) (hob : ∃ ob, gST t = some (.inl ob) ∧ ob.1 = c) : ∃ fs, ws[o]? = some (a, (.inr (c, fs) : va_E)) := by
  obtain ⟨a0, e, g1, g2, g3⟩ := w0_at (ST := gST) (tys := E.2.2.2.2.2.2.1) ⟨hw.1, hw.2.1, fun o t q hq ht => (hw.2.2 o t q hq ht).1⟩ ho
  unfold eOk at g3
  obtain ⟨ob, hob, rfl⟩ := hob
  rw [hob] at g3
  obtain ⟨fs, rfl, -, -⟩ := g3
  rw [ha] at g2
  cases g2
  exact ⟨fs, g1⟩
theorem zt_pl {oX oM oO oT ax am ao : Nat} (hE : zso E = zso0) (F : zFx E oX oM oO oT ax am ao) : oX = 0 ∧ oM = 167 ∧ oT = 1 := by
  obtain ⟨⟨x1, x2⟩, ⟨m1, m2⟩, ⟨o1, o2⟩, t1, t2⟩ := F
  rw [hE] at x1 m1 t1
  exact ⟨so_one x1 rfl, so_one m1 rfl, so_one t1 rfl⟩
theorem z_l2x (X : zX gKX E) (B : zB E) (A : zA E gJ1) {oX oM oO oT ax am ao : Nat} (F : zFx E oX oM oO oT ax am ao) {i z : Int32} {ws : va_W} {ce sl : Nat} {K : gK} (W : zWl E oM oT z ws) (hce : ce + 1 ≤ 601024) (hsl : sl + 6 ≤ 7293034) (hT : ∀ (ws2 : va_W) (z2 : Int32), zWl E oM oT z2 ws2 → zGl E 1525 (zlv E ax am ao i) [] ws2 ce sl K) : zGl E 338 (zlv E ax am ao i) [] ws ce sl K := by
  obtain ⟨w1, ⟨w2, wT, wR⟩, w3, w4⟩ := W
  have hE := wT.1
  obtain ⟨eX, eM_, eT⟩ := zt_pl hE F
  subst eX eM_ eT
  obtain ⟨⟨x1, x2⟩, ⟨m1, m2⟩, ⟨o1, o2⟩, t1, t2⟩ := F
  have hl : zsoc.length = (zad E).length := by rw [← w1.2.1, hE, zso_l.1, zso_l.2]
  obtain ⟨fs, hfs⟩ := zt_obj w1 x1 x2 (c := 11) ⟨_, rfl, rfl⟩
  refine g_aload (j := 1) (len := 1) (i := .aload_n 1) (Or.inr ⟨1, rfl, rfl, rfl⟩) (List.mem_of_getElem? (l := ga_297) (i := 99) (by decide +kernel)) (a := ax) (List.mem_cons_of_mem _ List.mem_cons_self) ?_
  obtain ⟨yN, cc, ret, ok, lk, hcls⟩ := B.2.2.2.1 13 29 1 165 1 (by decide +kernel) (Or.inr (Or.inr (Or.inl rfl))) (gm_165, 2) rfl
  refine g_call B.1 B.2.1 ok (mi := gm_L) lk hcls (i := .invokevirtual 29) (Or.inr ⟨rfl, Or.inl rfl⟩) (pc := 339) (asx := [.ref ax]) (rx := []) (List.mem_of_getElem? (l := ga_297) (i := 100) (by decide +kernel)) ⟨by decide, by decide, by show ce + 0 ≤ 601024; omega, by show sl + 0 ≤ 7293034; omega, Nat.le_of_ble_eq_true rfl, Nat.le_of_ble_eq_true rfl⟩ rfl rfl (fun _ => ⟨0, ax, fs, [], rfl, hfs⟩) ?_
  have hz1 : zci ws 1 1 = z.toInt := zci_int w3
  have hz2 : zci ws 167 2 = z.toInt := zci_int w4
  refine z_terc X B A x2 hl w1 w2 wT wR.1 (fun j => zci ws 172 (24 + j)) rfl rfl (fun ws2 v u1 u2 u3 u4 u5 hv uk uB uG => ?_)
  refine g_pop (List.mem_of_getElem? (l := ga_297) (i := 101) (by decide +kernel)) rfl ?_
  refine g_aload (j := 2) (len := 1) (i := .aload_n 2) (Or.inr ⟨2, rfl, rfl, rfl⟩) (List.mem_of_getElem? (l := ga_297) (i := 102) (by decide +kernel)) (a := am) (List.mem_cons_of_mem _ (List.mem_cons_of_mem _ List.mem_cons_self)) ?_
  obtain ⟨fs2, hfs2⟩ := zt_obj u1 m1 m2 (c := 12) ⟨_, rfl, rfl⟩
  obtain ⟨yN2, cc2, ret2, ok2, lk2, hcls2⟩ := B.2.2.2.1 13 33 1 278 1 (by decide +kernel) (Or.inr (Or.inr (Or.inl rfl))) (gm_278, 2) rfl
  refine g_call B.1 B.2.1 ok2 (mi := gm_L) lk2 hcls2 (i := .invokevirtual 33) (Or.inr ⟨rfl, Or.inl rfl⟩) (pc := 344) (asx := [.ref am]) (rx := []) (List.mem_of_getElem? (l := ga_297) (i := 103) (by decide +kernel)) ⟨by decide, by decide, by show ce + 0 + 0 ≤ 601024; omega, by show sl + 0 + 0 ≤ 7293034; omega, Nat.le_of_ble_eq_true rfl, Nat.le_of_ble_eq_true rfl⟩ rfl rfl (fun _ => ⟨167, am, fs2, [], rfl, hfs2⟩) ?_
  have c168 : zci ws2 168 = zci ws 2 := zci_cg (fun i => (u4 168 51 i rfl (by decide)).trans (zt_by w1 hE wT.2.2.1 i).symm)
  have cc : ∀ {o t : Nat}, zso0[o]? = some t → 51 ≤ t → zci ws2 o = zci ws o := fun ho ht => zci_cg (fun i => u4 _ _ i ho (Or.inr ht))
  have c172 : zci ws2 172 = zci ws 172 := cc (t := 55) rfl (by decide)
  have c169 : zci ws2 169 = zci ws 169 := cc (t := 52) rfl (by decide)
  have c191 : zci ws2 191 = zci ws 191 := cc (t := 74) rfl (by decide)
  have c192 : zci ws2 192 = zci ws 192 := cc (t := 75) rfl (by decide)
  have c193 : zci ws2 193 = zci ws 193 := cc (t := 76) rfl (by decide)
  have c167 : zci ws2 167 2 = zci ws 1 1 := by
    rw [hz1, ← hz2]
    unfold zci
    rw [u4 167 12 _ rfl (by decide)]
  have hQQ : qloop (fun q => vand (zci ws2 168 q) 255, zci ws2 167 2, 900) 1000 0 (q0 (zci ws2 172)) = qloop (fun q => vand (zci ws 2 q) 255, zci ws 1 1, 900) 1000 0 (qz (fun j => zci ws 172 (24 + j))) := by
    rw [c168, c172, c167]
    rfl
  generalize qloop (fun q => vand (zci ws 2 q) 255, zci ws 1 1, 900) 1000 0 (qz (fun j => zci ws 172 (24 + j))) = Q at hQQ hv uk uB uG
  refine z_terl X B m2 u1 u2 u3 (Q := Q) hQQ.symm (r := v.toInt) hv (fun ws3 v2 d1 d2 d3 d4 d5 hv2 d6 d7 dB dG => ?_)
  have hR3 : zTr E ws3 := by
    have e191 : ∀ i : Int, ((0 ≤ i ∧ i < 5) ∨ (402 ≤ i ∧ i < 407)) → zci ws3 191 i = zci ws 191 i := fun i hi => by
      rw [← c191]
      rcases hi with hi | hi
      · exact zCs_ci d6 (o := 191) (lo := 0) (hi := 5) (by decide) hi.1 hi.2
      · exact zCs_ci d6 (o := 191) (lo := 402) (hi := 407) (by decide) hi.1 hi.2
    have e192 : ∀ i : Int, 0 ≤ i → i < 48 → zci ws3 192 i = zci ws 192 i := fun i a b => by rw [← c192]; exact zCs_ci d6 (o := 192) (lo := 0) (hi := 48) (by decide) a b
    have e193 : ∀ i : Int, 0 ≤ i → i < 2 → zci ws3 193 i = zci ws 193 i := fun i a b => by rw [← c193]; exact zCs_ci d6 (o := 193) (lo := 0) (hi := 2) (by decide) a b
    have hkd : zKd ws3 := (zci_pt (j := 2) (i := 2) (d4 2)).trans (uk.trans d7.symm)
    by_cases hq : Q.2.1 = 0
    · obtain ⟨g1, g2, g3⟩ := uG hq
      obtain ⟨k1, k2⟩ := dG hq
      have hc3 : zCs zclo ws ws3 := zCs_tr g1 (zCs_sub (by decide +kernel) d6)
      refine ⟨zRf_cf (zCs_sub (by decide +kernel) hc3) wR.1, zAl_of (zAt_cg g3 (fun i hi => ?_) (fun i i0 i1 => ?_) (fun i i0 i1 => ?_) (fun i i0 i1 => ?_) (fun i i0 i1 => ?_) g2) g3 k1 k2, zIm_v hc3 (by decide +kernel) (fun i a b => e191 i (Or.inl ⟨a, b⟩)) (fun i a b => e191 i (Or.inr ⟨a, b⟩)) e192 e193 wR.2.2.1, hkd⟩
      · exact zCs_ci d6 (o := 4) (lo := 0) (hi := 10) (by decide) (by omega) (by omega)
      · exact zCs_ci d6 (o := 5) (lo := 0) (hi := 12) (by decide) i0 i1
      · exact zCs_ci d6 (o := 6) (lo := 0) (hi := 12) (by decide) i0 i1
      · exact zCs_ci d6 (o := 7) (lo := 0) (hi := 12) (by decide) i0 i1
      · exact zCs_ci d6 (o := 8) (lo := 0) (hi := 12) (by decide) i0 i1
    · obtain ⟨k1, k2⟩ := dB hq
      exact zTr_v (zCs_tr (uB hq) (zCs_sub (by decide +kernel) d6)) (fun i a b => by rw [← c169]; exact k1 i a b) (fun i a b => by rw [← c172]; exact k2 i a b) (fun i a b => e191 i (Or.inl ⟨a, b⟩)) (fun i a b => e191 i (Or.inr ⟨a, b⟩)) e192 e193 hkd wR
  refine g_pop (List.mem_of_getElem? (l := ga_297) (i := 104) (by decide +kernel)) rfl ?_
  refine g_goto (off := 1177) (t := 1525) (List.mem_of_getElem? (l := ga_297) (i := 105) (by decide +kernel)) rfl ?_
  exact hT ws3 0 ⟨d1, ⟨d2, d3, hR3⟩, (d4 1).trans u5, d5⟩
theorem z_arg {ax am ao : Nat} {i : Int32} (hi : 0 ≤ i.toInt ∧ i.toInt + 6 ≤ (E.2.2.1 : Int)) (hLS : E.2.2.1 ≤ 3072) {pc : Nat} {k : Int} (hk : 0 ≤ k ∧ k ≤ 5) (n1 : (pc, Instr.aload_n 0, 1) ∈ ga_297) (n2 : (pc + 1, Instr.iload 4, 2) ∈ ga_297) (n3 : (pc + 3, Instr.iconst k, 1) ∈ ga_297) (n4 : (pc + 4, Instr.iadd, 1) ∈ ga_297) (n5 : (pc + 5, Instr.iaload, 1) ∈ ga_297) {st : List Value} {ws : va_W} {ce sl : Nat} {K : gK}
    (h : zGl E (pc + 6) (zlv E ax am ao i) (.int (E.2.2.2.1 (i + Int32.ofInt k).toNatClampNeg) :: st) ws ce sl K) : zGl E pc (zlv E ax am ao i) st ws ce sl K := by
  have ck : (Int32.ofInt k).toInt = k := Int32.toInt_ofInt_of_le (by show -2147483648 ≤ k; omega) (by show k < 2147483648; omega)
  have i1 : (i + Int32.ofInt k).toInt = i.toInt + k := by
    rw [i_add (x := i) (y := Int32.ofInt k) (by rw [ck]; omega) (by rw [ck]; omega), ck]
  refine g_aload (j := 0) (len := 1) (i := .aload_n 0) (Or.inr ⟨0, rfl, rfl, rfl⟩) n1 (a := E.1) List.mem_cons_self ?_
  refine g_iload (j := 4) (len := 2) (i := .iload 4) (Or.inl ⟨rfl, rfl⟩) n2 (z := i) (List.mem_cons_of_mem _ (List.mem_cons_of_mem _ (List.mem_cons_of_mem _ (List.mem_cons_of_mem _ List.mem_cons_self)))) ?_
  refine g_iconst (n := k) n3 ?_
  refine g_iadd n4 ?_
  exact g_sld rfl n5 (vp_of (lo := i.toInt + k) (hi := i.toInt + k) (by omega) (by omega) (by omega) (by omega)).1 h
theorem z_l0x (X : zX gKX E) (B : zB E) {oX oM oO oT ax am ao : Nat} (F : zFx E oX oM oO oT ax am ao) (hLS : E.2.2.1 ≤ 3072) {i z : Int32} (hi : 0 ≤ i.toInt ∧ i.toInt + 6 ≤ (E.2.2.1 : Int)) (hz : 0 ≤ z.toInt ∧ z.toInt ≤ 920) {ws : va_W} {ce sl : Nat} {K : gK} (W : zWl E oM oT z ws) (hce : ce + 1 ≤ 601024) (hsl : sl + 6 ≤ 7293034) (hT : ∀ (ws2 : va_W) (z2 : Int32), zWl E oM oT z2 ws2 → zGl E 1525 (zlv E ax am ao i) [] ws2 ce sl K) : zGl E 240 (zlv E ax am ao i) [] ws ce sl K := by
  obtain ⟨w1, ⟨w2, wT, wR⟩, w3, w4⟩ := W
  have hE := wT.1
  obtain ⟨eX, eM_, eT⟩ := zt_pl hE F
  subst eX eM_ eT
  obtain ⟨⟨x1, x2⟩, ⟨m1, m2⟩, ⟨o1, o2⟩, t1, t2⟩ := F
  have hl : zsoc.length = (zad E).length := by rw [← w1.2.1, hE, zso_l.1, zso_l.2]
  obtain ⟨fs, hfs⟩ := zt_obj w1 x1 x2 (c := 11) ⟨_, rfl, rfl⟩
  have hz1 : zci ws 1 1 = z.toInt := zci_int w3
  have hz2 : zci ws 167 2 = z.toInt := zci_int w4
  refine g_aload (j := 1) (len := 1) (i := .aload_n 1) (Or.inr ⟨1, rfl, rfl, rfl⟩) (List.mem_of_getElem? (l := ga_297) (i := 25) (by decide +kernel)) (a := ax) (List.mem_cons_of_mem _ List.mem_cons_self) ?_
  refine z_arg hi hLS (k := 1) (by decide) (List.mem_of_getElem? (l := ga_297) (i := 26) (by decide +kernel)) (List.mem_of_getElem? (l := ga_297) (i := 27) (by decide +kernel)) (List.mem_of_getElem? (l := ga_297) (i := 28) (by decide +kernel)) (List.mem_of_getElem? (l := ga_297) (i := 29) (by decide +kernel)) (List.mem_of_getElem? (l := ga_297) (i := 30) (by decide +kernel)) ?_
  refine z_arg hi hLS (k := 2) (by decide) (List.mem_of_getElem? (l := ga_297) (i := 31) (by decide +kernel)) (List.mem_of_getElem? (l := ga_297) (i := 32) (by decide +kernel)) (List.mem_of_getElem? (l := ga_297) (i := 33) (by decide +kernel)) (List.mem_of_getElem? (l := ga_297) (i := 34) (by decide +kernel)) (List.mem_of_getElem? (l := ga_297) (i := 35) (by decide +kernel)) ?_
  refine z_arg hi hLS (k := 3) (by decide) (List.mem_of_getElem? (l := ga_297) (i := 36) (by decide +kernel)) (List.mem_of_getElem? (l := ga_297) (i := 37) (by decide +kernel)) (List.mem_of_getElem? (l := ga_297) (i := 38) (by decide +kernel)) (List.mem_of_getElem? (l := ga_297) (i := 39) (by decide +kernel)) (List.mem_of_getElem? (l := ga_297) (i := 40) (by decide +kernel)) ?_
  refine z_arg hi hLS (k := 4) (by decide) (List.mem_of_getElem? (l := ga_297) (i := 41) (by decide +kernel)) (List.mem_of_getElem? (l := ga_297) (i := 42) (by decide +kernel)) (List.mem_of_getElem? (l := ga_297) (i := 43) (by decide +kernel)) (List.mem_of_getElem? (l := ga_297) (i := 44) (by decide +kernel)) (List.mem_of_getElem? (l := ga_297) (i := 45) (by decide +kernel)) ?_
  refine z_arg hi hLS (k := 5) (by decide) (List.mem_of_getElem? (l := ga_297) (i := 46) (by decide +kernel)) (List.mem_of_getElem? (l := ga_297) (i := 47) (by decide +kernel)) (List.mem_of_getElem? (l := ga_297) (i := 48) (by decide +kernel)) (List.mem_of_getElem? (l := ga_297) (i := 49) (by decide +kernel)) (List.mem_of_getElem? (l := ga_297) (i := 50) (by decide +kernel)) ?_
  obtain ⟨yN, cc, ret, ok, lk, hcls⟩ := B.2.2.2.1 13 19 1 128 6 (by decide +kernel) (Or.inr (Or.inr (Or.inl rfl))) (gm_128, 6) rfl
  refine g_call B.1 B.2.1 ok (mi := gm_L) lk hcls (i := .invokevirtual 19) (Or.inr ⟨rfl, Or.inl rfl⟩) (pc := 271) (asx := [.ref ax, .int (E.2.2.2.1 (i + Int32.ofInt 1).toNatClampNeg), .int (E.2.2.2.1 (i + Int32.ofInt 2).toNatClampNeg), .int (E.2.2.2.1 (i + Int32.ofInt 3).toNatClampNeg), .int (E.2.2.2.1 (i + Int32.ofInt 4).toNatClampNeg), .int (E.2.2.2.1 (i + Int32.ofInt 5).toNatClampNeg)]) (rx := []) (List.mem_of_getElem? (l := ga_297) (i := 51) (by decide +kernel)) ⟨by decide, by decide, by show ce + 0 ≤ 601024; omega, by show sl + 0 ≤ 7293034; omega, Nat.le_of_ble_eq_true rfl, Nat.le_of_ble_eq_true rfl⟩ rfl rfl (fun _ => ⟨0, ax, fs, _, rfl, hfs⟩) ?_
  refine zg_ofC (md := mdFc) w1 wT.2.1 hl (vs := [.inr (.inl 11), .inl (E.2.2.2.1 (i + Int32.ofInt 1).toNatClampNeg).toInt, .inl (E.2.2.2.1 (i + Int32.ofInt 2).toNatClampNeg).toInt, .inl (E.2.2.2.1 (i + Int32.ofInt 3).toNatClampNeg).toInt, .inl (E.2.2.2.1 (i + Int32.ofInt 4).toNatClampNeg).toInt, .inl (E.2.2.2.1 (i + Int32.ofInt 5).toNatClampNeg).toInt]) (asx := [.ref ax, .int (E.2.2.2.1 (i + Int32.ofInt 1).toNatClampNeg), .int (E.2.2.2.1 (i + Int32.ofInt 2).toNatClampNeg), .int (E.2.2.2.1 (i + Int32.ofInt 3).toNatClampNeg), .int (E.2.2.2.1 (i + Int32.ofInt 4).toNatClampNeg), .int (E.2.2.2.1 (i + Int32.ofInt 5).toNatClampNeg)]) ⟨⟨0, ax, rfl, x2, rfl⟩, ⟨_, rfl, rfl⟩, ⟨_, rfl, rfl⟩, ⟨_, rfl, rfl⟩, ⟨_, rfl, rfl⟩, ⟨_, rfl, rfl⟩, trivial⟩ (fun σ hs hc => vk_128 X B (gm_128, 6) rfl _ σ _ ?_)
  have c34 : σ 34 = zci ws 2 := hc 34 rfl
  have c7 : σ 7 = zci ws 1 := hc 7 rfl
  have c71 : σ 7 1 = z.toInt := by rw [c7, hz1]
  refine ⟨by rw [c71]; exact hz, fun σ2 e34 e7 ws2 rv hw2 hf2 hs2 hrt => ?_⟩
  rw [c71, c34] at e34
  rw [c71] at e7
  have g := zc_back (md := mdFc) (by decide +kernel) hE w1 w2 hw2 hf2
  obtain ⟨u1, u2, u3⟩ := g
  have key : ∀ {o t n : Nat}, zso0[o]? = some t → okc t = true → ¬ t = 7 → ¬ t = 34 → gcv ws2 o n = gcv ws o n := fun h ht h7 h34 => zf_keep (md := mdFc) (by decide +kernel) hf2 h ht h7 (fun q => absurd q h34)
  cases rv with
  | none => exact absurd hrt id
  | some v =>
    obtain ⟨v, rfl, hv⟩ := hrt
    refine g_pop (List.mem_of_getElem? (l := ga_297) (i := 52) (by decide +kernel)) rfl ?_
    refine g_aload (j := 2) (len := 1) (i := .aload_n 2) (Or.inr ⟨2, rfl, rfl, rfl⟩) (List.mem_of_getElem? (l := ga_297) (i := 53) (by decide +kernel)) (a := am) (List.mem_cons_of_mem _ (List.mem_cons_of_mem _ List.mem_cons_self)) ?_
    refine z_arg hi hLS (k := 1) (by decide) (List.mem_of_getElem? (l := ga_297) (i := 54) (by decide +kernel)) (List.mem_of_getElem? (l := ga_297) (i := 55) (by decide +kernel)) (List.mem_of_getElem? (l := ga_297) (i := 56) (by decide +kernel)) (List.mem_of_getElem? (l := ga_297) (i := 57) (by decide +kernel)) (List.mem_of_getElem? (l := ga_297) (i := 58) (by decide +kernel)) ?_
    refine z_arg hi hLS (k := 2) (by decide) (List.mem_of_getElem? (l := ga_297) (i := 59) (by decide +kernel)) (List.mem_of_getElem? (l := ga_297) (i := 60) (by decide +kernel)) (List.mem_of_getElem? (l := ga_297) (i := 61) (by decide +kernel)) (List.mem_of_getElem? (l := ga_297) (i := 62) (by decide +kernel)) (List.mem_of_getElem? (l := ga_297) (i := 63) (by decide +kernel)) ?_
    refine z_arg hi hLS (k := 3) (by decide) (List.mem_of_getElem? (l := ga_297) (i := 64) (by decide +kernel)) (List.mem_of_getElem? (l := ga_297) (i := 65) (by decide +kernel)) (List.mem_of_getElem? (l := ga_297) (i := 66) (by decide +kernel)) (List.mem_of_getElem? (l := ga_297) (i := 67) (by decide +kernel)) (List.mem_of_getElem? (l := ga_297) (i := 68) (by decide +kernel)) ?_
    refine z_arg hi hLS (k := 4) (by decide) (List.mem_of_getElem? (l := ga_297) (i := 69) (by decide +kernel)) (List.mem_of_getElem? (l := ga_297) (i := 70) (by decide +kernel)) (List.mem_of_getElem? (l := ga_297) (i := 71) (by decide +kernel)) (List.mem_of_getElem? (l := ga_297) (i := 72) (by decide +kernel)) (List.mem_of_getElem? (l := ga_297) (i := 73) (by decide +kernel)) ?_
    refine z_arg hi hLS (k := 5) (by decide) (List.mem_of_getElem? (l := ga_297) (i := 74) (by decide +kernel)) (List.mem_of_getElem? (l := ga_297) (i := 75) (by decide +kernel)) (List.mem_of_getElem? (l := ga_297) (i := 76) (by decide +kernel)) (List.mem_of_getElem? (l := ga_297) (i := 77) (by decide +kernel)) (List.mem_of_getElem? (l := ga_297) (i := 78) (by decide +kernel)) ?_
    obtain ⟨fs2, hfs2⟩ := zt_obj u1 m1 m2 (c := 12) ⟨_, rfl, rfl⟩
    obtain ⟨yN2, cc2, ret2, ok2, lk2, hcls2⟩ := B.2.2.2.1 13 23 1 206 6 (by decide +kernel) (Or.inr (Or.inr (Or.inl rfl))) (gm_206, 6) rfl
    refine g_call B.1 B.2.1 ok2 (mi := gm_L) lk2 hcls2 (i := .invokevirtual 23) (Or.inr ⟨rfl, Or.inl rfl⟩) (pc := 306) (asx := [.ref am, .int (E.2.2.2.1 (i + Int32.ofInt 1).toNatClampNeg), .int (E.2.2.2.1 (i + Int32.ofInt 2).toNatClampNeg), .int (E.2.2.2.1 (i + Int32.ofInt 3).toNatClampNeg), .int (E.2.2.2.1 (i + Int32.ofInt 4).toNatClampNeg), .int (E.2.2.2.1 (i + Int32.ofInt 5).toNatClampNeg)]) (rx := []) (List.mem_of_getElem? (l := ga_297) (i := 79) (by decide +kernel)) ⟨by decide, by decide, by show ce + 0 + 0 ≤ 601024; omega, by show sl + 0 + 0 ≤ 7293034; omega, Nat.le_of_ble_eq_true rfl, Nat.le_of_ble_eq_true rfl⟩ rfl rfl (fun _ => ⟨167, am, fs2, _, rfl, hfs2⟩) ?_
    refine zg_ofL B hE (md := mdFr) u1 u2 (vs := [.inr (.inl 12), .inl (E.2.2.2.1 (i + Int32.ofInt 1).toNatClampNeg).toInt, .inl (E.2.2.2.1 (i + Int32.ofInt 2).toNatClampNeg).toInt, .inl (E.2.2.2.1 (i + Int32.ofInt 3).toNatClampNeg).toInt, .inl (E.2.2.2.1 (i + Int32.ofInt 4).toNatClampNeg).toInt, .inl (E.2.2.2.1 (i + Int32.ofInt 5).toNatClampNeg).toInt]) (asx := [.ref am, .int (E.2.2.2.1 (i + Int32.ofInt 1).toNatClampNeg), .int (E.2.2.2.1 (i + Int32.ofInt 2).toNatClampNeg), .int (E.2.2.2.1 (i + Int32.ofInt 3).toNatClampNeg), .int (E.2.2.2.1 (i + Int32.ofInt 4).toNatClampNeg), .int (E.2.2.2.1 (i + Int32.ofInt 5).toNatClampNeg)]) ⟨⟨167, am, by rw [hE]; rfl, m2, rfl⟩, ⟨_, rfl, rfl⟩, ⟨_, rfl, rfl⟩, ⟨_, rfl, rfl⟩, ⟨_, rfl, rfl⟩, ⟨_, rfl, rfl⟩, trivial⟩ (fun τ hX hst hct => uk_206 X B (gm_206, 6) rfl _ τ _ ?_)
    have d51 : τ 51 = zci ws 2 := (hct 51 rfl).trans (zci_cg (fun n => (key (o := 168) (t := 51) rfl (by decide +kernel) (by decide) (by decide)).trans (zt_by w1 hE wT.2.2.1 n).symm))
    have d12 : τ 12 2 = z.toInt := by
      rw [show τ 12 = zci ws2 167 from hct 12 rfl]
      exact zci_int ((key (o := 167) (t := 12) rfl (by decide +kernel) (by decide) (by decide)).trans w4)
    refine ⟨by rw [d12]; exact hz, fun τ2 e51 e12 eo => ⟨vX_fr hX (eo 52 (by decide) (by decide)) (eo 74 (by decide) (by decide)), fun ws3 rv hw3 hj3 hf3 hs3 hrt3 => ?_⟩⟩
    rw [d51, d12] at e51
    rw [d12] at e12
    cases rv with
    | none => exact absurd hrt3 id
    | some v2 =>
      obtain ⟨v2, rfl, hv2⟩ := hrt3
      refine g_pop (List.mem_of_getElem? (l := ga_297) (i := 80) (by decide +kernel)) rfl ?_
      refine g_goto (off := 1215) (t := 1525) (List.mem_of_getElem? (l := ga_297) (i := 81) (by decide +kernel)) rfl ?_
      have kr : ∀ {o t n : Nat}, zso0[o]? = some t → (t = 12 → False) → (t = 51 → False) → gcv ws3 o n = gcv ws2 o n := fun h h1 h2 => hf3 _ _ _ (by rw [hE]; exact h) (fun q hq w => by
        have g := List.all_eq_true.mp (show (mdFr.all fun q => Nat.beq q.1 12 || Nat.beq q.1 51) = true from by decide +kernel) q hq
        rw [w.1, Bool.or_eq_true] at g
        rcases g with g | g
        · exact h1 (Nat.eq_of_beq_eq_true g)
        · exact h2 (Nat.eq_of_beq_eq_true g))
      obtain ⟨y1, hy1⟩ := zt_len hE u1
      obtain ⟨y2, hy2⟩ := zt_int hw3 (o := 167) (t := 12) (f := 2) (by rw [hE]; rfl) ⟨_, rfl, _, rfl⟩
      have q1 : y1.toInt = σ2 7 1 := hs2.1 1 7 1 y1 rfl rfl hy1
      have q2 : y2.toInt = τ2 12 2 := hs3.1 167 12 2 y2 (by rw [hE]; rfl) rfl hy2
      have ey : y2 = y1 := Int32.toInt_inj.mp (by rw [q1, q2, e7, e12])
      subst ey
      refine hT ws3 y2 ⟨hw3, ⟨hj3, ⟨hE, zFn_fr (md := mdFr) (by decide +kernel) hE hf3 u1 hw3 u3, ⟨2, 168, by rw [hE]; rfl, by rw [hE]; rfl, fun n hn => ?_⟩, ?_, ?_⟩, zTr_fr (md := mdFr) (by decide +kernel) hE hf3 (zTr_fc (md := mdFc) (by decide +kernel) hf2 wR)⟩, (kr (o := 1) (t := 7) rfl (by decide) (by decide)).trans hy1, hy2⟩
      · obtain ⟨b1, hb1⟩ := (zt_arr u1 (o := 2) (t := 34) (n := 940) (by rw [hE]; rfl) ⟨_, rfl, by decide, rfl⟩).1 n hn
        obtain ⟨b2, hb2⟩ := (zt_arr hw3 (o := 168) (t := 51) (n := 940) (by rw [hE]; rfl) ⟨_, rfl, by decide, rfl⟩).1 n hn
        have r1 : b1.toInt = σ2 34 (n : Int) := hs2.1 2 34 n b1 rfl rfl hb1
        have r2 : b2.toInt = τ2 51 (n : Int) := hs3.1 168 51 n b2 (by rw [hE]; rfl) rfl hb2
        rw [kr (o := 2) (t := 34) rfl (by decide) (by decide), hb1, hb2, show b1 = b2 from Int32.toInt_inj.mp (by rw [r1, r2, e34, e51])]
      · obtain ⟨p, p1, p2⟩ := wT.2.2.2.1
        have p1' := p1
        rw [hE] at p1'
        exact ⟨p, p1, fun j hj => by rw [kr p1' (by decide) (by decide), key p1' (by decide +kernel) (by decide) (by decide)]; exact p2 j hj⟩
      · obtain ⟨p, p1, p2⟩ := wT.2.2.2.2
        have p1' := p1
        rw [hE] at p1'
        exact ⟨p, p1, fun j hj => by rw [kr p1' (by decide) (by decide), key p1' (by decide +kernel) (by decide) (by decide)]; exact p2 j hj⟩
end ZTC
