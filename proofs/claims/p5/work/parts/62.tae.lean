/-! A TERRACE WAS READ: the class's terrace from there on; what is told, by things -/
noncomputable section
/-- the class's cells, but for what the TERRACE that stands tells -/
def zclo : List (Nat × Nat × Nat) := [(0, 0, 17), (89, 0, 2), (90, 0, 8), (126, 0, 2), (4, 0, 8), (129, 0, 10), (130, 0, 12), (131, 0, 12), (132, 0, 12), (133, 0, 12), (148, 0, 10), (149, 0, 12), (150, 0, 12), (151, 0, 12), (152, 0, 12)]
def mdR : aMd := gc_165_0.2.2.2
def zr36 : List (Nat × Int × Int) := zrg 36
/-- thing T of the class tells what S tells -/
def zAt (ws : va_W) (T : Nat) (S : qS) : Prop := (∀ k : Int, 0 ≤ k → k < 3 → zci ws (T + 1) k = S.2.1 k) ∧ (zci ws T 8 = S.2.1 3 ∧ rbk (zci ws T 9) (S.2.1 3) (S.2.1 4)) ∧ cNm (zci ws (T + 2)) (S.2.1 0) S.2.2 0 ∧ cNm (zci ws (T + 3)) (S.2.1 1) S.2.2 6 ∧ cNm (zci ws (T + 4)) (S.2.1 2) S.2.2 12
/-- what there may be of each -/
def zAb (S : qS) : Prop := ((0 ≤ S.2.1 0 ∧ S.2.1 0 ≤ 6) ∧ (0 ≤ S.2.1 1 ∧ S.2.1 1 ≤ 6) ∧ (0 ≤ S.2.1 2 ∧ S.2.1 2 ≤ 12)) ∧ (0 ≤ S.2.1 3 ∧ S.2.1 3 ≤ 20)
end
theorem zAt_cg {ws ws2 : va_W} {T T2 : Nat} {S : qS} (hb : zAb S) (hT : ∀ i : Int, (i = 8 ∨ i = 9) → zci ws2 T2 i = zci ws T i) (h1 : ∀ i : Int, 0 ≤ i → i < 12 → zci ws2 (T2 + 1) i = zci ws (T + 1) i) (h2 : ∀ i : Int, 0 ≤ i → i < 12 → zci ws2 (T2 + 2) i = zci ws (T + 2) i) (h3 : ∀ i : Int, 0 ≤ i → i < 12 → zci ws2 (T2 + 3) i = zci ws (T + 3) i) (h4 : ∀ i : Int, 0 ≤ i → i < 12 → zci ws2 (T2 + 4) i = zci ws (T + 4) i) (h : zAt ws T S) : zAt ws2 T2 S := by
  obtain ⟨⟨b0, b1, b2⟩, b3⟩ := hb
  obtain ⟨a, ⟨c1, c2⟩, d0, d1, d2⟩ := h
  unfold zAt
  rw [hT 8 (Or.inl rfl), hT 9 (Or.inr rfl)]
  exact ⟨fun k k0 k1 => (h1 k k0 (by omega)).trans (a k k0 k1), ⟨c1, c2⟩, cNm_cg (by decide) d0 rfl (fun i i0 i1 => h2 i i0 (by omega)) (fun _ _ _ => rfl), cNm_cg (by decide) d1 rfl (fun i i0 i1 => h3 i i0 (by omega)) (fun _ _ _ => rfl), cNm_cg (by decide) d2 rfl (fun i i0 i1 => h4 i i0 (by omega)) (fun _ _ _ => rfl)⟩
theorem zAl_of {ws : va_W} {T : Nat} {S : qS} (hA : zAt ws T S) (hb : zAb S) (h5 : ∀ i : Int, 0 ≤ i → i < 5 → zci ws 169 i = S.2.1 i) (hn : ∀ i : Int, 0 ≤ i → i < 24 → zci ws 172 i = S.2.2 i) : zAl ws T 169 0 172 0 := by
  obtain ⟨⟨b0, b1, b2⟩, b3⟩ := hb
  obtain ⟨a, ⟨c1, c2⟩, d0, d1, d2⟩ := hA
  have e0 := h5 0 (by decide) (by decide)
  have e1 := h5 1 (by decide) (by decide)
  have e2 := h5 2 (by decide) (by decide)
  have e3 := h5 3 (by decide) (by decide)
  have e4 := h5 4 (by decide) (by decide)
  unfold zAl
  show ((0 ≤ zci ws 169 0 ∧ zci ws 169 0 ≤ 6) ∧ (0 ≤ zci ws 169 1 ∧ zci ws 169 1 ≤ 6) ∧ (0 ≤ zci ws 169 2 ∧ zci ws 169 2 ≤ 12) ∧ (0 ≤ zci ws 169 3 ∧ zci ws 169 3 ≤ 20)) ∧ _ ∧ (zci ws T 8 = zci ws 169 3 ∧ rbk (zci ws T 9) (zci ws 169 3) (zci ws 169 4)) ∧ cNm (zci ws (T + 2)) (zci ws 169 0) _ 0 ∧ cNm (zci ws (T + 3)) (zci ws 169 1) _ 6 ∧ cNm (zci ws (T + 4)) (zci ws 169 2) _ 12
  rw [e0, e1, e2, e3, e4]
  refine ⟨⟨b0, b1, b2, b3⟩, fun k k0 k1 => ?_, ⟨c1, c2⟩, cNm_cg (by decide) d0 rfl (fun _ _ _ => rfl) (fun i i0 i1 => ?_), cNm_cg (by decide) d1 rfl (fun _ _ _ => rfl) (fun i i0 i1 => ?_), cNm_cg (by decide) d2 rfl (fun _ _ _ => rfl) (fun i i0 i1 => ?_)⟩
  · rw [a k k0 k1]
    have e := h5 k k0 (by omega)
    rw [← e]
    congr 1
    show k = ((0 : Nat) : Int) + k
    omega
  · have e := hn (0 + i) (by omega) (by omega)
    rw [← e]
    show zci ws 172 (((0 : Nat) : Int) + (0 + i)) = _
    congr 1
    show ((0 : Nat) : Int) + (0 + i) = 0 + i
    omega
  · have e := hn (6 + i) (by omega) (by omega)
    rw [← e]
    show zci ws 172 (((0 : Nat) : Int) + (6 + i)) = _
    congr 1
    show ((0 : Nat) : Int) + (6 + i) = 6 + i
    omega
  · have e := hn (12 + i) (by omega) (by omega)
    rw [← e]
    show zci ws 172 (((0 : Nat) : Int) + (12 + i)) = _
    congr 1
    show ((0 : Nat) : Int) + (12 + i) = 12 + i
    omega
section CE
variable {E : zE} {ws : va_W} {K : gK}
/-- a cell of an array of ints, of longs -/
theorem cx_int (hE : zso E = zso0) (hw : wOk (zso E) (zad E) E.2.2.2.2.2.2.1 gST ws) {o t n : Nat} (ho : zso0[o]? = some t) {k : Nat} {rg : List (Nat × Int × Int)} {u : Nat} (hob : gST t = some (.inr (k, n, rg, u))) (hk : k < 3) {i : Nat} (hi : i < n) : ∃ y : Int32, gcv ws o i = some (.int y) ∧ ∀ v : Int × Int, rgAt rg i = some v → v.1 ≤ y.toInt ∧ y.toInt ≤ v.2 := by
  obtain ⟨a, e, g1, g2, g3⟩ := w0_at (ST := gST) (tys := E.2.2.2.2.2.2.1) ⟨hw.1, hw.2.1, fun o t q hq ht => (hw.2.2 o t q hq ht).1⟩ (o := o) (t := t) (by rw [hE]; exact ho)
  unfold eOk at g3
  rw [hob] at g3
  rcases g3 with ⟨q3, cA, f, t6, rfl, q1, q2⟩ | ⟨q1, -⟩ | ⟨q1, -⟩
  · obtain ⟨v, v1, v2⟩ := q2 i hi
    refine ⟨f i, ?_, fun u hu => ?_⟩
    · rw [gcv_at g1]
      show (if i < n then some (Value.int (f i)) else none) = _
      rw [if_pos hi]
    · rw [v1] at hu
      cases hu
      exact v2
  · have q1 : k = 3 := q1
    omega
  · have q1 : k = 4 := q1
    omega
theorem cx_long (hE : zso E = zso0) (hw : wOk (zso E) (zad E) E.2.2.2.2.2.2.1 gST ws) {o t n : Nat} (ho : zso0[o]? = some t) {rg : List (Nat × Int × Int)} {u : Nat} (hob : gST t = some (.inr (3, n, rg, u))) {i : Nat} (hi : i < n) : ∃ y : Int64, gcv ws o i = some (.long y) := by
  obtain ⟨a, e, g1, g2, g3⟩ := w0_at (ST := gST) (tys := E.2.2.2.2.2.2.1) ⟨hw.1, hw.2.1, fun o t q hq ht => (hw.2.2 o t q hq ht).1⟩ (o := o) (t := t) (by rw [hE]; exact ho)
  unfold eOk at g3
  rw [hob] at g3
  rcases g3 with ⟨q1, -⟩ | ⟨q3, cA, f, t6, rfl, q1⟩ | ⟨q1, -⟩
  · exact absurd q1 (by decide : ¬ (3 : Nat) < 3)
  · refine ⟨f i, ?_⟩
    rw [gcv_at g1]
    show (if i < n then some (Value.long (f i)) else none) = _
    rw [if_pos hi]
  · exact absurd q1 (by decide : ¬ (3 : Nat) = 4)
/-- what a walk knows of a cell is what the thing holds -/
theorem cx_ci {so : List Nat} {uq : Nat → Bool} {σ : vS} (hs : vsgL so uq ws σ) {o t : Nat} (ho : so[o]? = some t) (hu : uq t = true) {i : Int} (h0 : 0 ≤ i) (hx : (∃ y : Int32, gcv ws o i.toNat = some (.int y)) ∨ ∃ y : Int64, gcv ws o i.toNat = some (.long y)) : zci ws o i = σ t i := by
  have ei : ((i.toNat : Nat) : Int) = i := by omega
  rcases hx with ⟨y, hy⟩ | ⟨y, hy⟩
  · have e := zci_int hy
    rw [ei] at e
    rw [e, hs.1 o t i.toNat y ho hu hy, ei]
  · have e := zci_long hy
    rw [ei] at e
    rw [e, hs.2 o t i.toNat y ho hu hy, ei]
/-- what the class's reader has told -/
theorem zAt_of (hE : zso E = zso0) (hw : wOk (zso E) (zad E) E.2.2.2.2.2.2.1 gST ws) {σ : vS} (hs : vsgL zsoc uqc ws σ) {S : qS} (hb : cTb S σ) : zAt ws 90 S ∧ zAb S := by
  obtain ⟨⟨⟨a0, a1, a2⟩, n0, n1, n2⟩, ⟨p1, p2⟩, -⟩ := hb
  have k91 : ∀ i : Int, 0 ≤ i → i < 3 → zci ws 91 i = σ 79 i := fun i i0 i1 => cx_ci hs rfl rfl i0 (Or.inl ((cx_int hE hw (o := 91) (t := 36) rfl (n := 3) rfl (by decide) (i := i.toNat) (by omega)).imp fun _ h => h.1))
  have kr : ∀ (i : Nat) (lo hi : Int), i < 3 → rgAt zr36 i = some (lo, hi) → lo ≤ σ 79 (i : Int) ∧ σ 79 (i : Int) ≤ hi := fun i lo hi i1 hr => by
    obtain ⟨y, y1, y2⟩ := cx_int hE hw (o := 91) (t := 36) rfl (n := 3) (rg := zr36) rfl (by decide) (i := i) i1
    have e := k91 (i : Int) (by omega) (by omega)
    rw [zci_int y1] at e
    rw [← e]
    exact y2 _ hr
  have r0 := kr 0 0 6 (by decide) rfl
  have r1 := kr 1 0 6 (by decide) rfl
  have r2 := kr 2 0 12 (by decide) rfl
  have r0 : 0 ≤ σ 79 0 ∧ σ 79 0 ≤ 6 := r0
  have r1 : 0 ≤ σ 79 1 ∧ σ 79 1 ≤ 6 := r1
  have r2 : 0 ≤ σ 79 2 ∧ σ 79 2 ≤ 12 := r2
  rw [a0] at r0
  rw [a1] at r1
  rw [a2] at r2
  obtain ⟨y8, hy8, l8, u8⟩ := cf_int hE hw (o := 90) (t := 8) rfl (f := 8) (lo := .ofNat 0) (hi := .ofNat 20) ⟨_, rfl, rfl⟩
  obtain ⟨y9, hy9, -, -⟩ := cf_int hE hw (o := 90) (t := 8) rfl (f := 9) (lo := .negSucc 2147483647) (hi := .ofNat 2147483647) ⟨_, rfl, rfl⟩
  have e8 : zci ws 90 8 = σ 78 8 := cx_ci hs rfl rfl (by decide) (Or.inl ⟨y8, hy8⟩)
  have e9 : zci ws 90 9 = σ 78 9 := cx_ci hs rfl rfl (by decide) (Or.inl ⟨y9, hy9⟩)
  have b8 : 0 ≤ S.2.1 3 ∧ S.2.1 3 ≤ 20 := by
    have e := zci_int hy8
    have e : zci ws 90 8 = y8.toInt := e
    rw [← p1, ← e8, e]
    exact ⟨l8, u8⟩
  refine ⟨⟨fun k k0 k1 => ?_, ⟨e8.trans p1, by rw [e9]; exact p2⟩, cNm_cg (by decide) n0 rfl (fun i i0 i1 => ?_) (fun _ _ _ => rfl), cNm_cg (by decide) n1 rfl (fun i i0 i1 => ?_) (fun _ _ _ => rfl), cNm_cg (by decide) n2 rfl (fun i i0 i1 => ?_) (fun _ _ _ => rfl)⟩, ⟨r0, r1, r2⟩, b8⟩
  · show zci ws 91 k = S.2.1 k
    rw [k91 k k0 k1]
    rcases (show k = 0 ∨ k = 1 ∨ k = 2 by omega) with rfl | rfl | rfl
    · exact a0
    · exact a1
    · exact a2
  · exact cx_ci hs (o := 92) rfl rfl i0 (Or.inr (cx_long hE hw (o := 92) (t := 37) rfl (n := 6) rfl (by omega)))
  · exact cx_ci hs (o := 93) rfl rfl i0 (Or.inr (cx_long hE hw (o := 93) (t := 38) rfl (n := 6) rfl (by omega)))
  · exact cx_ci hs (o := 94) rfl rfl i0 (Or.inr (cx_long hE hw (o := 94) (t := 39) rfl (n := 12) rfl (by omega)))
/-- the class's terrace, from where a TERRACE was read -/
theorem z165n (B : zB E) (A : zA E gJ1) (hE : zso E = zso0) {ax : Nat} (hx : (zad E)[0]? = some ax) (hw : wOk (zso E) (zad E) E.2.2.2.2.2.2.1 gST ws) (hj : jOk (zso E) gJ1 ws) (hR : zRf E ws) {z : Int32} (hz : 0 ≤ z.toInt) {lv : List (Nat × Value)} (l0 : (0, Value.ref ax) ∈ lv) (l1 : (1, Value.int z) ∈ lv)
    (h : ∀ ws2 : va_W, wOk (zso E) (zad E) E.2.2.2.2.2.2.1 gST ws2 → jOk (zso E) gJ1 ws2 → fRel (zso E) mdR ws ws2 → gcv ws2 1 1 = some (.int 0) → (∀ i : Nat, ¬ i = 1 → gcv ws2 1 i = gcv ws 1 i) → (∀ j i : Nat, j < 4 → i < 12 → gcv ws2 (4 + 1 + j) i = gcv ws (90 + 1 + j) i) → (∀ i : Nat, i = 8 ∨ i = 9 → gcv ws2 4 i = gcv ws 90 i) → zCs zclo ws ws2 → K (some (.int z)) ws2) : zgE E gm_165 12 lv [] ws 0 0 K := by
  obtain ⟨a1, d1, r1⟩ := zRf_at hR (o := 0) (i := 0) (o2 := 1) (by decide)
  refine g_aload (j := 0) (len := 1) (i := .aload_n 0) (Or.inr ⟨0, rfl, rfl, rfl⟩) (List.mem_of_getElem? (l := ga_165) (i := 6) (by decide +kernel)) (a := ax) l0 ?_
  refine g_getT B hE (idx := 10) (t := 11) (o := 0) (List.mem_of_getElem? (l := ga_165) (i := 7) (by decide +kernel)) (q := (11, 0, 12)) (by decide +kernel) hw rfl hx ⟨_, rfl⟩ r1 ?_
  refine g_iconst (n := 0) (List.mem_of_getElem? (l := ga_165) (i := 8) (by decide +kernel)) ?_
  refine g_putT B hE (idx := 104) (t := 7) (o := 1) (List.mem_of_getElem? (l := ga_165) (i := 9) (by decide +kernel)) (q := (7, 1, 0)) (by decide +kernel) (by decide) hw hj rfl d1 rfl rfl (lo := .ofNat 0) (hi := .ofNat 940) (by decide) (Or.inl ⟨rfl, _, rfl⟩) (cj_no (by decide +kernel)) (fun wsZ wZ jZ fZ cZ FZ => ?_)
  have RZ : zRf E wsZ := zRf_cs (zCs_md (L := zclc) (so := zso0) (md := [(7, 1, 2)]) (by decide +kernel) (by rw [← hE]; exact FZ)) hR
  have hT : cpT E 4 wsZ := cpT_of (by omega) RZ
  have hO : cpT E 90 wsZ := cpT_of (by omega) RZ
  obtain ⟨a4, d4, r4⟩ := zRf_at RZ (o := 0) (i := 1) (o2 := 4) (by decide)
  obtain ⟨a89, d89, r89⟩ := zRf_at RZ (o := 0) (i := 7) (o2 := 89) (by decide)
  obtain ⟨a90, d90, r90⟩ := zRf_at RZ (o := 89) (i := 0) (o2 := 90) (by decide)
  refine g_iload (j := 1) (len := 1) (i := .iload_n 1) (Or.inr ⟨1, rfl, rfl, rfl⟩) (List.mem_of_getElem? (l := ga_165) (i := 10) (by decide +kernel)) (z := z) l1 ?_
  refine g_ifc (cd := .ge) (off := 13) (t := 34) (List.mem_of_getElem? (l := ga_165) (i := 11) (by decide +kernel)) rfl (fun _ => ?_) (fun hc => absurd (show (0 : Int32) ≤ z from by rw [Int32.le_iff_toInt_le]; exact hz) hc)
  refine g_aload (j := 0) (len := 1) (i := .aload_n 0) (Or.inr ⟨0, rfl, rfl, rfl⟩) (List.mem_of_getElem? (l := ga_165) (i := 18) (by decide +kernel)) (a := ax) l0 ?_
  refine g_getT B hE (idx := 19) (t := 11) (o := 0) (List.mem_of_getElem? (l := ga_165) (i := 19) (by decide +kernel)) (q := (11, 1, 12)) (by decide +kernel) wZ rfl hx ⟨_, rfl⟩ r4 ?_
  refine g_aload (j := 0) (len := 1) (i := .aload_n 0) (Or.inr ⟨0, rfl, rfl, rfl⟩) (List.mem_of_getElem? (l := ga_165) (i := 20) (by decide +kernel)) (a := ax) l0 ?_
  refine g_getT B hE (idx := 53) (t := 11) (o := 0) (List.mem_of_getElem? (l := ga_165) (i := 21) (by decide +kernel)) (q := (11, 7, 12)) (by decide +kernel) wZ rfl hx ⟨_, rfl⟩ r89 ?_
  refine g_getT B hE (idx := 119) (t := 9) (o := 89) (List.mem_of_getElem? (l := ga_165) (i := 22) (by decide +kernel)) (q := (9, 0, 22)) (by decide +kernel) wZ rfl d89 ⟨_, rfl⟩ r90 ?_
  obtain ⟨fsT, hfsT⟩ := cw_ob hE wZ (o := 4) (t := 8) (c := 8) rfl d4 ⟨_, rfl, rfl⟩
  obtain ⟨yN1, cc1, ret1, ok1, lk1, hcls1⟩ := B.2.2.2.1 11 122 1 79 2 (by decide +kernel) (Or.inr (Or.inr (Or.inl rfl))) (gm_79, 2) rfl
  refine g_call B.1 B.2.1 ok1 (mi := gm_165) lk1 hcls1 (i := .invokevirtual 122) (Or.inr ⟨rfl, Or.inl rfl⟩) (pc := 45) (asx := [.ref a4, .ref a90]) (rx := []) (List.mem_of_getElem? (l := ga_165) (i := 23) (by decide +kernel)) ⟨by decide, by decide, by decide, by decide, Nat.le_of_ble_eq_true rfl, Nat.le_of_ble_eq_true rfl⟩ rfl rfl (fun _ => ⟨4, a4, fsT, _, rfl, hfsT⟩) ?_
  refine z_cp79 B A hE (T := 4) (O := 90) (by omega) wZ jZ hT hO d4 d90 (fun wsA wA jA uA cA eA FA => ?_)
  refine z165t B A hE hx wA jA l0 l1 (fun ws4 S4 => ?_)
  have k1 : ∀ i : Nat, gcv ws4 1 i = gcv wsZ 1 i := fun i => (S4.2.1 1 7 i (by rw [hE]; rfl) (fun q hq w => (by decide +kernel : ∀ q ∈ mdR2, ¬ q.1 = 7) q hq w.1)).trans (uA 1 i (by omega) (by omega))
  refine h ws4 S4.1.1 S4.1.2 (fRel_tr (fRel_tr (fRel_tr fRel_refl FZ (amds_ok (by decide +kernel))) FA (amds_ok (by decide +kernel))) S4.2.1 (amds_ok (by decide +kernel))) ((k1 1).trans cZ) (fun i hi => (k1 i).trans (fZ 1 i (by show ¬ (1 = 1 ∧ i = 1); omega))) (fun j i hj2 hi2 => ?_) (fun i hi => ?_) (fun q hq i q1 q2 => ?_)
  · exact (S4.2.2 _ ((by decide : ∀ j, j < 4 → (4 + 1 + j, 0, 12) ∈ zcl) j hj2) i (Nat.zero_le _) hi2).trans ((cA j i (by omega)).trans (fZ _ i (by show ¬ (90 + 1 + j = 1 ∧ i = 1); omega)))
  · exact (S4.2.2 (4, 0, 10) (by decide) i (Nat.zero_le _) (by show i < 10; omega)).trans ((eA i hi).trans (fZ _ i (by show ¬ (90 = 1 ∧ i = 1); omega)))
  · have g := (by decide : ∀ q ∈ zclo, (q ∈ zcl ∨ q = (4, 0, 8)) ∧ (¬ (4 < q.1 ∧ q.1 ≤ 12) ∧ ¬ q.1 = 1)) q hq
    rcases g.1 with hq2 | rfl
    · refine (S4.2.2 q hq2 i q1 q2).trans ((uA q.1 i (by omega) (fun e => ?_)).trans (fZ q.1 i (fun e => g.2.2 e.1)))
      exact absurd ((by decide : ∀ q ∈ zclo, q.1 = 4 → q.2.2 = 8) q hq e.1) (by omega)
    · have q2 : i < 8 := q2
      exact (S4.2.2 (4, 0, 10) (by decide) i (Nat.zero_le _) (by show i < 10; omega)).trans ((uA 4 i (by omega) (by omega)).trans (fZ 4 i (by omega)))
end CE
