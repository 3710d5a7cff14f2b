/-! THE LAW'S ROUND OF FAULT -/
section ZTF
variable {E : zE}
theorem z_127 (B : zB E) (hE : zso E = zso0) {ws : va_W} {K : gK} (hw : wOk (zso E) (zad E) E.2.2.2.2.2.2.1 gST ws) {ax a1 : Nat} (hx : (zad E)[0]? = some ax) (d1 : (zad E)[1]? = some a1) (r1 : gcv ws 0 0 = some (.ref a1)) {y : Int32} (hy : gcv ws 1 2 = some (.int y)) (h : K (some (.int y)) ws) : zgE E gm_127 0 (lv_args 0 [.ref ax]) [] ws 0 0 K := by
  refine g_aload (j := 0) (len := 1) (i := .aload_n 0) (Or.inr ⟨0, rfl, rfl, rfl⟩) (List.mem_of_getElem? (l := ga_127) (i := 0) (by decide +kernel)) (a := ax) List.mem_cons_self ?_
  refine g_getT B hE (idx := 10) (t := 11) (o := 0) (List.mem_of_getElem? (l := ga_127) (i := 1) (by decide +kernel)) (q := (11, 0, 12)) (by decide +kernel) hw rfl hx ⟨_, rfl⟩ r1 ?_
  refine g_getT B hE (idx := 136) (t := 7) (o := 1) (List.mem_of_getElem? (l := ga_127) (i := 2) (by decide +kernel)) (q := (7, 2, 0)) (by decide +kernel) hw rfl d1 ⟨_, rfl⟩ hy ?_
  exact g_ireturn (List.mem_of_getElem? (l := ga_127) (i := 3) (by decide +kernel)) (Or.inl rfl) (by decide) (by decide) h
theorem z_205 (B : zB E) (hE : zso E = zso0) {ws : va_W} {K : gK} (hw : wOk (zso E) (zad E) E.2.2.2.2.2.2.1 gST ws) (hj : jOk (zso E) gJ1 ws) {am : Nat} (hm : (zad E)[167]? = some am) {y : Int32} (hy : gcv ws 167 15 = some (.int y)) (h : ∀ ws2 : va_W, wOk (zso E) (zad E) E.2.2.2.2.2.2.1 gST ws2 → jOk (zso E) gJ1 ws2 → (∀ o i : Nat, ¬ (o = 167 ∧ i = 0) → gcv ws2 o i = gcv ws o i) → fRel (zso E) [(12, 0, 1)] ws ws2 → K (some (.int y)) ws2) : zgE E gm_205 0 (lv_args 0 [.ref am]) [] ws 0 0 K := by
  refine g_aload (j := 0) (len := 1) (i := .aload_n 0) (Or.inr ⟨0, rfl, rfl, rfl⟩) (List.mem_of_getElem? (l := ga_205) (i := 0) (by decide +kernel)) (a := am) List.mem_cons_self ?_
  refine g_iconst (n := 0) (List.mem_of_getElem? (l := ga_205) (i := 1) (by decide +kernel)) ?_
  refine g_putT B hE (idx := 1) (t := 12) (o := 167) (List.mem_of_getElem? (l := ga_205) (i := 2) (by decide +kernel)) (q := (12, 0, 0)) (by decide +kernel) (by decide) hw hj rfl hm rfl rfl (lo := .negSucc 2147483647) (hi := .ofNat 2147483647) (by decide) (Or.inl ⟨rfl, _, rfl⟩) (cj_no (by decide +kernel)) (fun wsZ wZ jZ fZ cZ FZ => ?_)
  refine g_aload (j := 0) (len := 1) (i := .aload_n 0) (Or.inr ⟨0, rfl, rfl, rfl⟩) (List.mem_of_getElem? (l := ga_205) (i := 3) (by decide +kernel)) (a := am) List.mem_cons_self ?_
  refine g_getT B hE (idx := 201) (t := 12) (o := 167) (List.mem_of_getElem? (l := ga_205) (i := 4) (by decide +kernel)) (q := (12, 15, 0)) (by decide +kernel) wZ rfl hm ⟨_, rfl⟩ ((fZ 167 15 (fun q => absurd (show (15 : Nat) = 0 from q.2) (by decide))).trans hy) ?_
  exact g_ireturn (List.mem_of_getElem? (l := ga_205) (i := 5) (by decide +kernel)) (Or.inl rfl) (by decide) (by decide) (h wsZ wZ jZ fZ FZ)
theorem z_l3x (X : zX gKX E) (B : zB E) (A : zA E gJ1) {oX oM oO oT ax am ao : Nat} (F : zFx E oX oM oO oT ax am ao) (hLS : E.2.2.1 ≤ 3072) {i z : Int32} (hi : 0 ≤ i.toInt ∧ i.toInt + 6 ≤ (E.2.2.1 : Int)) {ws : va_W} {ce sl : Nat} {K : gK} (W : zWl E oM oT z ws) (hce : ce + 1 ≤ 601024) (hsl : sl + 6 ≤ 7293034) (hT : ∀ (ws2 : va_W) (z2 : Int32), zWl E oM oT z2 ws2 → zGl E 1525 (zlv E ax am ao i) [] ws2 ce sl K) : zGl E 351 (zlv E ax am ao i) [] ws ce sl K := by
  obtain ⟨w1, ⟨w2, wT, wR⟩, w3, w4⟩ := W
  have hE := wT.1
  obtain ⟨eX, eM_, eT⟩ := zt_pl hE F
  subst eX eM_ eT
  obtain ⟨⟨x1, x2⟩, ⟨m1, m2⟩, ⟨o1, o2⟩, t1, t2⟩ := F
  obtain ⟨fs, hfs⟩ := zt_obj w1 x1 x2 (c := 11) ⟨_, rfl, rfl⟩
  obtain ⟨fs2, hfs2⟩ := zt_obj w1 m1 m2 (c := 12) ⟨_, rfl, rfl⟩
  obtain ⟨a1, d1, r1⟩ := zRf_at wR.1 (o := 0) (i := 0) (o2 := 1) (by decide)
  obtain ⟨y, hy⟩ := zt_int w1 (o := 1) (t := 7) (f := 2) (by rw [hE]; rfl) ⟨_, rfl, _, rfl⟩
  obtain ⟨y2, hy2⟩ := zt_int w1 (o := 167) (t := 12) (f := 15) (by rw [hE]; rfl) ⟨_, rfl, _, rfl⟩
  have ey : y2 = y := Int32.toInt_inj.mp ((zci_int hy2).symm.trans (((wR.2.2.2 : zKd ws) : zci ws 1 2 = zci ws 167 15).symm.trans (zci_int hy)))
  subst ey
  refine g_aload (j := 1) (len := 1) (i := .aload_n 1) (Or.inr ⟨1, rfl, rfl, rfl⟩) (List.mem_of_getElem? (l := ga_297) (i := 106) (by decide +kernel)) (a := ax) (List.mem_cons_of_mem _ List.mem_cons_self) ?_
  obtain ⟨yN, cc, ret, ok, lk, hcls⟩ := B.2.2.2.1 13 34 1 127 1 (by decide +kernel) (Or.inr (Or.inr (Or.inl rfl))) (gm_127, 1) rfl
  refine g_call B.1 B.2.1 ok (mi := gm_L) lk hcls (i := .invokevirtual 34) (Or.inr ⟨rfl, Or.inl rfl⟩) (pc := 352) (asx := [.ref ax]) (rx := []) (List.mem_of_getElem? (l := ga_297) (i := 107) (by decide +kernel)) ⟨by decide, by decide, by show ce + 0 ≤ 601024; omega, by show sl + 0 ≤ 7293034; omega, Nat.le_of_ble_eq_true rfl, Nat.le_of_ble_eq_true rfl⟩ rfl rfl (fun _ => ⟨0, ax, fs, [], rfl, hfs⟩) ?_
  refine z_127 B hE w1 x2 d1 r1 hy ?_
  refine g_aload (j := 2) (len := 1) (i := .aload_n 2) (Or.inr ⟨2, rfl, rfl, rfl⟩) (List.mem_of_getElem? (l := ga_297) (i := 108) (by decide +kernel)) (a := am) (List.mem_cons_of_mem _ (List.mem_cons_of_mem _ List.mem_cons_self)) ?_
  obtain ⟨yN2, cc2, ret2, ok2, lk2, hcls2⟩ := B.2.2.2.1 13 37 1 205 1 (by decide +kernel) (Or.inr (Or.inr (Or.inl rfl))) (gm_205, 1) rfl
  refine g_call B.1 B.2.1 ok2 (mi := gm_L) lk2 hcls2 (i := .invokevirtual 37) (Or.inr ⟨rfl, Or.inl rfl⟩) (pc := 356) (asx := [.ref am]) (rx := [.int y2]) (List.mem_of_getElem? (l := ga_297) (i := 109) (by decide +kernel)) ⟨by decide, by decide, by show ce + 0 + 0 ≤ 601024; omega, by show sl + 0 + 0 ≤ 7293034; omega, Nat.le_of_ble_eq_true rfl, Nat.le_of_ble_eq_true rfl⟩ rfl rfl (fun _ => ⟨167, am, fs2, [], rfl, hfs2⟩) ?_
  refine z_205 B hE w1 w2 m2 hy2 (fun ws3 u1 u2 u3 u4 => ?_)
  refine g_icmp (cd := .eq) (off := 1166) (t := 1525) (List.mem_of_getElem? (l := ga_297) (i := 110) (by decide +kernel)) rfl (fun _ => ?_) (fun hne => absurd (show y2 = y2 from rfl) hne)
  exact hT ws3 z ⟨u1, ⟨u2, zTp_fr (md := [(12, 0, 1)]) (by decide +kernel) u4 w1 u1 wT, zTr_fr (md := [(12, 0, 1)]) (by decide +kernel) hE u4 wR⟩, (u3 1 1 (by decide)).trans w3, (u3 167 2 (by decide)).trans w4⟩
end ZTF
