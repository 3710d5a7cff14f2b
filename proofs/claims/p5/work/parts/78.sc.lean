/-! THE LAW'S ROUND OF BOOK -/
section ZTK
variable {E : zE}
theorem z_l39x (X : zX gKX E) (B : zB E) (A : zA E gJ1) (A2 : zA E gjl) {oX oM oO oT ax am ao : Nat} (F : zFx E oX oM oO oT ax am ao) (hLS : E.2.2.1 ≤ 3072) {i z : Int32} (hi : 0 ≤ i.toInt ∧ i.toInt + 6 ≤ (E.2.2.1 : Int)) {ws : va_W} {ce sl : Nat} {K : gK} (W : zWl E oM oT z ws) (hce : ce + 1 ≤ 601024) (hsl : sl + 6 ≤ 7293034) (hT : ∀ (ws2 : va_W) (z2 : Int32), zWl E oM oT z2 ws2 → zGl E 1525 (zlv E ax am ao i) [] ws2 ce sl K) : zGl E 1362 (zlv E ax am ao i) [] ws ce sl K := by
  obtain ⟨w1, ⟨w2, wT, wR⟩, w3, w4⟩ := W
  have hE := wT.1
  obtain ⟨eX, eM_, eT⟩ := zt_pl hE F
  subst eX eM_ eT
  obtain ⟨⟨x1, x2⟩, ⟨m1, m2⟩, ⟨o1, o2⟩, t1, t2⟩ := F
  have hl : zsoc.length = (zad E).length := by rw [← w1.2.1, hE, zso_l.1, zso_l.2]
  obtain ⟨fs, hfs⟩ := zt_obj w1 x1 x2 (c := 11) ⟨_, rfl, rfl⟩
  refine g_aload (j := 1) (len := 1) (i := .aload_n 1) (Or.inr ⟨1, rfl, rfl, rfl⟩) (List.mem_of_getElem? (l := ga_297) (i := 809) (by decide +kernel)) (a := ax) (List.mem_cons_of_mem _ List.mem_cons_self) ?_
  refine z_arg hi hLS (k := 1) (by decide) (List.mem_of_getElem? (l := ga_297) (i := 810) (by decide +kernel)) (List.mem_of_getElem? (l := ga_297) (i := 811) (by decide +kernel)) (List.mem_of_getElem? (l := ga_297) (i := 812) (by decide +kernel)) (List.mem_of_getElem? (l := ga_297) (i := 813) (by decide +kernel)) (List.mem_of_getElem? (l := ga_297) (i := 814) (by decide +kernel)) ?_
  obtain ⟨yN, cc, ret, ok, lk, hcls⟩ := B.2.2.2.1 13 182 1 116 2 (by decide +kernel) (Or.inr (Or.inr (Or.inl rfl))) (gm_116, 3) rfl
  refine g_call B.1 B.2.1 ok (mi := gm_L) lk hcls (i := .invokevirtual 182) (Or.inr ⟨rfl, Or.inl rfl⟩) (pc := 1369) (asx := [.ref ax, .int (E.2.2.2.1 (i + Int32.ofInt 1).toNatClampNeg)]) (rx := []) (List.mem_of_getElem? (l := ga_297) (i := 815) (by decide +kernel)) ⟨by decide, by decide, by show ce + 0 ≤ 601024; omega, by show sl + 0 ≤ 7293034; omega, Nat.le_of_ble_eq_true rfl, Nat.le_of_ble_eq_true rfl⟩ rfl rfl (fun _ => ⟨0, ax, fs, _, rfl, hfs⟩) ?_
  have hz1 : zci ws 1 1 = z.toInt := zci_int w3
  have hz2 : zci ws 167 2 = z.toInt := zci_int w4
  have mid : ∀ (ws2 : va_W) (v : Int32), wOk (zso E) (zad E) E.2.2.2.2.2.2.1 gST ws2 → (∀ (v2 : Int32) (ws3 : va_W), zGl E 1525 (zlv E ax am ao i) [] ws3 ce sl K → True) → zgE E gm_184 0 (lv_args 0 [.ref am, .int (E.2.2.2.1 (i + Int32.ofInt 1).toNatClampNeg)]) [] ws2 0 0 (fun rv ws3 => ∃ v2 : Int32, rv = some (.int v2) ∧ zGl E 1525 (zlv E ax am ao i) [] ws3 ce sl K) → zGl E 1372 (zlv E ax am ao i) [.int v] ws2 ce sl K := by
    intro ws2 v u1 _ hg
    refine g_pop (List.mem_of_getElem? (l := ga_297) (i := 816) (by decide +kernel)) rfl ?_
    refine g_aload (j := 2) (len := 1) (i := .aload_n 2) (Or.inr ⟨2, rfl, rfl, rfl⟩) (List.mem_of_getElem? (l := ga_297) (i := 817) (by decide +kernel)) (a := am) (List.mem_cons_of_mem _ (List.mem_cons_of_mem _ List.mem_cons_self)) ?_
    refine z_arg hi hLS (k := 1) (by decide) (List.mem_of_getElem? (l := ga_297) (i := 818) (by decide +kernel)) (List.mem_of_getElem? (l := ga_297) (i := 819) (by decide +kernel)) (List.mem_of_getElem? (l := ga_297) (i := 820) (by decide +kernel)) (List.mem_of_getElem? (l := ga_297) (i := 821) (by decide +kernel)) (List.mem_of_getElem? (l := ga_297) (i := 822) (by decide +kernel)) ?_
    obtain ⟨fs2, hfs2⟩ := zt_obj u1 m1 m2 (c := 12) ⟨_, rfl, rfl⟩
    obtain ⟨yN2, cc2, ret2, ok2, lk2, hcls2⟩ := B.2.2.2.1 13 185 1 184 2 (by decide +kernel) (Or.inr (Or.inr (Or.inl rfl))) (gm_184, 7) rfl
    refine g_call B.1 B.2.1 ok2 (mi := gm_L) lk2 hcls2 (i := .invokevirtual 185) (Or.inr ⟨rfl, Or.inl rfl⟩) (pc := 1380) (asx := [.ref am, .int (E.2.2.2.1 (i + Int32.ofInt 1).toNatClampNeg)]) (rx := []) (List.mem_of_getElem? (l := ga_297) (i := 823) (by decide +kernel)) ⟨by decide, by decide, by show ce + 0 + 0 ≤ 601024; omega, by show sl + 0 + 0 ≤ 7293034; omega, Nat.le_of_ble_eq_true rfl, Nat.le_of_ble_eq_true rfl⟩ rfl rfl (fun _ => ⟨167, am, fs2, _, rfl, hfs2⟩) ?_
    refine gG_mono ?_ hg
    intro rv ws3 ⟨v2, e, hk⟩
    subst e
    refine g_pop (List.mem_of_getElem? (l := ga_297) (i := 824) (by decide +kernel)) rfl ?_
    exact g_goto (off := 141) (t := 1525) (List.mem_of_getElem? (l := ga_297) (i := 825) (by decide +kernel)) rfl hk
  generalize (E.2.2.2.1 (i + Int32.ofInt 1).toNatClampNeg) = q at mid ⊢
  refine z_boc X B A x2 hl w1 w2 wT wR.2.1 rfl (fun hn => ?_) (fun hy ws2 v u1 u2 u3 u4 u5 uC uK => ?_)
  · refine mid ws _ w1 (fun _ _ _ => trivial) (z_bol X B A2 m2 w1 w2 wT rfl (fun _ ws3 d1 d2 d3 d4 => ⟨_, rfl, ?_⟩) (fun hy => absurd hy hn))
    have d5 : ∀ o lo hi : Nat, (o, lo, hi) ∈ zcl → ∀ i : Nat, lo ≤ i → gcv ws3 o i = gcv ws o i := fun o lo hi hm i hlo => d4 o i (fun e => by
      have := (by decide : ∀ q ∈ zcl, q.1 = 167 → 0 < q.2.1) _ hm e.1
      have : 0 < lo := this
      omega) (by
      have hlt := (by decide : ∀ q ∈ zcl, q.1 < 195) _ hm
      exact ⟨_, List.getElem?_eq_getElem (by rw [zso_l.1]; exact hlt)⟩)
    exact hT ws3 z ⟨d1, ⟨d2, d3, zTr_cs (fun q hq i h1 _ => d5 q.1 q.2.1 q.2.2 hq i h1) wR⟩, (d4 1 1 (by decide) ⟨7, rfl⟩).trans w3, (d4 167 2 (by decide) ⟨12, rfl⟩).trans w4⟩
  · have c168 : zci ws2 168 = zci ws 2 := zci_cg (fun i => (u4 168 51 i rfl (by decide)).trans (zt_by w1 hE wT.2.2.1 i).symm)
    have cc : ∀ {o t : Nat}, zso0[o]? = some t → 51 ≤ t → zci ws2 o = zci ws o := fun ho ht => zci_cg (fun i => u4 _ _ i ho (Or.inr ht))
    have c172 : zci ws2 172 = zci ws 172 := cc (t := 55) rfl (by decide)
    have c169 : zci ws2 169 = zci ws 169 := cc (t := 52) rfl (by decide)
    have c191 : zci ws2 191 = zci ws 191 := cc (t := 74) rfl (by decide)
    have c192 : zci ws2 192 = zci ws 192 := cc (t := 75) rfl (by decide)
    have c193 : zci ws2 193 = zci ws 193 := cc (t := 76) rfl (by decide)
    have c167 : zci ws2 167 2 = zci ws 1 1 := by
      rw [hz1, ← hz2]
      unfold zci
      rw [u4 167 12 _ rfl (by decide)]
    have hQQ : qBk (fun q => vand (zci ws2 168 q) 255, zci ws2 167 2, 400) (zci ws2 172) (zci ws2 169 1) (zci ws2 169 2) 1000 0 0 = qBk (fun q => vand (zci ws 2 q) 255, zci ws 1 1, 400) (zci ws 172) (zci ws 169 1) (zci ws 169 2) 1000 0 0 := by rw [c168, c167, c172, c169]
    refine mid ws2 v u1 (fun _ _ _ => trivial) (z_bol X B A2 m2 u1 u2 u3 rfl (fun hn => absurd hy hn) (fun _ ws3 v2 d1 d2 d3 d4 d5 d6 d7 k1 k2 => ⟨_, rfl, ?_⟩))
    have hR3 : zTr E ws3 := by
      have e191 : ∀ i : Int, ((0 ≤ i ∧ i < 5) ∨ (402 ≤ i ∧ i < 407)) → zci ws3 191 i = zci ws 191 i := fun i hi => by
        rw [← c191]
        rcases hi with hi | hi
        · exact zCs_ci d6 (o := 191) (lo := 0) (hi := 5) (by decide) hi.1 hi.2
        · exact zCs_ci d6 (o := 191) (lo := 402) (hi := 407) (by decide) hi.1 hi.2
      have e192 : ∀ i : Int, 0 ≤ i → i < 48 → zci ws3 192 i = zci ws 192 i := fun i a b => by rw [← c192]; exact zCs_ci d6 (o := 192) (lo := 0) (hi := 48) (by decide) a b
      have e193 : ∀ i : Int, 0 ≤ i → i < 2 → zci ws3 193 i = zci ws 193 i := fun i a b => by rw [← c193]; exact zCs_ci d6 (o := 193) (lo := 0) (hi := 2) (by decide) a b
      exact zTr_v (zCs_tr uC (zCs_sub (by decide +kernel) d6)) (fun i a b => by rw [← c169]; exact k1 i a b) (fun i a b => by rw [← c172]; exact k2 i a b) (fun i a b => e191 i (Or.inl ⟨a, b⟩)) (fun i a b => e191 i (Or.inr ⟨a, b⟩)) e192 e193 ((zci_pt (j := 2) (i := 2) (d4 2)).trans (uK.trans ((congrArg Prod.fst hQQ).symm.trans d7.symm))) wR
    exact hT ws3 0 ⟨d1, ⟨d2, d3, hR3⟩, (d4 1).trans u5, d5⟩
end ZTK
