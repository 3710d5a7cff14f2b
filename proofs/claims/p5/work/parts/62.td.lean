/-! THE LAW'S ROUNDS OF IMAGES AND OF count, walked by hand. -/
section ZTD
variable {E : zE}
/-- the sets of images kept -/
theorem zk_add {v a c k : Int} {y x : Int32} (h : zkr v a c) (hy : y.toInt = v) (hx : x.toInt = k) (hk : k = 0 ∨ k = 1) : zkr (y ||| 1 <<< (x &&& 31)).toInt (if 0 = k then 1 else a) (if 1 = k then 1 else c) := by
  have ex : x = Int32.ofInt k := by rw [← hx, Int32.ofInt_toInt]
  have ey : y = Int32.ofInt v := by rw [← hy, Int32.ofInt_toInt]
  subst ex ey
  rcases hk with rfl | rfl <;> rcases h with ⟨rfl, rfl, rfl⟩ | ⟨rfl, rfl, rfl⟩ | ⟨rfl, rfl, rfl⟩ | ⟨rfl, rfl, rfl⟩ <;> unfold zkr <;> decide
theorem zk_has {v a c k : Int} {y x : Int32} (h : zkr v a c) (hy : y.toInt = v) (hx : x.toInt = k) (hk : k = 0 ∨ k = 1) : ((y >>> (x &&& 31)) &&& 1 = 0 ∧ (if k = 0 then a else c) = 0) ∨ (¬ (y >>> (x &&& 31)) &&& 1 = 0 ∧ (if k = 0 then a else c) = 1) := by
  have ex : x = Int32.ofInt k := by rw [← hx, Int32.ofInt_toInt]
  have ey : y = Int32.ofInt v := by rw [← hy, Int32.ofInt_toInt]
  subst ex ey
  rcases hk with rfl | rfl <;> rcases h with ⟨rfl, rfl, rfl⟩ | ⟨rfl, rfl, rfl⟩ | ⟨rfl, rfl, rfl⟩ | ⟨rfl, rfl, rfl⟩ <;> decide
/-- what the reference holds, by a walk's words -/
theorem zr_ci (hE : zso E = zso0) {ws : va_W} (hw : wOk (zso E) (zad E) E.2.2.2.2.2.2.1 gST ws) {σ : vS} (hs : vsgL (zso E) zuq ws σ) : (∀ i : Int, 0 ≤ i → i < 402 → zci ws 169 i = σ 52 i) ∧ (∀ i : Int, 0 ≤ i → i < 48 → zci ws 172 i = σ 55 i) ∧ (∀ i : Int, 0 ≤ i → i < 804 → zci ws 191 i = σ 74 i) ∧ (∀ i : Int, 0 ≤ i → i < 48 → zci ws 192 i = σ 75 i) ∧ ∀ i : Int, 0 ≤ i → i < 2 → zci ws 193 i = σ 76 i := by
  rw [hE] at hs
  exact ⟨fun i i0 i1 => cx_ci hs (o := 169) rfl rfl i0 (Or.inl ((cx_int hE hw (o := 169) (t := 52) rfl (n := 402) rfl (by decide) (i := i.toNat) (by omega)).imp fun _ h => h.1)), fun i i0 i1 => cx_ci hs (o := 172) rfl rfl i0 (Or.inr (cx_long hE hw (o := 172) (t := 55) rfl (n := 48) rfl (i := i.toNat) (by omega))), fun i i0 i1 => cx_ci hs (o := 191) rfl rfl i0 (Or.inl ((cx_int hE hw (o := 191) (t := 74) rfl (n := 804) rfl (by decide) (i := i.toNat) (by omega)).imp fun _ h => h.1)), fun i i0 i1 => cx_ci hs (o := 192) rfl rfl i0 (Or.inr (cx_long hE hw (o := 192) (t := 75) rfl (n := 48) rfl (i := i.toNat) (by omega))), fun i i0 i1 => cx_ci hs (o := 193) rfl rfl i0 (Or.inl ((cx_int hE hw (o := 193) (t := 76) rfl (n := 2) rfl (by decide) (i := i.toNat) (by omega)).imp fun _ h => h.1))⟩
/-- the class's cells behind a walk of the reference -/
theorem zr_cl (hE : zso E = zso0) {ws ws2 : va_W} {md : aMd} (hm : mdz zclc zso0 md = true) (hf : fRel (zso E) md ws ws2) : zCs zclc ws ws2 := zCs_md hm (by rw [← hE]; exact hf)
theorem zt_fr1 (hE : zso E = zso0) {md : aMd} {ws ws2 : va_W} (hf : fRel (zso E) md ws ws2) {o t n : Nat} (ho : zso0[o]? = some t) (hm : (md.all fun q => !(Nat.beq q.1 t && (Nat.ble q.2.1 n && Nat.blt n q.2.2))) = true) : gcv ws2 o n = gcv ws o n := hf o t n (by rw [hE]; exact ho) (fun q hq ⟨a, b, c⟩ => by
  have g := List.all_eq_true.mp hm q hq
  rw [a, Nat.beq_refl, Nat.ble_eq_true_of_le b, show Nat.blt n q.2.2 = true from Nat.ble_eq_true_of_le c] at g
  exact absurd g (by decide))
theorem zt_frv (hE : zso E = zso0) {md : aMd} {ws ws2 : va_W} (hf : fRel (zso E) md ws ws2) {o t : Nat} (ho : zso0[o]? = some t) (hm : (md.all fun q => !(Nat.beq q.1 t)) = true) : ∀ i : Int, zci ws2 o i = zci ws o i := fun i => congrFun (zci_cg (fun n => hf o t n (by rw [hE]; exact ho) (fun q hq ⟨a, _, _⟩ => by
  have g := List.all_eq_true.mp hm q hq
  rw [a, Nat.beq_refl] at g
  exact absurd g (by decide)))) i
theorem z_l43x (X : zX gKX E) (B : zB E) (A : zA E gJ1) {oX oM oO oT ax am ao : Nat} (F : zFx E oX oM oO oT ax am ao) (hLS : E.2.2.1 ≤ 3072) {i z : Int32} (hi : 0 ≤ i.toInt ∧ i.toInt + 6 ≤ (E.2.2.1 : Int)) {ws : va_W} {ce sl : Nat} {K : gK} (W : zWl E oM oT z ws) (hce : ce + 1 ≤ 601024) (hsl : sl + 6 ≤ 7293034) (hT : ∀ (ws2 : va_W) (z2 : Int32), zWl E oM oT z2 ws2 → zGl E 1525 (zlv E ax am ao i) [] ws2 ce sl K) : zGl E 1450 (zlv E ax am ao i) [] ws ce sl K := by
  obtain ⟨w1, ⟨w2, wT, wR⟩, w3, w4⟩ := W
  have hE := wT.1
  obtain ⟨eX, eM_, eT⟩ := zt_pl hE F
  subst eX eM_ eT
  obtain ⟨⟨x1, x2⟩, ⟨m1, m2⟩, ⟨o1, o2⟩, t1, t2⟩ := F
  obtain ⟨fs, hfs⟩ := zt_obj w1 x1 x2 (c := 11) ⟨_, rfl, rfl⟩
  refine g_aload (j := 1) (len := 1) (i := .aload_n 1) (Or.inr ⟨1, rfl, rfl, rfl⟩) (List.mem_of_getElem? (l := ga_297) (i := 867) (by decide +kernel)) (a := ax) (List.mem_cons_of_mem _ List.mem_cons_self) ?_
  refine z_arg hi hLS (k := 1) (by decide) (List.mem_of_getElem? (l := ga_297) (i := 868) (by decide +kernel)) (List.mem_of_getElem? (l := ga_297) (i := 869) (by decide +kernel)) (List.mem_of_getElem? (l := ga_297) (i := 870) (by decide +kernel)) (List.mem_of_getElem? (l := ga_297) (i := 871) (by decide +kernel)) (List.mem_of_getElem? (l := ga_297) (i := 872) (by decide +kernel)) ?_
  obtain ⟨y, hy, -, -⟩ := cf_int hE w1 (o := 0) (t := 11) rfl (f := 16) (lo := .negSucc 2147483647) (hi := .ofNat 2147483647) ⟨_, rfl, rfl⟩
  have eY : zci ws 0 16 = y.toInt := zci_int hy
  -- the reference's call, from any world that the class's leaves
  have hRef : ∀ (ws2 : va_W) (v : Int32), wOk (zso E) (zad E) E.2.2.2.2.2.2.1 gST ws2 → jOk (zso E) gJ1 ws2 → fRel (zso E) md135 ws ws2 → ((0 ≤ (E.2.2.2.1 (i + Int32.ofInt 1).toNatClampNeg).toInt ∧ (E.2.2.2.1 (i + Int32.ofInt 1).toNatClampNeg).toInt ≤ 1) → ∀ ws3 : va_W, zCs zclc ws2 ws3 → (∀ x : Int, 0 ≤ x → x < 2 → zci ws3 193 x = if x = (E.2.2.2.1 (i + Int32.ofInt 1).toNatClampNeg).toInt then 1 else zci ws 193 x) → (∀ x : Int, 0 ≤ x → x < 804 → ¬ (402 * (E.2.2.2.1 (i + Int32.ofInt 1).toNatClampNeg).toInt ≤ x ∧ x < 402 * (E.2.2.2.1 (i + Int32.ofInt 1).toNatClampNeg).toInt + 402) → zci ws3 191 x = zci ws 191 x) → (∀ j : Int, 0 ≤ j → j < 402 → zci ws3 191 (402 * (E.2.2.2.1 (i + Int32.ofInt 1).toNatClampNeg).toInt + j) = zci ws 169 j) → (∀ x : Int, 0 ≤ x → x < 48 → ¬ (24 * (E.2.2.2.1 (i + Int32.ofInt 1).toNatClampNeg).toInt ≤ x ∧ x < 24 * (E.2.2.2.1 (i + Int32.ofInt 1).toNatClampNeg).toInt + 24) → zci ws3 192 x = zci ws 192 x) → (∀ j : Int, 0 ≤ j → j < 24 → zci ws3 192 (24 * (E.2.2.2.1 (i + Int32.ofInt 1).toNatClampNeg).toInt + j) = zci ws 172 j) → (∀ x : Int, zci ws3 169 x = zci ws 169 x) → (∀ x : Int, zci ws3 172 x = zci ws 172 x) → zKd ws3 → zTr E ws3) → (((E.2.2.2.1 (i + Int32.ofInt 1).toNatClampNeg).toInt < 0 ∨ 1 < (E.2.2.2.1 (i + Int32.ofInt 1).toNatClampNeg).toInt) → zTr E ws2) → zGl E 1460 (zlv E ax am ao i) [.int v] ws2 (ce + 0) (sl + 0) K := by
    intro ws2 v u1 u2 uF hIn hOut
    have cc : ∀ {o t : Nat}, zso0[o]? = some t → (md135.all fun q => !(Nat.beq q.1 t)) = true → zci ws2 o = zci ws o := fun ho hm => funext (zt_frv hE uF ho hm)
    have c169 : zci ws2 169 = zci ws 169 := cc (t := 52) rfl (by decide +kernel)
    have c172 : zci ws2 172 = zci ws 172 := cc (t := 55) rfl (by decide +kernel)
    have c191 : zci ws2 191 = zci ws 191 := cc (t := 74) rfl (by decide +kernel)
    have c192 : zci ws2 192 = zci ws 192 := cc (t := 75) rfl (by decide +kernel)
    have c193 : zci ws2 193 = zci ws 193 := cc (t := 76) rfl (by decide +kernel)
    refine g_pop (List.mem_of_getElem? (l := ga_297) (i := 874) (by decide +kernel)) rfl ?_
    refine g_aload (j := 2) (len := 1) (i := .aload_n 2) (Or.inr ⟨2, rfl, rfl, rfl⟩) (List.mem_of_getElem? (l := ga_297) (i := 875) (by decide +kernel)) (a := am) (List.mem_cons_of_mem _ (List.mem_cons_of_mem _ List.mem_cons_self)) ?_
    refine z_arg hi hLS (k := 1) (by decide) (List.mem_of_getElem? (l := ga_297) (i := 876) (by decide +kernel)) (List.mem_of_getElem? (l := ga_297) (i := 877) (by decide +kernel)) (List.mem_of_getElem? (l := ga_297) (i := 878) (by decide +kernel)) (List.mem_of_getElem? (l := ga_297) (i := 879) (by decide +kernel)) (List.mem_of_getElem? (l := ga_297) (i := 880) (by decide +kernel)) ?_
    generalize (E.2.2.2.1 (i + Int32.ofInt 1).toNatClampNeg) = k at hIn hOut ⊢
    obtain ⟨fs2, hfs2⟩ := zt_obj u1 m1 m2 (c := 12) ⟨_, rfl, rfl⟩
    obtain ⟨yN, cc, ret, ok, lk, hcls⟩ := B.2.2.2.1 13 201 1 217 2 (by decide +kernel) (Or.inr (Or.inr (Or.inl rfl))) (gm_217, 3) rfl
    refine g_call B.1 B.2.1 ok (mi := gm_L) lk hcls (i := .invokevirtual 201) (Or.inr ⟨rfl, Or.inl rfl⟩) (pc := 1468) (asx := [.ref am, .int k]) (rx := []) (List.mem_of_getElem? (l := ga_297) (i := 881) (by decide +kernel)) ⟨by decide, by decide, by show ce + 0 + 0 ≤ 601024; omega, by show sl + 0 + 0 ≤ 7293034; omega, Nat.le_of_ble_eq_true rfl, Nat.le_of_ble_eq_true rfl⟩ rfl rfl (fun _ => ⟨167, am, fs2, _, rfl, hfs2⟩) ?_
    refine zg_ofL B hE (md := md217) u1 u2 (vs := [.inr (.inl 12), .inl k.toInt]) (asx := [.ref am, .int k]) ⟨⟨167, am, by rw [hE]; rfl, m2, rfl⟩, ⟨_, rfl, rfl⟩, trivial⟩ (fun σ hX hs hc => ?_)
    have fin : ∀ (n : Int) (σ2 : vS), vX σ2 → (∀ (ws3 : va_W), wOk (zso E) (zad E) E.2.2.2.2.2.2.1 gST ws3 → fRel (zso E) md217 ws2 ws3 → vsgL (zso E) zuq ws3 σ2 → zTr E ws3) → (fun (ret : Option vVL) (σ2 : vS) => vX σ2 ∧ ∀ (ws3 : va_W) (rv : Option Value), wOk (zso E) (zad E) E.2.2.2.2.2.2.1 gST ws3 → jOk (zso E) gJ1 ws3 → fRel (zso E) md217 ws2 ws3 → vsgL (zso E) zuq ws3 σ2 → vRtL (zso E) (zad E) ret rv → zGl E (1468 + 3) (zlv E ax am ao i) (rv.toList ++ []) ws3 (ce + 0 + gm_217.2.1) (sl + 0 + gm_217.2.2.1) K) (some (.inl n)) σ2 := by
      intro n σ2 x2 hz
      refine ⟨x2, fun ws3 rv hw3 hj3 hf3 hs3 hrt => ?_⟩
      cases rv with
      | none => exact absurd hrt id
      | some v2 =>
        obtain ⟨v2, rfl, -⟩ := hrt
        refine g_pop (List.mem_of_getElem? (l := ga_297) (i := 882) (by decide +kernel)) rfl ?_
        refine g_goto (off := 53) (t := 1525) (List.mem_of_getElem? (l := ga_297) (i := 883) (by decide +kernel)) rfl ?_
        exact hT ws3 z ⟨hw3, ⟨hj3, zTp_fr (md := md217) (by decide +kernel) hf3 u1 hw3 (zTp_fr (md := md135) (by decide +kernel) uF w1 u1 wT), hz ws3 hw3 hf3 hs3⟩, ((zt_fr1 hE hf3 (o := 1) (t := 7) rfl (by decide +kernel)).trans (zt_fr1 hE uF (o := 1) (t := 7) rfl (by decide +kernel))).trans w3, ((zt_fr1 hE hf3 (o := 167) (t := 12) rfl (by decide +kernel)).trans (zt_fr1 hE uF (o := 167) (t := 12) rfl (by decide +kernel))).trans w4⟩
    refine zbdL (fun hb => w217_0 X B ⟨Int32.le_toInt _, Int32.toInt_le _⟩ (fun hk σ2 hf hA hC hA2 hC2 h76 => fin 1 σ2 (w217_x B hb hk hX hf hA hC) (fun ws3 hw3 hf3 hs3 => ?_)) (fun hk σ2 hf => fin 0 σ2 (vX_fr hX (hf 52 (by decide)) (hf 74 (by decide))) (fun ws3 hw3 hf3 hs3 => ?_)))
    · obtain ⟨r1, r2, r3, r4, r5⟩ := zr_ci hE hw3 hs3
      have e52 : σ 52 = zci ws 169 := (hc 52 rfl).trans c169
      have e55 : σ 55 = zci ws 172 := (hc 55 rfl).trans c172
      have e74 : σ 74 = zci ws 191 := (hc 74 rfl).trans c191
      have e75 : σ 75 = zci ws 192 := (hc 75 rfl).trans c192
      have e76 : σ 76 = zci ws 193 := (hc 76 rfl).trans c193
      have hkd : zKd ws3 := show zci ws3 1 2 = zci ws3 167 15 from ((zci_pt (zt_fr1 hE hf3 (o := 1) (t := 7) (n := 2) rfl (by decide +kernel))).trans (zci_pt (zt_fr1 hE uF (o := 1) (t := 7) (n := 2) rfl (by decide +kernel)))).trans ((wR.2.2.2 : zKd _).trans ((zci_pt (zt_fr1 hE hf3 (o := 167) (t := 12) (n := 15) rfl (by decide +kernel))).trans (zci_pt (zt_fr1 hE uF (o := 167) (t := 12) (n := 15) rfl (by decide +kernel)))).symm)
      refine hIn hk ws3 (zr_cl hE (by decide +kernel) hf3) (fun x a b => ?_) (fun x a b g => ?_) (fun j a b => ?_) (fun x a b g => ?_) (fun j a b => ?_) (fun x => ?_) (fun x => ?_) hkd
      · rw [r5 x a b, h76 x, e76]
      · rw [r3 x a b, hA x g, e74]
      · rw [r3 _ (by omega) (by omega), hC j a b, e52]
      · rw [r4 x a b, hA2 x g, e75]
      · rw [r4 _ (by omega) (by omega), hC2 j a b, e55]
      · rw [zt_frv hE hf3 (o := 169) (t := 52) rfl (by decide +kernel) x, c169]
      · rw [zt_frv hE hf3 (o := 172) (t := 55) rfl (by decide +kernel) x, c172]
    · obtain ⟨r1, r2, r3, r4, r5⟩ := zr_ci hE hw3 hs3
      have hkd : zKd ws3 := show zci ws3 1 2 = zci ws3 167 15 from (zci_pt (zt_fr1 hE hf3 (o := 1) (t := 7) (n := 2) rfl (by decide +kernel))).trans (((hOut hk).2.2.2 : zKd _).trans (zci_pt (zt_fr1 hE hf3 (o := 167) (t := 12) (n := 15) rfl (by decide +kernel))).symm)
      refine zTr_v (zr_cl hE (by decide +kernel) hf3) (fun x a b => ?_) (fun x a b => ?_) (fun x a b => ?_) (fun x a b => ?_) (fun x a b => ?_) (fun x a b => ?_) hkd (hOut hk)
      · exact zt_frv hE hf3 (o := 169) (t := 52) rfl (by decide +kernel) x
      · exact zt_frv hE hf3 (o := 172) (t := 55) rfl (by decide +kernel) x
      · rw [r3 x a (by omega), hf 74 (by decide), show σ 74 = zci ws2 191 from hc 74 rfl]
      · rw [r3 x (by omega) (by omega), hf 74 (by decide), show σ 74 = zci ws2 191 from hc 74 rfl]
      · rw [r4 x a b, hf 75 (by decide), show σ 75 = zci ws2 192 from hc 75 rfl]
      · rw [r5 x a b, hf 76 (by decide), show σ 76 = zci ws2 193 from hc 76 rfl]
  obtain ⟨yN, cc, ret, ok, lk, hcls⟩ := B.2.2.2.1 13 198 1 135 2 (by decide +kernel) (Or.inr (Or.inr (Or.inl rfl))) (gm_135, 2) rfl
  refine g_call B.1 B.2.1 ok (mi := gm_L) lk hcls (i := .invokevirtual 198) (Or.inr ⟨rfl, Or.inl rfl⟩) (pc := 1457) (asx := [.ref ax, .int (E.2.2.2.1 (i + Int32.ofInt 1).toNatClampNeg)]) (rx := []) (List.mem_of_getElem? (l := ga_297) (i := 873) (by decide +kernel)) ⟨by decide, by decide, by show ce + 0 ≤ 601024; omega, by show sl + 0 ≤ 7293034; omega, Nat.le_of_ble_eq_true rfl, Nat.le_of_ble_eq_true rfl⟩ rfl rfl (fun _ => ⟨0, ax, fs, _, rfl, hfs⟩) ?_
  by_cases hk : (E.2.2.2.1 (i + Int32.ofInt 1).toNatClampNeg).toInt < 0 ∨ 1 < (E.2.2.2.1 (i + Int32.ofInt 1).toNatClampNeg).toInt
  · exact z_135o B A hE hk (hRef ws 0 w1 w2 fRel_refl (fun q => by omega) (fun _ => wR))
  · have hk01 : (E.2.2.2.1 (i + Int32.ofInt 1).toNatClampNeg).toInt = 0 ∨ (E.2.2.2.1 (i + Int32.ofInt 1).toNatClampNeg).toInt = 1 := by omega
    have hyk := zk_add wR.2.2.1.1 eY.symm (x := (E.2.2.2.1 (i + Int32.ofInt 1).toNatClampNeg)) rfl hk01
    have key : ∀ (kk T : Nat) (n0 : Nat), ((kk = 0 ∧ T = 129 ∧ n0 = 148) ∨ (kk = 1 ∧ T = 148 ∧ n0 = 129)) → (E.2.2.2.1 (i + Int32.ofInt 1).toNatClampNeg).toInt = (kk : Int) → zgE E gm_135 0 (lv_args 0 [.ref ax, .int (E.2.2.2.1 (i + Int32.ofInt 1).toNatClampNeg)]) [] ws 0 0 (fun ret ws2 => zGl E (1457 + 3) (zlv E ax am ao i) (ret.toList ++ []) ws2 (ce + gm_135.2.1) (sl + gm_135.2.2.1) K) := by
      intro kk T n0 hkT hkk
      obtain ⟨aT, d1, d2⟩ : ∃ aT : Nat, (zad E)[T]? = some aT ∧ gcv ws 126 kk = some (.ref aT) := by
        rcases hkT with ⟨rfl, rfl, rfl⟩ | ⟨rfl, rfl, rfl⟩
        · exact zRf_at wR.1 (o := 126) (i := 0) (o2 := 129) (by decide)
        · exact zRf_at wR.1 (o := 126) (i := 1) (o2 := 148) (by decide)
      refine z_135 B A hE x2 (T := T) (kk := kk) (by omega) hkk w1 w2 wR.1 hy d1 d2 (fun ws2 u1 u2 uF uA uE uC u16 => hRef ws2 1 u1 u2 uF (fun hk2 ws3 v1 v76 vA vC vA2 vC2 v52 v55 hkd => ?_) (fun q => by omega))
      have hcf : zCs zclf ws ws3 := fun q hq i a b => (zCs_sub (by decide +kernel) v1 q hq i a b).trans (by
        have g := (by decide : ∀ q ∈ zclf, (∃ r ∈ zcl, r.1 = q.1 ∧ r.2.1 ≤ q.2.1 ∧ q.2.2 ≤ r.2.2) ∧ (q.1 ≤ 4 ∨ (89 ≤ q.1 ∧ q.1 ≤ 129) ∨ q.1 = 148) ∧ (q.2.2 ≤ 8 ∨ (q.1 = 0 ∧ q.2.2 ≤ 16))) q hq
        obtain ⟨⟨r, hr, e1, e2, e3⟩, g2, g3⟩ := g
        have := uC r hr i (by omega) (by omega) (by rw [e1]; rcases hkT with ⟨-, rfl, -⟩ | ⟨-, rfl, -⟩ <;> omega) (by rw [e1]; rcases hkT with ⟨-, rfl, -⟩ | ⟨-, rfl, -⟩ <;> omega) (by rw [e1]; omega)
        rw [e1] at this
        exact this)
      -- what is as it was: a Terrace's cells other than T's
      have same : ∀ (P : Nat), (P = 4 ∨ P = n0) → (∀ x : Int, (x = 8 ∨ x = 9) → zci ws3 P x = zci ws P x) ∧ ∀ j : Nat, j < 4 → ∀ x : Int, 0 ≤ x → x < 12 → zci ws3 (P + 1 + j) x = zci ws (P + 1 + j) x := by
        intro P hP
        have hq : (P, 0, 10) ∈ zclc ∧ ∀ j, j < 4 → (P + 1 + j, 0, 12) ∈ zclc := by
          rcases hP with rfl | rfl
          · exact ⟨by decide, by decide⟩
          · rcases hkT with ⟨-, -, rfl⟩ | ⟨-, -, rfl⟩
            · exact ⟨by decide, by decide⟩
            · exact ⟨by decide, by decide⟩
        have hTP : T + 8 < P ∨ P + 8 < T := by omega
        refine ⟨fun x hx => ?_, fun j hj x x0 x1 => ?_⟩
        · rw [zCs_ci v1 hq.1 (i := x) (by omega) (by omega)]
          have e := zci_pt (uC (P, 0, 10) (List.mem_append_left _ hq.1) x.toNat (Nat.zero_le _) (by show x.toNat < 10; omega) (by show ¬ (T < P ∧ P ≤ T + 8); omega) (by show ¬ (P = T ∧ _); omega) (by show ¬ (P = 0 ∧ _); omega))
          rw [show ((x.toNat : Nat) : Int) = x by omega] at e
          exact e
        · rw [zCs_ci v1 (hq.2 j hj) (i := x) (by omega) (by omega)]
          have e := zci_pt (uC (P + 1 + j, 0, 12) (List.mem_append_left _ (hq.2 j hj)) x.toNat (Nat.zero_le _) (by show x.toNat < 12; omega) (by show ¬ (T < P + 1 + j ∧ P + 1 + j ≤ T + 8); omega) (by show ¬ (P + 1 + j = T ∧ _); omega) (by show ¬ (P + 1 + j = 0 ∧ _); omega))
          rw [show ((x.toNat : Nat) : Int) = x by omega] at e
          exact e
      -- T's are as thing 4's were
      have copy : (∀ x : Int, (x = 8 ∨ x = 9) → zci ws3 T x = zci ws 4 x) ∧ ∀ j : Nat, j < 4 → ∀ x : Int, 0 ≤ x → x < 12 → zci ws3 (T + 1 + j) x = zci ws (4 + 1 + j) x := by
        have hq : (T, 0, 10) ∈ zclc ∧ ∀ j, j < 4 → (T + 1 + j, 0, 12) ∈ zclc := by
          rcases hkT with ⟨-, rfl, -⟩ | ⟨-, rfl, -⟩
          · exact ⟨by decide, by decide⟩
          · exact ⟨by decide, by decide⟩
        refine ⟨fun x hx => ?_, fun j hj x x0 x1 => ?_⟩
        · rw [zCs_ci v1 hq.1 (i := x) (by omega) (by omega)]
          rcases hx with rfl | rfl
          · exact zci_pt (i := 8) (j := 8) (uE 8 (Or.inl rfl))
          · exact zci_pt (i := 9) (j := 9) (uE 9 (Or.inr rfl))
        · rw [zCs_ci v1 (hq.2 j hj) (i := x) (by omega) (by omega)]
          have e := zci_pt (uA j x.toNat hj (by omega))
          rw [show ((x.toNat : Nat) : Int) = x by omega] at e
          exact e
      have e16 : zci ws3 0 16 = (y ||| 1 <<< ((E.2.2.2.1 (i + Int32.ofInt 1).toNatClampNeg) &&& 31)).toInt := (zCs_ci v1 (o := 0) (lo := 0) (hi := 17) (by decide) (by decide) (by decide)).trans (zci_int u16)
      have i0 := v76 0 (by decide) (by decide)
      have i1 := v76 1 (by decide) (by decide)
      have toT : ∀ (s0 m0 : Nat), (s0 : Int) = 402 * (E.2.2.2.1 (i + Int32.ofInt 1).toNatClampNeg).toInt → (m0 : Int) = 24 * (E.2.2.2.1 (i + Int32.ofInt 1).toNatClampNeg).toInt → zAl ws3 T 191 s0 192 m0 := fun s0 m0 hs hm => zAl_cg (fun q a b => by
        rw [hs, vC q a (by omega)]
        congr 1
        show q = ((0 : Nat) : Int) + q
        omega) (fun q a b => by
        rw [hm, vC2 q a b]
        congr 1
        show q = ((0 : Nat) : Int) + q
        omega) copy.1 (copy.2 0 (by decide)) (copy.2 1 (by decide)) (copy.2 2 (by decide)) (copy.2 3 (by decide)) wR.2.1
      refine ⟨zRf_cf hcf wR.1, zAl_cg (fun q a b => v52 _) (fun q a b => v55 _) (same 4 (Or.inl rfl)).1 ((same 4 (Or.inl rfl)).2 0 (by decide)) ((same 4 (Or.inl rfl)).2 1 (by decide)) ((same 4 (Or.inl rfl)).2 2 (by decide)) ((same 4 (Or.inl rfl)).2 3 (by decide)) wR.2.1, ?_, hkd⟩
      unfold zIm
      rw [e16, i0, i1]
      have sn := same n0 (Or.inr rfl)
      rcases hkT with ⟨rfl, rfl, rfl⟩ | ⟨rfl, rfl, rfl⟩
      · have e0 : (E.2.2.2.1 (i + Int32.ofInt 1).toNatClampNeg).toInt = 0 := hkk
        refine ⟨hyk, fun _ => toT 0 0 (by rw [e0]; rfl) (by rw [e0]; rfl), fun q => ?_⟩
        rw [if_neg (by omega)] at q
        exact zAl_cg (fun q a b => vA _ (by omega) (by omega) (by omega)) (fun q a b => vA2 _ (by omega) (by omega) (by omega)) sn.1 (sn.2 0 (by decide)) (sn.2 1 (by decide)) (sn.2 2 (by decide)) (sn.2 3 (by decide)) (wR.2.2.1.2.2 q)
      · have e0 : (E.2.2.2.1 (i + Int32.ofInt 1).toNatClampNeg).toInt = 1 := hkk
        refine ⟨hyk, fun q => ?_, fun _ => toT 402 24 (by rw [e0]; rfl) (by rw [e0]; rfl)⟩
        rw [if_neg (by omega)] at q
        exact zAl_cg (fun q a b => vA _ (by omega) (by omega) (by omega)) (fun q a b => vA2 _ (by omega) (by omega) (by omega)) sn.1 (sn.2 0 (by decide)) (sn.2 1 (by decide)) (sn.2 2 (by decide)) (sn.2 3 (by decide)) (wR.2.2.1.2.1 q)
    rcases hk01 with e | e
    · exact key 0 129 148 (Or.inl ⟨rfl, rfl, rfl⟩) e
    · exact key 1 148 129 (Or.inr ⟨rfl, rfl, rfl⟩) e
theorem z_l44x (X : zX gKX E) (B : zB E) (A : zA E gJ1) {oX oM oO oT ax am ao : Nat} (F : zFx E oX oM oO oT ax am ao) (hLS : E.2.2.1 ≤ 3072) {i z : Int32} (hi : 0 ≤ i.toInt ∧ i.toInt + 6 ≤ (E.2.2.1 : Int)) {ws : va_W} {ce sl : Nat} {K : gK} (W : zWl E oM oT z ws) (hce : ce + 1 ≤ 601024) (hsl : sl + 6 ≤ 7293034) (hT : ∀ (ws2 : va_W) (z2 : Int32), zWl E oM oT z2 ws2 → zGl E 1525 (zlv E ax am ao i) [] ws2 ce sl K) : zGl E 1475 (zlv E ax am ao i) [] ws ce sl K := by
  obtain ⟨w1, ⟨w2, wT, wR⟩, w3, w4⟩ := W
  have hE := wT.1
  obtain ⟨eX, eM_, eT⟩ := zt_pl hE F
  subst eX eM_ eT
  obtain ⟨⟨x1, x2⟩, ⟨m1, m2⟩, ⟨o1, o2⟩, t1, t2⟩ := F
  obtain ⟨fs, hfs⟩ := zt_obj w1 x1 x2 (c := 11) ⟨_, rfl, rfl⟩
  refine g_aload (j := 1) (len := 1) (i := .aload_n 1) (Or.inr ⟨1, rfl, rfl, rfl⟩) (List.mem_of_getElem? (l := ga_297) (i := 884) (by decide +kernel)) (a := ax) (List.mem_cons_of_mem _ List.mem_cons_self) ?_
  refine z_arg hi hLS (k := 1) (by decide) (List.mem_of_getElem? (l := ga_297) (i := 885) (by decide +kernel)) (List.mem_of_getElem? (l := ga_297) (i := 886) (by decide +kernel)) (List.mem_of_getElem? (l := ga_297) (i := 887) (by decide +kernel)) (List.mem_of_getElem? (l := ga_297) (i := 888) (by decide +kernel)) (List.mem_of_getElem? (l := ga_297) (i := 889) (by decide +kernel)) ?_
  obtain ⟨y, hy, -, -⟩ := cf_int hE w1 (o := 0) (t := 11) rfl (f := 16) (lo := .negSucc 2147483647) (hi := .ofNat 2147483647) ⟨_, rfl, rfl⟩
  have eY : zci ws 0 16 = y.toInt := zci_int hy
  have hRef : ∀ (ws2 : va_W) (v : Int32), wOk (zso E) (zad E) E.2.2.2.2.2.2.1 gST ws2 → jOk (zso E) gJ1 ws2 → fRel (zso E) md155 ws ws2 → ((0 ≤ (E.2.2.2.1 (i + Int32.ofInt 1).toNatClampNeg).toInt ∧ (E.2.2.2.1 (i + Int32.ofInt 1).toNatClampNeg).toInt ≤ 1) → ¬ zci ws 193 (E.2.2.2.1 (i + Int32.ofInt 1).toNatClampNeg).toInt = 0 → ∀ ws3 : va_W, zCs zclc ws2 ws3 → (∀ j : Int, 0 ≤ j → j < 402 → zci ws3 169 j = zci ws 191 (402 * (E.2.2.2.1 (i + Int32.ofInt 1).toNatClampNeg).toInt + j)) → (∀ j : Int, 0 ≤ j → j < 24 → zci ws3 172 j = zci ws 192 (24 * (E.2.2.2.1 (i + Int32.ofInt 1).toNatClampNeg).toInt + j)) → (∀ x : Int, zci ws3 191 x = zci ws 191 x) → (∀ x : Int, zci ws3 192 x = zci ws 192 x) → (∀ x : Int, zci ws3 193 x = zci ws 193 x) → zKd ws3 → zTr E ws3) → ((((E.2.2.2.1 (i + Int32.ofInt 1).toNatClampNeg).toInt < 0 ∨ 1 < (E.2.2.2.1 (i + Int32.ofInt 1).toNatClampNeg).toInt) ∨ zci ws 193 (E.2.2.2.1 (i + Int32.ofInt 1).toNatClampNeg).toInt = 0) → zTr E ws2) → zGl E 1485 (zlv E ax am ao i) [.int v] ws2 (ce + 0) (sl + 0) K := by
    intro ws2 v u1 u2 uF hIn hOut
    have cc : ∀ {o t : Nat}, zso0[o]? = some t → (md155.all fun q => !(Nat.beq q.1 t)) = true → zci ws2 o = zci ws o := fun ho hm => funext (zt_frv hE uF ho hm)
    have c191 : zci ws2 191 = zci ws 191 := cc (t := 74) rfl (by decide +kernel)
    have c192 : zci ws2 192 = zci ws 192 := cc (t := 75) rfl (by decide +kernel)
    have c193 : zci ws2 193 = zci ws 193 := cc (t := 76) rfl (by decide +kernel)
    refine g_pop (List.mem_of_getElem? (l := ga_297) (i := 891) (by decide +kernel)) rfl ?_
    refine g_aload (j := 2) (len := 1) (i := .aload_n 2) (Or.inr ⟨2, rfl, rfl, rfl⟩) (List.mem_of_getElem? (l := ga_297) (i := 892) (by decide +kernel)) (a := am) (List.mem_cons_of_mem _ (List.mem_cons_of_mem _ List.mem_cons_self)) ?_
    refine z_arg hi hLS (k := 1) (by decide) (List.mem_of_getElem? (l := ga_297) (i := 893) (by decide +kernel)) (List.mem_of_getElem? (l := ga_297) (i := 894) (by decide +kernel)) (List.mem_of_getElem? (l := ga_297) (i := 895) (by decide +kernel)) (List.mem_of_getElem? (l := ga_297) (i := 896) (by decide +kernel)) (List.mem_of_getElem? (l := ga_297) (i := 897) (by decide +kernel)) ?_
    generalize (E.2.2.2.1 (i + Int32.ofInt 1).toNatClampNeg) = k at hIn hOut ⊢
    obtain ⟨fs2, hfs2⟩ := zt_obj u1 m1 m2 (c := 12) ⟨_, rfl, rfl⟩
    obtain ⟨yN, cc, ret, ok, lk, hcls⟩ := B.2.2.2.1 13 205 1 261 2 (by decide +kernel) (Or.inr (Or.inr (Or.inl rfl))) (gm_261, 3) rfl
    refine g_call B.1 B.2.1 ok (mi := gm_L) lk hcls (i := .invokevirtual 205) (Or.inr ⟨rfl, Or.inl rfl⟩) (pc := 1493) (asx := [.ref am, .int k]) (rx := []) (List.mem_of_getElem? (l := ga_297) (i := 898) (by decide +kernel)) ⟨by decide, by decide, by show ce + 0 + 0 ≤ 601024; omega, by show sl + 0 + 0 ≤ 7293034; omega, Nat.le_of_ble_eq_true rfl, Nat.le_of_ble_eq_true rfl⟩ rfl rfl (fun _ => ⟨167, am, fs2, _, rfl, hfs2⟩) ?_
    refine zg_ofL B hE (md := md261) u1 u2 (vs := [.inr (.inl 12), .inl k.toInt]) (asx := [.ref am, .int k]) ⟨⟨167, am, by rw [hE]; rfl, m2, rfl⟩, ⟨_, rfl, rfl⟩, trivial⟩ (fun σ hX hs hc => ?_)
    have e74 : σ 74 = zci ws 191 := (hc 74 rfl).trans c191
    have e75 : σ 75 = zci ws 192 := (hc 75 rfl).trans c192
    have e76 : σ 76 = zci ws 193 := (hc 76 rfl).trans c193
    have fin : ∀ (n : Int) (σ2 : vS), vX σ2 → (∀ (ws3 : va_W), wOk (zso E) (zad E) E.2.2.2.2.2.2.1 gST ws3 → fRel (zso E) md261 ws2 ws3 → vsgL (zso E) zuq ws3 σ2 → zTr E ws3) → (fun (ret : Option vVL) (σ2 : vS) => vX σ2 ∧ ∀ (ws3 : va_W) (rv : Option Value), wOk (zso E) (zad E) E.2.2.2.2.2.2.1 gST ws3 → jOk (zso E) gJ1 ws3 → fRel (zso E) md261 ws2 ws3 → vsgL (zso E) zuq ws3 σ2 → vRtL (zso E) (zad E) ret rv → zGl E (1493 + 3) (zlv E ax am ao i) (rv.toList ++ []) ws3 (ce + 0 + gm_261.2.1) (sl + 0 + gm_261.2.2.1) K) (some (.inl n)) σ2 := by
      intro n σ2 x2 hz
      refine ⟨x2, fun ws3 rv hw3 hj3 hf3 hs3 hrt => ?_⟩
      cases rv with
      | none => exact absurd hrt id
      | some v2 =>
        obtain ⟨v2, rfl, -⟩ := hrt
        refine g_pop (List.mem_of_getElem? (l := ga_297) (i := 899) (by decide +kernel)) rfl ?_
        refine g_goto (off := 28) (t := 1525) (List.mem_of_getElem? (l := ga_297) (i := 900) (by decide +kernel)) rfl ?_
        exact hT ws3 z ⟨hw3, ⟨hj3, zTp_fr (md := md261) (by decide +kernel) hf3 u1 hw3 (zTp_fr (md := md155) (by decide +kernel) uF w1 u1 wT), hz ws3 hw3 hf3 hs3⟩, ((zt_fr1 hE hf3 (o := 1) (t := 7) rfl (by decide +kernel)).trans (zt_fr1 hE uF (o := 1) (t := 7) rfl (by decide +kernel))).trans w3, ((zt_fr1 hE hf3 (o := 167) (t := 12) rfl (by decide +kernel)).trans (zt_fr1 hE uF (o := 167) (t := 12) rfl (by decide +kernel))).trans w4⟩
    refine zbdL (fun hb => w261_0 X B ⟨Int32.le_toInt _, Int32.toInt_le _⟩ (fun hk hkp σ2 hf hC hC2 => fin 1 σ2 (w261_x B hb hk hX hf hC) (fun ws3 hw3 hf3 hs3 => ?_)) (fun hk σ2 hf => fin 0 σ2 (vX_fr hX (hf 52 (by decide)) (hf 74 (by decide))) (fun ws3 hw3 hf3 hs3 => ?_)))
    · obtain ⟨r1, r2, r3, r4, r5⟩ := zr_ci hE hw3 hs3
      have hkd : zKd ws3 := show zci ws3 1 2 = zci ws3 167 15 from ((zci_pt (zt_fr1 hE hf3 (o := 1) (t := 7) (n := 2) rfl (by decide +kernel))).trans (zci_pt (zt_fr1 hE uF (o := 1) (t := 7) (n := 2) rfl (by decide +kernel)))).trans ((wR.2.2.2 : zKd _).trans ((zci_pt (zt_fr1 hE hf3 (o := 167) (t := 12) (n := 15) rfl (by decide +kernel))).trans (zci_pt (zt_fr1 hE uF (o := 167) (t := 12) (n := 15) rfl (by decide +kernel)))).symm)
      refine hIn hk (by rw [← e76]; exact hkp) ws3 (zr_cl hE (by decide +kernel) hf3) (fun j a b => ?_) (fun j a b => ?_) (fun x => ?_) (fun x => ?_) (fun x => ?_) hkd
      · rw [r1 j a b, hC j a b, e74]
      · rw [r2 j a (by omega), hC2 j a b, e75]
      · rw [zt_frv hE hf3 (o := 191) (t := 74) rfl (by decide +kernel) x, c191]
      · rw [zt_frv hE hf3 (o := 192) (t := 75) rfl (by decide +kernel) x, c192]
      · rw [zt_frv hE hf3 (o := 193) (t := 76) rfl (by decide +kernel) x, c193]
    · obtain ⟨r1, r2, r3, r4, r5⟩ := zr_ci hE hw3 hs3
      rw [e76] at hk
      have hkd : zKd ws3 := show zci ws3 1 2 = zci ws3 167 15 from (zci_pt (zt_fr1 hE hf3 (o := 1) (t := 7) (n := 2) rfl (by decide +kernel))).trans (((hOut hk).2.2.2 : zKd _).trans (zci_pt (zt_fr1 hE hf3 (o := 167) (t := 12) (n := 15) rfl (by decide +kernel))).symm)
      refine zTr_v (zr_cl hE (by decide +kernel) hf3) (fun x a b => ?_) (fun x a b => ?_) (fun x a b => ?_) (fun x a b => ?_) (fun x a b => ?_) (fun x a b => ?_) hkd (hOut hk)
      · rw [r1 x a (by omega), hf 52 (by decide), show σ 52 = zci ws2 169 from hc 52 rfl]
      · rw [r2 x a (by omega), hf 55 (by decide), show σ 55 = zci ws2 172 from hc 55 rfl]
      · exact zt_frv hE hf3 (o := 191) (t := 74) rfl (by decide +kernel) x
      · exact zt_frv hE hf3 (o := 191) (t := 74) rfl (by decide +kernel) x
      · exact zt_frv hE hf3 (o := 192) (t := 75) rfl (by decide +kernel) x
      · exact zt_frv hE hf3 (o := 193) (t := 76) rfl (by decide +kernel) x
  obtain ⟨yN, cc, ret, ok, lk, hcls⟩ := B.2.2.2.1 13 202 1 155 2 (by decide +kernel) (Or.inr (Or.inr (Or.inl rfl))) (gm_155, 2) rfl
  refine g_call B.1 B.2.1 ok (mi := gm_L) lk hcls (i := .invokevirtual 202) (Or.inr ⟨rfl, Or.inl rfl⟩) (pc := 1482) (asx := [.ref ax, .int (E.2.2.2.1 (i + Int32.ofInt 1).toNatClampNeg)]) (rx := []) (List.mem_of_getElem? (l := ga_297) (i := 890) (by decide +kernel)) ⟨by decide, by decide, by show ce + 0 ≤ 601024; omega, by show sl + 0 ≤ 7293034; omega, Nat.le_of_ble_eq_true rfl, Nat.le_of_ble_eq_true rfl⟩ rfl rfl (fun _ => ⟨0, ax, fs, _, rfl, hfs⟩) ?_
  by_cases hk : (E.2.2.2.1 (i + Int32.ofInt 1).toNatClampNeg).toInt < 0 ∨ 1 < (E.2.2.2.1 (i + Int32.ofInt 1).toNatClampNeg).toInt
  · exact z_155o B A hE x2 w1 hy (Or.inl hk) (hRef ws 0 w1 w2 fRel_refl (fun q => by omega) (fun _ => wR))
  · have hk01 : (E.2.2.2.1 (i + Int32.ofInt 1).toNatClampNeg).toInt = 0 ∨ (E.2.2.2.1 (i + Int32.ofInt 1).toNatClampNeg).toInt = 1 := by omega
    have h193 : (if (E.2.2.2.1 (i + Int32.ofInt 1).toNatClampNeg).toInt = 0 then zci ws 193 0 else zci ws 193 1) = zci ws 193 (E.2.2.2.1 (i + Int32.ofInt 1).toNatClampNeg).toInt := by
      rcases hk01 with e | e <;> rw [e]
      · exact if_pos rfl
      · exact if_neg (by decide)
    rcases zk_has wR.2.2.1.1 eY.symm (x := (E.2.2.2.1 (i + Int32.ofInt 1).toNatClampNeg)) rfl hk01 with ⟨g1, g2⟩ | ⟨g1, g2⟩
    · rw [h193] at g2
      exact z_155o B A hE x2 w1 hy (Or.inr ⟨by omega, g1⟩) (hRef ws 0 w1 w2 fRel_refl (fun _ q => absurd g2 q) (fun _ => wR))
    · rw [h193] at g2
      have key : ∀ (kk O : Nat), ((kk = 0 ∧ O = 129) ∨ (kk = 1 ∧ O = 148)) → (E.2.2.2.1 (i + Int32.ofInt 1).toNatClampNeg).toInt = (kk : Int) → zgE E gm_155 0 (lv_args 0 [.ref ax, .int (E.2.2.2.1 (i + Int32.ofInt 1).toNatClampNeg)]) [] ws 0 0 (fun ret ws2 => zGl E (1482 + 3) (zlv E ax am ao i) (ret.toList ++ []) ws2 (ce + gm_155.2.1) (sl + gm_155.2.2.1) K) := by
        intro kk O hkT hkk
        obtain ⟨aO, d1, d2⟩ : ∃ aO : Nat, (zad E)[O]? = some aO ∧ gcv ws 126 kk = some (.ref aO) := by
          rcases hkT with ⟨rfl, rfl⟩ | ⟨rfl, rfl⟩
          · exact zRf_at wR.1 (o := 126) (i := 0) (o2 := 129) (by decide)
          · exact zRf_at wR.1 (o := 126) (i := 1) (o2 := 148) (by decide)
        refine z_155 B A hE x2 (O := O) (kk := kk) hkT hkk w1 w2 wR.1 hy g1 d1 d2 (fun ws2 u1 u2 uF uA uE uC => hRef ws2 1 u1 u2 uF (fun hk2 hkp ws3 v1 v52 v55 v74 v75 v76 hkd => ?_) (fun q => by omega))
        have hcm : zCs zclo ws ws3 := fun q hq i a b => by
          have g := (by decide : ∀ q ∈ zclo, (∃ r ∈ zclc, r.1 = q.1 ∧ r.2.1 ≤ q.2.1 ∧ q.2.2 ≤ r.2.2) ∧ (q.1 = 0 ∨ q.1 = 4 ∨ 89 ≤ q.1) ∧ (q.1 = 4 → q.2.2 ≤ 8)) q hq
          obtain ⟨⟨r, hr, e1, e2, e3⟩, g2, g3⟩ := g
          have h1 := v1 r hr i (by omega) (by omega)
          have h2 := uC r (List.mem_append_left _ hr) i (by omega) (by omega) (by rw [e1]; omega) (by rw [e1]; omega)
          rw [e1] at h1 h2
          exact h1.trans h2
        have copy : (∀ x : Int, (x = 8 ∨ x = 9) → zci ws3 4 x = zci ws O x) ∧ ∀ j : Nat, j < 4 → ∀ x : Int, 0 ≤ x → x < 12 → zci ws3 (4 + 1 + j) x = zci ws (O + 1 + j) x := by
          refine ⟨fun x hx => ?_, fun j hj x x0 x1 => ?_⟩
          · rw [zCs_ci v1 (o := 4) (lo := 0) (hi := 10) (by decide) (i := x) (by omega) (by omega)]
            rcases hx with rfl | rfl
            · exact zci_pt (i := 8) (j := 8) (uE 8 (Or.inl rfl))
            · exact zci_pt (i := 9) (j := 9) (uE 9 (Or.inr rfl))
          · rw [zCs_ci v1 ((by decide : ∀ j, j < 4 → (4 + 1 + j, 0, 12) ∈ zclc) j hj) (i := x) (by omega) (by omega)]
            have e := zci_pt (uA j x.toNat hj (by omega))
            rw [show ((x.toNat : Nat) : Int) = x by omega] at e
            exact e
        have hal : ∀ (s0 m0 : Nat), (s0 : Int) = 402 * (E.2.2.2.1 (i + Int32.ofInt 1).toNatClampNeg).toInt → (m0 : Int) = 24 * (E.2.2.2.1 (i + Int32.ofInt 1).toNatClampNeg).toInt → zAl ws O 191 s0 192 m0 → zAl ws3 4 169 0 172 0 := fun s0 m0 hs hm g => zAl_cg (fun q a b => by
          rw [hs, show ((0 : Nat) : Int) + q = q by omega]
          exact v52 q a (by omega)) (fun q a b => by
          rw [hm, show ((0 : Nat) : Int) + q = q by omega]
          exact v55 q a b) copy.1 (copy.2 0 (by decide)) (copy.2 1 (by decide)) (copy.2 2 (by decide)) (copy.2 3 (by decide)) g
        refine ⟨zRf_cf (zCs_sub (by decide +kernel) hcm) wR.1, ?_, zIm_v hcm (by decide +kernel) (fun x _ _ => v74 x) (fun x _ _ => v74 x) (fun x _ _ => v75 x) (fun x _ _ => v76 x) wR.2.2.1, hkd⟩
        rcases hkT with ⟨rfl, rfl⟩ | ⟨rfl, rfl⟩
        · have e0 : (E.2.2.2.1 (i + Int32.ofInt 1).toNatClampNeg).toInt = 0 := hkk
          rw [e0] at g2
          exact hal 0 0 (by rw [e0]; rfl) (by rw [e0]; rfl) (wR.2.2.1.2.1 g2)
        · have e0 : (E.2.2.2.1 (i + Int32.ofInt 1).toNatClampNeg).toInt = 1 := hkk
          rw [e0] at g2
          exact hal 402 24 (by rw [e0]; rfl) (by rw [e0]; rfl) (wR.2.2.1.2.2 g2)
      rcases hk01 with e | e
      · exact key 0 129 (Or.inl ⟨rfl, rfl⟩) e
      · exact key 1 148 (Or.inr ⟨rfl, rfl⟩) e
/-- both count alike -/
theorem z_cnt {ws : va_W} (g : zAl ws 4 169 0 172 0) {k v : Int32} {z v2 : Int} (hz : zci ws 1 1 = z) (h : ((0 ≤ k.toInt ∧ k.toInt < 3) ∧ gcv ws 5 k.toInt.toNat = some (.int v)) ∨ (k.toInt = 3 ∧ gcv ws 4 8 = some (.int v)) ∨ (k.toInt = 4 ∧ ∃ y : Int32, gcv ws 4 9 = some (.int y) ∧ v = pcz y) ∨ (k.toInt = 5 ∧ gcv ws 1 1 = some (.int v)) ∨ ((k.toInt < 0 ∨ 5 < k.toInt) ∧ v.toInt = -1)) (h2 : (k.toInt = 5 ∧ v2 = z) ∨ ((0 ≤ k.toInt ∧ k.toInt ≤ 4) ∧ v2 = zci ws 169 k.toInt) ∨ ((k.toInt < 0 ∨ 5 < k.toInt) ∧ v2 = -1)) : v.toInt = v2 := by
  obtain ⟨⟨b0, b1, b2, b3⟩, c, ⟨d1, d2⟩, -⟩ := g
  rcases h with ⟨k0, h⟩ | ⟨k0, h⟩ | ⟨k0, y, h, rfl⟩ | ⟨k0, h⟩ | ⟨k0, h⟩
  · rcases h2 with ⟨q, -⟩ | ⟨-, rfl⟩ | ⟨q, -⟩
    · omega
    · have e := c k.toInt k0.1 k0.2
      have e2 := zci_int h
      rw [show ((k.toInt.toNat : Nat) : Int) = k.toInt by omega] at e2
      rw [← e2]
      show zci ws (4 + 1) k.toInt = _
      rw [e]
      congr 1
      show ((0 : Nat) : Int) + k.toInt = k.toInt
      omega
    · omega
  · rcases h2 with ⟨q, -⟩ | ⟨-, rfl⟩ | ⟨q, -⟩
    · omega
    · have e2 := zci_int h
      have e2 : zci ws 4 8 = v.toInt := e2
      rw [← e2, d1, k0]
      rfl
    · omega
  · rcases h2 with ⟨q, -⟩ | ⟨-, rfl⟩ | ⟨q, -⟩
    · omega
    · have e2 := zci_int h
      have e2 : zci ws 4 9 = y.toInt := e2
      rw [e2] at d2
      rw [pcz_q (fun j j0 j1 => d2.1 j (by omega) j1), d2.2, k0]
      rfl
    · omega
  · rcases h2 with ⟨-, rfl⟩ | ⟨q, -⟩ | ⟨q, -⟩
    · have e2 := zci_int h
      have e2 : zci ws 1 1 = v.toInt := e2
      rw [← e2]
      exact hz
    · omega
    · omega
  · rcases h2 with ⟨q, -⟩ | ⟨q, -⟩ | ⟨-, rfl⟩
    · omega
    · omega
    · exact h
end ZTD
