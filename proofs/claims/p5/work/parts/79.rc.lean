/-! THE LAW'S OWN room, in the law -/
section RN
variable {b base LS : Nat} {xs : Nat → Int32} {D : va_G} {tys : List (ClassId × FieldType)} {l : Launch} {so ad : List Nat}
theorem g_lroom (hst : l.stackTraces = false) (B0 : zB (zE1 b base LS xs D tys l so ad)) (A : zA (zE1 b base LS xs D tys l so ad) gJ1) {ws : va_W} (hwk : wOk so ad tys gST ws) (hj : jOk so gJ1 ws) {o xa oo oa : Nat} (ho : so[o]? = some 11) (ha : ad[o]? = some xa) (hoo : so[oo]? = some 77) (hoa : ad[oo]? = some oa) (z0 z1 : Int32) {K : gK} {lv : List (Nat × Value)} {ce sl : Nat} (hce : ce + 1 ≤ 601024) (hsl : sl + 6 ≤ 7293034)
    (h : ∀ (z : Int32) (ws2 : va_W), rmK tys so ad [(77, 0, 1)] ws ws2 → gG b base LS xs D vwCl tys Tb1 (NF1 base) l eCN gm_L 381 lv [.int z] ws2 (ce + 1) (sl + 6) K) : gG b base LS xs D vwCl tys Tb1 (NF1 base) l eCN gm_L 378 lv [.ref oa, .int z1, .int z0, .ref xa] ws ce sl K := by
  intro p e R s m args below meth c Q cc nL X hR H locs lsA hw hl
  have hd := X.2.2.2.2.2.2.2.2.1 _ (show (378, .invokestatic 38, 3) ∈ ga_297 from (List.mem_of_getElem? (l := ga_297) (i := 125) (by decide +kernel)))
  have hM := m_lroom hst B0 A hwk hj ho ha hoo hoa z0 z1 (K := fun ret ws2 => gG b base LS xs D vwCl tys Tb1 (NF1 base) l eCN gm_L (378 + 3) lv (ret.toList ++ []) ws2 (ce + 1) (sl + 6) K) (fun z ws2 hk => h z ws2 hk)
  have hts := X.2.2.2.2.1
  have hRc := X.2.2.2.2.2.2.2.1
  have S : CallFix p m c cc nL s args Tb1 (eCN 13) := ⟨X.1, X.2.1, X.2.2.1, X.2.2.2.1, hts⟩
  have hG : GoodIn Tb1 (va_wsS (eCN 13) 38 yL_room (Cond.codeWith yL_room cL_room 5 (some .int) [(0, 10, 13, 13)] :: Tb1)) := e_goodIn tb_good (fun w z => by
    unfold va_wsS at z
    rcases List.mem_append.mp z with z | z
    · rcases List.mem_cons.mp z with z | z
      · rw [z]; exact tbT 1285 (by decide +kernel) rfl
      · rcases List.mem_cons.mp z with z | z
        · rw [z]; exact tbT 1286 (by decide +kernel) rfl
        · rcases List.mem_cons.mp z with z | z
          · rw [z]; exact tbT 0 (by decide +kernel) rfl
          · cases z
    · rcases List.mem_cons.mp z with z | z
      · rw [z]; exact tbT 1287 (by decide +kernel) rfl
      · exact z)
  have hRR : rm_lr.frames + 1 ≤ R.frames ∧ 8 + (5 + 11) + rm_lr.locals ≤ R.locals := ⟨by rw [hRc.2.2.1]; decide, by rw [hRc.2.2.2]; decide⟩
  refine g_back (pc := 378) X hR hw hl (rx := []) (mc := 1) (ms := 6) (a := [Value.ref xa, .int z0, .int z1, .ref oa].toArray) ?_
  exact vx_runSW (n := 4) (As := [Value.ref xa, .int z0, .int z1, .ref oa]) S hM (vx_cwSW 4 hts hG rfl rfl rfl ⟨by decide +kernel, by decide +kernel, by decide +kernel⟩ hRR) ⟨e_blind (v_NF base), g_pre (v_NF base) X hw⟩ rfl rfl hl.1 rfl (lv_room (Nat.le_of_ble_eq_true rfl)) hd.1.1 ⟨by rw [hRc.1]; exact hce, by rw [hRc.2.1]; exact hsl⟩
theorem z_rm (hst : l.stackTraces = false) (B0 : zB (zE1 b base LS xs D tys l so ad)) (A : zA (zE1 b base LS xs D tys l so ad) gJ1) {oX oM oO oT ax am ao : Nat} (F : zFx (zE1 b base LS xs D tys l so ad) oX oM oO oT ax am ao) (hLS : LS ≤ 3072) : zRm (zE1 b base LS xs D tys l so ad) oM oT ax am ao := by
  intro i z ws ce sl K G hN
  obtain ⟨⟨x1, x2⟩, ⟨m1, m2⟩, ⟨o1, o2⟩, t1, t2⟩ := F
  obtain ⟨⟨i0, i6⟩, -, ⟨w1, w2, w3, w4⟩, hce, hsl⟩ := G
  have i6 : i.toInt + 6 ≤ (LS : Int) := i6
  have ix : ∀ n : Int32, 0 ≤ n.toInt → n.toInt ≤ 5 → (i + n).toInt = i.toInt + n.toInt := fun n h1 h2 => i_add (x := i) (y := n) (by omega) (by omega)
  have i1 := ix (Int32.ofInt 1) (by decide) (by decide)
  have i2 := ix (Int32.ofInt 2) (by decide) (by decide)
  have c1 : (Int32.ofInt 1).toInt = 1 := rfl
  have c2 : (Int32.ofInt 2).toInt = 2 := rfl
  rw [c1] at i1
  rw [c2] at i2
  refine g_aload (j := 1) (len := 1) (i := .aload_n 1) (Or.inr ⟨1, rfl, rfl, rfl⟩) (List.mem_of_getElem? (l := ga_297) (i := 113) (by decide +kernel)) (a := ax) (List.mem_cons_of_mem _ List.mem_cons_self) ?_
  refine g_aload (j := 0) (len := 1) (i := .aload_n 0) (Or.inr ⟨0, rfl, rfl, rfl⟩) (List.mem_of_getElem? (l := ga_297) (i := 114) (by decide +kernel)) (a := b) List.mem_cons_self ?_
  refine g_iload (j := 4) (len := 2) (i := .iload 4) (Or.inl ⟨rfl, rfl⟩) (List.mem_of_getElem? (l := ga_297) (i := 115) (by decide +kernel)) (z := i) (List.mem_cons_of_mem _ (List.mem_cons_of_mem _ (List.mem_cons_of_mem _ (List.mem_cons_of_mem _ List.mem_cons_self)))) ?_
  refine g_iconst (n := 1) (List.mem_of_getElem? (l := ga_297) (i := 116) (by decide +kernel)) ?_
  refine g_iadd (List.mem_of_getElem? (l := ga_297) (i := 117) (by decide +kernel)) ?_
  refine g_sld rfl (List.mem_of_getElem? (l := ga_297) (i := 118) (by decide +kernel)) (vp_of (lo := i.toInt + 1) (hi := i.toInt + 1) (by omega) (by omega) (by omega) (by omega)).1 ?_
  refine g_aload (j := 0) (len := 1) (i := .aload_n 0) (Or.inr ⟨0, rfl, rfl, rfl⟩) (List.mem_of_getElem? (l := ga_297) (i := 119) (by decide +kernel)) (a := b) List.mem_cons_self ?_
  refine g_iload (j := 4) (len := 2) (i := .iload 4) (Or.inl ⟨rfl, rfl⟩) (List.mem_of_getElem? (l := ga_297) (i := 120) (by decide +kernel)) (z := i) (List.mem_cons_of_mem _ (List.mem_cons_of_mem _ (List.mem_cons_of_mem _ (List.mem_cons_of_mem _ List.mem_cons_self)))) ?_
  refine g_iconst (n := 2) (List.mem_of_getElem? (l := ga_297) (i := 121) (by decide +kernel)) ?_
  refine g_iadd (List.mem_of_getElem? (l := ga_297) (i := 122) (by decide +kernel)) ?_
  refine g_sld rfl (List.mem_of_getElem? (l := ga_297) (i := 123) (by decide +kernel)) (vp_of (lo := i.toInt + 2) (hi := i.toInt + 2) (by omega) (by omega) (by omega) (by omega)).1 ?_
  refine g_aload (j := 3) (len := 1) (i := .aload_n 3) (Or.inr ⟨3, rfl, rfl, rfl⟩) (List.mem_of_getElem? (l := ga_297) (i := 124) (by decide +kernel)) (a := ao) (List.mem_cons_of_mem _ (List.mem_cons_of_mem _ (List.mem_cons_of_mem _ List.mem_cons_self))) ?_
  refine g_lroom (ce := ce) (sl := sl) hst B0 A w1 w2.1 x1 x2 o1 o2 _ _ (by omega) (by omega) (fun zr ws2 hk => ?_)
  refine g_istore (j := 5) (len := 2) (i := .istore 5) (Or.inl ⟨rfl, rfl⟩) (List.mem_of_getElem? (l := ga_297) (i := 126) (by decide +kernel)) ?_
  refine gG_sub ?_ (hN ws2 1 6 ⟨hk.1, ⟨hk.2.1, zTp_fr (md := [(77, 0, 1)]) (by decide +kernel) hk.2.2 w1 hk.1 w2.2.1, zTr_fr (md := [(77, 0, 1)]) (by decide +kernel) w2.2.1.1 hk.2.2 w2.2.2⟩, ?_, ?_⟩ (Nat.le_refl _) (Nat.le_refl _))
  · intro q hq
    exact List.mem_cons_of_mem _ hq
  · exact (hk.2.2 oT 7 1 t1 (fun q hq => by
      have e := List.mem_singleton.mp hq
      subst e
      exact fun h => absurd h.1 (by decide))).trans w3
  · exact (hk.2.2 oM 12 2 m1 (fun q hq => by
      have e := List.mem_singleton.mp hq
      subst e
      exact fun h => absurd h.1 (by decide))).trans w4
end RN
