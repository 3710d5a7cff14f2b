/-! THE CLASS'S IMAGES, and what is behind a TERRACE that was read: rows by sorts, contracts; then the methods. -/
noncomputable section
def mdR2 : aMd := [(1, 5, 10), (5, 2, 3), (6, 3, 5), (17, 0, 12), (18, 0, 6), (19, 0, 6), (20, 0, 6), (21, 0, 6)]
def mdR3 : aMd := [(1, 5, 10), (5, 2, 3), (6, 3, 5), (17, 0, 12), (18, 0, 6), (19, 0, 6), (20, 0, 6), (21, 0, 6), (31, 0, 40), (32, 0, 40)]
def mdIm : aMd := [(1, 5, 10), (6, 3, 5), (17, 0, 12), (18, 0, 6), (19, 0, 6), (20, 0, 6), (21, 0, 6), (31, 0, 40), (32, 0, 40)]
def md135 : aMd := gc_135_0.2.2.2
def md155 : aMd := gc_155_0.2.2.2
def cdS (E : zE) (md : aMd) (ws0 ws : va_W) : Prop := (wOk (zso E) (zad E) E.2.2.2.2.2.2.1 gST ws ∧ jOk (zso E) gJ1 ws) ∧ fRel (zso E) md ws0 ws ∧ zCs zcl ws0 ws
end
theorem cdS_rf {E : zE} {md : aMd} {ws : va_W} (hw : wOk (zso E) (zad E) E.2.2.2.2.2.2.1 gST ws) (hj : jOk (zso E) gJ1 ws) : cdS E md ws ws := ⟨⟨hw, hj⟩, fRel_refl, fun _ _ _ _ _ => rfl⟩
theorem cdS_up {E : zE} {md mods : aMd} {ws0 ws ws2 : va_W} (hE : zso E = zso0) (h : cdS E md ws0 ws) (w2 : wOk (zso E) (zad E) E.2.2.2.2.2.2.1 gST ws2) (j2 : jOk (zso E) gJ1 ws2) (hF : fRel (zso E) mods ws ws2) (hm : (amds md mods && mdz zcl zso0 mods) = true) : cdS E md ws0 ws2 := by
  rw [Bool.and_eq_true] at hm
  exact ⟨⟨w2, j2⟩, fRel_tr h.2.1 hF (amds_ok hm.1), zCs_tr h.2.2 (zCs_md hm.2 (by rw [← hE]; exact hF))⟩
section CD
variable {E : zE} {ws : va_W} {K : gK}
theorem g_getS (B : zB E) (hE : zso E = zso0) {mi : eM} {pc : Nat} {lv : List (Nat × Value)} {st : List Value} {ce sl : Nat} {K : gK} {idx : Nat} {q : Nat × Nat × Nat} (hm : (pc, .getfield idx, 3) ∈ mi.2.2.2.2.2.2) (hq : gFL mi.1 idx = some q) (hw : wOk (zso E) (zad E) E.2.2.2.2.2.2.1 gST ws) {o a t t2 : Nat} (ho : zso0[o]? = some t) (ha : (zad E)[o]? = some a) {fs0 : List aF} (hob : gST t = some (.inl (q.1, fs0))) (hf : fs0[q.2.1]? = some (.inr (.inl t2))) (h : ∀ o2 a2 : Nat, zso0[o2]? = some t2 → (zad E)[o2]? = some a2 → zgE E mi (pc + 3) lv (.ref a2 :: st) ws ce sl K) : zgE E mi pc lv (.ref a :: st) ws ce sl K := by
  obtain ⟨e, w1, k1⟩ := cw_at hE hw ho ha
  unfold eOk at k1
  rw [hob] at k1
  obtain ⟨fs, rfl, k2, k3⟩ := k1
  have x1 := List.getElem?_eq_getElem (show q.2.1 < fs.length by rw [k2]; exact (List.getElem?_eq_some_iff.mp hf).1)
  obtain ⟨o2, a2, p1, p2, p3⟩ := k3 _ _ _ hf x1
  rw [p3] at x1
  exact g_get B.2.2.1 hm hq w1 x1 (h o2 a2 p1 p2)
theorem g_aaldT (hE : zso E = zso0) {mi : eM} {pc : Nat} {lv : List (Nat × Value)} {st : List Value} {ce sl : Nat} {K : gK} (hm : (pc, .aaload, 1) ∈ mi.2.2.2.2.2.2) (hw : wOk (zso E) (zad E) E.2.2.2.2.2.2.1 gST ws) {o a t n : Nat} (ho : zso0[o]? = some t) (ha : (zad E)[o]? = some a) {rg : List (Nat × Int × Int)} {u : Nat} (hob : gST t = some (.inr (4, n, rg, u))) {i : Int32} (hi : 0 ≤ i.toInt ∧ i.toInt < (n : Int)) (h : ∀ o2 a2 : Nat, zso0[o2]? = some u → (zad E)[o2]? = some a2 → gcv ws o i.toInt.toNat = some (.ref a2) → zgE E mi (pc + 1) lv (.ref a2 :: st) ws ce sl K) : zgE E mi pc lv (.int i :: .ref a :: st) ws ce sl K := by
  obtain ⟨e1, w1, k1⟩ := cw_at hE hw ho ha
  unfold eOk at k1
  rw [hob] at k1
  rcases k1 with ⟨q1, -⟩ | ⟨q1, -⟩ | ⟨-, cA, C, f, t6, rfl, q1, q2⟩
  · exact absurd q1 (by decide : ¬ (4 : Nat) < 3)
  · exact absurd q1 (by decide : ¬ (4 : Nat) = 3)
  · obtain ⟨o2, a2, p1, p2, p3⟩ := q2 i.toInt.toNat (by show i.toInt.toNat < n; omega)
    have hg : gcv ws o i.toInt.toNat = some (.ref a2) := by
      rw [gcv_at w1]
      show (if i.toInt.toNat < n then some (va_rf (f i.toInt.toNat)) else none) = _
      rw [if_pos (by omega), p3]
      rfl
    refine g_aald hm w1 q1 (vp_of (lo := i.toInt) (hi := i.toInt) (Int.le_refl _) (Int.le_refl _) hi.1 (by show i.toInt + 1 ≤ (n : Int); omega)).1 ?_
    rw [i_clamp, p3]
    exact h o2 a2 p1 p2 hg
theorem z_136f {a b : Int32} (h0 : a.toInt < 0 ∨ b.toInt ≤ a.toInt) (h : K (some (.int 0)) ws) : zgE E gm_136 0 (lv_args 0 [.int a, .int b]) [] ws 0 0 K := by
  have hend : zgE E gm_136 13 (lv_args 0 [.int a, .int b]) [] ws 0 0 K := by
    refine g_iconst (n := 0) (List.mem_of_getElem? (l := ga_136) (i := 7) (by decide +kernel)) ?_
    exact g_ireturn (List.mem_of_getElem? (l := ga_136) (i := 8) (by decide +kernel)) (Or.inr ⟨Or.inl rfl, Or.inl rfl⟩) (by decide) (by decide) h
  refine g_iload (j := 0) (len := 1) (i := .iload_n 0) (Or.inr ⟨0, rfl, rfl, rfl⟩) (List.mem_of_getElem? (l := ga_136) (i := 0) (by decide +kernel)) (z := a) List.mem_cons_self ?_
  refine g_ifc (cd := .lt) (off := 12) (t := 13) (List.mem_of_getElem? (l := ga_136) (i := 1) (by decide +kernel)) rfl (fun _ => hend) (fun hc => ?_)
  refine g_iload (j := 0) (len := 1) (i := .iload_n 0) (Or.inr ⟨0, rfl, rfl, rfl⟩) (List.mem_of_getElem? (l := ga_136) (i := 2) (by decide +kernel)) (z := a) List.mem_cons_self ?_
  refine g_iload (j := 1) (len := 1) (i := .iload_n 1) (Or.inr ⟨1, rfl, rfl, rfl⟩) (List.mem_of_getElem? (l := ga_136) (i := 3) (by decide +kernel)) (z := b) (List.mem_cons_of_mem _ List.mem_cons_self) ?_
  refine g_icmp (cd := .ge) (off := 7) (t := 13) (List.mem_of_getElem? (l := ga_136) (i := 4) (by decide +kernel)) rfl (fun _ => hend) (fun hc2 => ?_)
  have hc : ¬ a < 0 := hc
  have hc2 : ¬ b ≤ a := hc2
  rw [Int32.lt_iff_toInt_lt] at hc
  rw [Int32.le_iff_toInt_le] at hc2
  have : (0 : Int32).toInt = 0 := rfl
  omega
/-- has, bit: as the machine makes them -/
theorem z_132 {a b : Int32} (h : K (some (.int (if (a >>> (b &&& 31)) &&& 1 = 0 then 0 else 1))) ws) : zgE E gm_132 0 (lv_args 0 [.int a, .int b]) [] ws 0 0 K := by
  refine g_iload (j := 0) (len := 1) (i := .iload_n 0) (Or.inr ⟨0, rfl, rfl, rfl⟩) (List.mem_of_getElem? (l := ga_132) (i := 0) (by decide +kernel)) (z := a) List.mem_cons_self ?_
  refine g_iload (j := 1) (len := 1) (i := .iload_n 1) (Or.inr ⟨1, rfl, rfl, rfl⟩) (List.mem_of_getElem? (l := ga_132) (i := 1) (by decide +kernel)) (z := b) (List.mem_cons_of_mem _ List.mem_cons_self) ?_
  refine g_ishr (List.mem_of_getElem? (l := ga_132) (i := 2) (by decide +kernel)) ?_
  refine g_iconst (n := 1) (List.mem_of_getElem? (l := ga_132) (i := 3) (by decide +kernel)) ?_
  refine g_iand (List.mem_of_getElem? (l := ga_132) (i := 4) (by decide +kernel)) ?_
  refine g_ifc (cd := .eq) (off := 7) (t := 12) (List.mem_of_getElem? (l := ga_132) (i := 5) (by decide +kernel)) rfl (fun hc => ?_) (fun hc => ?_)
  · rw [if_pos (show (a >>> (b &&& 31)) &&& 1 = 0 from hc)] at h
    refine g_iconst (n := 0) (List.mem_of_getElem? (l := ga_132) (i := 8) (by decide +kernel)) ?_
    exact g_ireturn (List.mem_of_getElem? (l := ga_132) (i := 9) (by decide +kernel)) (Or.inr ⟨Or.inl rfl, Or.inl rfl⟩) (by decide) (by decide) h
  · rw [if_neg (show ¬ (a >>> (b &&& 31)) &&& 1 = 0 from hc)] at h
    refine g_iconst (n := 1) (List.mem_of_getElem? (l := ga_132) (i := 6) (by decide +kernel)) ?_
    refine g_goto (off := 4) (t := 13) (List.mem_of_getElem? (l := ga_132) (i := 7) (by decide +kernel)) rfl ?_
    exact g_ireturn (List.mem_of_getElem? (l := ga_132) (i := 9) (by decide +kernel)) (Or.inr ⟨Or.inl rfl, Or.inr rfl⟩) (by decide) (by decide) h
theorem z_115 {a : Int32} (h : K (some (.int (1 <<< (a &&& 31)))) ws) : zgE E gm_115 0 (lv_args 0 [.int a]) [] ws 0 0 K := by
  refine g_iconst (n := 1) (List.mem_of_getElem? (l := ga_115) (i := 0) (by decide +kernel)) ?_
  refine g_iload (j := 0) (len := 1) (i := .iload_n 0) (Or.inr ⟨0, rfl, rfl, rfl⟩) (List.mem_of_getElem? (l := ga_115) (i := 1) (by decide +kernel)) (z := a) List.mem_cons_self ?_
  refine g_ishl (List.mem_of_getElem? (l := ga_115) (i := 2) (by decide +kernel)) ?_
  exact g_ireturn (List.mem_of_getElem? (l := ga_115) (i := 3) (by decide +kernel)) (Or.inl rfl) (by decide) (by decide) h
/-- Sentence.copyFrom -/
theorem z_49 (B : zB E) (A : zA E gJ1) (hE : zso E = zso0) {oT oO aT aO : Nat} (hw : wOk (zso E) (zad E) E.2.2.2.2.2.2.1 gST ws) (hj : jOk (zso E) gJ1 ws) (sT : zso0[oT]? = some 6) (sO : zso0[oO]? = some 6) (dT : (zad E)[oT]? = some aT) (dO : (zad E)[oO]? = some aO) (h : ∀ ws2 : va_W, cdS E [(6, 3, 5), (31, 0, 40), (32, 0, 40)] ws ws2 → K none ws2) : zgE E gm_49 0 (lv_args 0 [.ref aT, .ref aO]) [] ws 0 0 K := by
  have S0 : cdS E [(6, 3, 5), (31, 0, 40), (32, 0, 40)] ws ws := cdS_rf hw hj
  refine g_aload (j := 1) (len := 1) (i := .aload_n 1) (Or.inr ⟨1, rfl, rfl, rfl⟩) (List.mem_of_getElem? (l := ga_49) (i := 0) (by decide +kernel)) (a := aO) (List.mem_cons_of_mem _ List.mem_cons_self) ?_
  refine g_getS B hE (idx := 11) (t := 6) (o := oO) (List.mem_of_getElem? (l := ga_49) (i := 1) (by decide +kernel)) (q := (6, 0, 12)) (by decide +kernel) S0.1.1 sO dO rfl rfl (fun oO0 aO0 sO0 dO0 => ?_)
  refine g_iconst (n := 0) (List.mem_of_getElem? (l := ga_49) (i := 2) (by decide +kernel)) ?_
  refine g_aload (j := 0) (len := 1) (i := .aload_n 0) (Or.inr ⟨0, rfl, rfl, rfl⟩) (List.mem_of_getElem? (l := ga_49) (i := 3) (by decide +kernel)) (a := aT) List.mem_cons_self ?_
  refine g_getS B hE (idx := 11) (t := 6) (o := oT) (List.mem_of_getElem? (l := ga_49) (i := 4) (by decide +kernel)) (q := (6, 0, 12)) (by decide +kernel) S0.1.1 sT dT rfl rfl (fun oT0 aT0 sT0 dT0 => ?_)
  refine g_iconst (n := 0) (List.mem_of_getElem? (l := ga_49) (i := 5) (by decide +kernel)) ?_
  refine g_bipush (n := 40) (List.mem_of_getElem? (l := ga_49) (i := 6) (by decide +kernel)) ?_
  refine g_cpI A.1 hE (idx := 28) (x := 0) (m := 5) (by decide +kernel) (List.mem_of_getElem? (l := ga_49) (i := 7) (by decide +kernel)) (o1 := oO0) (o2 := oT0) (t := 31) (n := 40) sO0 sT0 dO0 dT0 rfl S0.1.1 S0.1.2 (cj_no (by decide +kernel)) (by decide) (by decide) rfl (by decide) (by decide) (fun ws1 w1 j1 f1 c1 F1 => ?_)
  have S1 := cdS_up hE S0 w1 j1 F1 (by decide +kernel)
  refine g_aload (j := 1) (len := 1) (i := .aload_n 1) (Or.inr ⟨1, rfl, rfl, rfl⟩) (List.mem_of_getElem? (l := ga_49) (i := 8) (by decide +kernel)) (a := aO) (List.mem_cons_of_mem _ List.mem_cons_self) ?_
  refine g_getS B hE (idx := 15) (t := 6) (o := oO) (List.mem_of_getElem? (l := ga_49) (i := 9) (by decide +kernel)) (q := (6, 1, 12)) (by decide +kernel) S1.1.1 sO dO rfl rfl (fun oO1 aO1 sO1 dO1 => ?_)
  refine g_iconst (n := 0) (List.mem_of_getElem? (l := ga_49) (i := 10) (by decide +kernel)) ?_
  refine g_aload (j := 0) (len := 1) (i := .aload_n 0) (Or.inr ⟨0, rfl, rfl, rfl⟩) (List.mem_of_getElem? (l := ga_49) (i := 11) (by decide +kernel)) (a := aT) List.mem_cons_self ?_
  refine g_getS B hE (idx := 15) (t := 6) (o := oT) (List.mem_of_getElem? (l := ga_49) (i := 12) (by decide +kernel)) (q := (6, 1, 12)) (by decide +kernel) S1.1.1 sT dT rfl rfl (fun oT1 aT1 sT1 dT1 => ?_)
  refine g_iconst (n := 0) (List.mem_of_getElem? (l := ga_49) (i := 13) (by decide +kernel)) ?_
  refine g_bipush (n := 40) (List.mem_of_getElem? (l := ga_49) (i := 14) (by decide +kernel)) ?_
  refine g_cpI A.1 hE (idx := 28) (x := 0) (m := 5) (by decide +kernel) (List.mem_of_getElem? (l := ga_49) (i := 15) (by decide +kernel)) (o1 := oO1) (o2 := oT1) (t := 32) (n := 40) sO1 sT1 dO1 dT1 rfl S1.1.1 S1.1.2 (cj_no (by decide +kernel)) (by decide) (by decide) rfl (by decide) (by decide) (fun ws2 w2 j2 f2 c2 F2 => ?_)
  have S2 := cdS_up hE S1 w2 j2 F2 (by decide +kernel)
  obtain ⟨y3, hy3, r3⟩ := cf_int hE S2.1.1 sO (f := 3) (lo := .ofNat 0) (hi := .ofNat 40) ⟨_, rfl, rfl⟩
  refine g_aload (j := 0) (len := 1) (i := .aload_n 0) (Or.inr ⟨0, rfl, rfl, rfl⟩) (List.mem_of_getElem? (l := ga_49) (i := 16) (by decide +kernel)) (a := aT) List.mem_cons_self ?_
  refine g_aload (j := 1) (len := 1) (i := .aload_n 1) (Or.inr ⟨1, rfl, rfl, rfl⟩) (List.mem_of_getElem? (l := ga_49) (i := 17) (by decide +kernel)) (a := aO) (List.mem_cons_of_mem _ List.mem_cons_self) ?_
  refine g_getT B hE (idx := 21) (t := 6) (o := oO) (List.mem_of_getElem? (l := ga_49) (i := 18) (by decide +kernel)) (q := (6, 3, 0)) (by decide +kernel) S2.1.1 sO dO ⟨_, rfl⟩ hy3 ?_
  refine g_putT B hE (idx := 21) (t := 6) (o := oT) (List.mem_of_getElem? (l := ga_49) (i := 19) (by decide +kernel)) (q := (6, 3, 0)) (by decide +kernel) (by decide) S2.1.1 S2.1.2 sT dT rfl rfl r3 (Or.inl ⟨rfl, _, rfl⟩) (cj_no (by decide +kernel)) (fun ws3 w3 j3 f3 c3 F3 => ?_)
  have S3 := cdS_up hE S2 w3 j3 F3 (by decide +kernel)
  obtain ⟨y4, hy4, r4⟩ := cf_int hE S3.1.1 sO (f := 4) (lo := .ofNat 0) (hi := .ofNat 20) ⟨_, rfl, rfl⟩
  refine g_aload (j := 0) (len := 1) (i := .aload_n 0) (Or.inr ⟨0, rfl, rfl, rfl⟩) (List.mem_of_getElem? (l := ga_49) (i := 20) (by decide +kernel)) (a := aT) List.mem_cons_self ?_
  refine g_aload (j := 1) (len := 1) (i := .aload_n 1) (Or.inr ⟨1, rfl, rfl, rfl⟩) (List.mem_of_getElem? (l := ga_49) (i := 21) (by decide +kernel)) (a := aO) (List.mem_cons_of_mem _ List.mem_cons_self) ?_
  refine g_getT B hE (idx := 25) (t := 6) (o := oO) (List.mem_of_getElem? (l := ga_49) (i := 22) (by decide +kernel)) (q := (6, 4, 0)) (by decide +kernel) S3.1.1 sO dO ⟨_, rfl⟩ hy4 ?_
  refine g_putT B hE (idx := 25) (t := 6) (o := oT) (List.mem_of_getElem? (l := ga_49) (i := 23) (by decide +kernel)) (q := (6, 4, 0)) (by decide +kernel) (by decide) S3.1.1 S3.1.2 sT dT rfl rfl r4 (Or.inl ⟨rfl, _, rfl⟩) (cj_no (by decide +kernel)) (fun ws4 w4 j4 f4 c4 F4 => ?_)
  have S4 := cdS_up hE S3 w4 j4 F4 (by decide +kernel)
  exact g_return (List.mem_of_getElem? (l := ga_49) (i := 24) (by decide +kernel)) rfl (by decide) (by decide) (h _ S4)
/-- forget, of a Sentence, of the Past -/
theorem z_50 (B : zB E) (A : zA E gJ1) (hE : zso E = zso0) {oT aT : Nat} (hw : wOk (zso E) (zad E) E.2.2.2.2.2.2.1 gST ws) (hj : jOk (zso E) gJ1 ws) (sT : zso0[oT]? = some 6) (dT : (zad E)[oT]? = some aT) (h : ∀ ws2 : va_W, cdS E [(6, 3, 5)] ws ws2 → K none ws2) : zgE E gm_50 0 (lv_args 0 [.ref aT]) [] ws 0 0 K := by
  have S0 : cdS E [(6, 3, 5)] ws ws := cdS_rf hw hj
  refine g_aload (j := 0) (len := 1) (i := .aload_n 0) (Or.inr ⟨0, rfl, rfl, rfl⟩) (List.mem_of_getElem? (l := ga_50) (i := 0) (by decide +kernel)) (a := aT) List.mem_cons_self ?_
  refine g_iconst (n := 0) (List.mem_of_getElem? (l := ga_50) (i := 1) (by decide +kernel)) ?_
  refine g_putT B hE (idx := 21) (t := 6) (o := oT) (List.mem_of_getElem? (l := ga_50) (i := 2) (by decide +kernel)) (q := (6, 3, 0)) (by decide +kernel) (by decide) S0.1.1 S0.1.2 sT dT rfl rfl (by decide) (Or.inl ⟨rfl, _, rfl⟩) (cj_no (by decide +kernel)) (fun ws1 w1 j1 f1 c1 F1 => ?_)
  have S1 := cdS_up hE S0 w1 j1 F1 (by decide +kernel)
  refine g_aload (j := 0) (len := 1) (i := .aload_n 0) (Or.inr ⟨0, rfl, rfl, rfl⟩) (List.mem_of_getElem? (l := ga_50) (i := 3) (by decide +kernel)) (a := aT) List.mem_cons_self ?_
  refine g_iconst (n := 0) (List.mem_of_getElem? (l := ga_50) (i := 4) (by decide +kernel)) ?_
  refine g_putT B hE (idx := 25) (t := 6) (o := oT) (List.mem_of_getElem? (l := ga_50) (i := 5) (by decide +kernel)) (q := (6, 4, 0)) (by decide +kernel) (by decide) S1.1.1 S1.1.2 sT dT rfl rfl (by decide) (Or.inl ⟨rfl, _, rfl⟩) (cj_no (by decide +kernel)) (fun ws2 w2 j2 f2 c2 F2 => ?_)
  have S2 := cdS_up hE S1 w2 j2 F2 (by decide +kernel)
  exact g_return (List.mem_of_getElem? (l := ga_50) (i := 6) (by decide +kernel)) rfl (by decide) (by decide) (h _ S2)
theorem z_44 (B : zB E) (A : zA E gJ1) (hE : zso E = zso0) {oT aT : Nat} (hw : wOk (zso E) (zad E) E.2.2.2.2.2.2.1 gST ws) (hj : jOk (zso E) gJ1 ws) (sT : zso0[oT]? = some 5) (dT : (zad E)[oT]? = some aT) (h : ∀ ws2 : va_W, cdS E [(5, 2, 3)] ws ws2 → K none ws2) : zgE E gm_44 0 (lv_args 0 [.ref aT]) [] ws 0 0 K := by
  have S0 : cdS E [(5, 2, 3)] ws ws := cdS_rf hw hj
  refine g_aload (j := 0) (len := 1) (i := .aload_n 0) (Or.inr ⟨0, rfl, rfl, rfl⟩) (List.mem_of_getElem? (l := ga_44) (i := 0) (by decide +kernel)) (a := aT) List.mem_cons_self ?_
  refine g_iconst (n := 0) (List.mem_of_getElem? (l := ga_44) (i := 1) (by decide +kernel)) ?_
  refine g_putT B hE (idx := 22) (t := 5) (o := oT) (List.mem_of_getElem? (l := ga_44) (i := 2) (by decide +kernel)) (q := (5, 2, 0)) (by decide +kernel) (by decide) S0.1.1 S0.1.2 sT dT rfl rfl (by decide) (Or.inl ⟨rfl, _, rfl⟩) (cj_no (by decide +kernel)) (fun ws1 w1 j1 f1 c1 F1 => ?_)
  have S1 := cdS_up hE S0 w1 j1 F1 (by decide +kernel)
  exact g_return (List.mem_of_getElem? (l := ga_44) (i := 3) (by decide +kernel)) rfl (by decide) (by decide) (h _ S1)
/-- behind a TERRACE that was read and copied -/
theorem z165t (B : zB E) (A : zA E gJ1) (hE : zso E = zso0) {ax : Nat} (hx : (zad E)[0]? = some ax) (hw : wOk (zso E) (zad E) E.2.2.2.2.2.2.1 gST ws) (hj : jOk (zso E) gJ1 ws) {z : Int32} {lv : List (Nat × Value)} (l0 : (0, Value.ref ax) ∈ lv) (l1 : (1, Value.int z) ∈ lv) (h : ∀ ws2 : va_W, cdS E mdR2 ws ws2 → K (some (.int z)) ws2) : zgE E gm_165 48 lv [] ws 0 0 K := by
  have S0 : cdS E mdR2 ws ws := cdS_rf hw hj
  refine g_aload (j := 0) (len := 1) (i := .aload_n 0) (Or.inr ⟨0, rfl, rfl, rfl⟩) (List.mem_of_getElem? (l := ga_165) (i := 24) (by decide +kernel)) (a := ax) l0 ?_
  refine g_getS B hE (idx := 26) (t := 11) (o := 0) (List.mem_of_getElem? (l := ga_165) (i := 25) (by decide +kernel)) (q := (11, 2, 12)) (by decide +kernel) S0.1.1 rfl hx rfl rfl (fun oT aT sT dT => ?_)
  refine g_aload (j := 0) (len := 1) (i := .aload_n 0) (Or.inr ⟨0, rfl, rfl, rfl⟩) (List.mem_of_getElem? (l := ga_165) (i := 26) (by decide +kernel)) (a := ax) l0 ?_
  refine g_getS B hE (idx := 53) (t := 11) (o := 0) (List.mem_of_getElem? (l := ga_165) (i := 27) (by decide +kernel)) (q := (11, 7, 12)) (by decide +kernel) S0.1.1 rfl hx rfl rfl (fun oR aR sR dR => ?_)
  refine g_getS B hE (idx := 126) (t := 9) (o := oR) (List.mem_of_getElem? (l := ga_165) (i := 28) (by decide +kernel)) (q := (9, 1, 22)) (by decide +kernel) S0.1.1 sR dR rfl rfl (fun oO aO sO dO => ?_)
  obtain ⟨fsD, hfsD⟩ := cw_ob hE S0.1.1 (o := oT) (t := 1) (c := 1) sT dT ⟨_, rfl, rfl⟩
  obtain ⟨yN1, cc1, ret1, ok1, lk1, hcls1⟩ := B.2.2.2.1 11 129 1 11 2 (by decide +kernel) (Or.inr (Or.inr (Or.inl rfl))) (gm_11, 2) rfl
  refine g_call B.1 B.2.1 ok1 (mi := gm_165) lk1 hcls1 (i := .invokevirtual 129) (Or.inr ⟨rfl, Or.inl rfl⟩) (pc := 59) (asx := [.ref aT, .ref aO]) (rx := []) (List.mem_of_getElem? (l := ga_165) (i := 29) (by decide +kernel)) ⟨by decide, by decide, by decide, by decide, Nat.le_of_ble_eq_true rfl, Nat.le_of_ble_eq_true rfl⟩ rfl rfl (fun _ => ⟨oT, aT, fsD, _, rfl, hfsD⟩) ?_
  refine gG_mono (fun rv ws1 ⟨w1, j1, F1, al1, b1, c1, _⟩ => ?_) (zc_11_0 B A _ ws S0.1.1 S0.1.2 ⟨⟨oT, aT, by rw [hE]; exact sT, dT, rfl⟩, ⟨oO, aO, by rw [hE]; exact sO, dO, rfl⟩, trivial⟩)
  have e1 : rv = none := by
    rw [List.mem_singleton.mp b1] at c1
    cases rv with
    | none => rfl
    | some _ => exact absurd c1 id
  subst e1
  have S1 := cdS_up hE S0 w1 j1 F1 (by decide +kernel)
  refine g_aload (j := 0) (len := 1) (i := .aload_n 0) (Or.inr ⟨0, rfl, rfl, rfl⟩) (List.mem_of_getElem? (l := ga_165) (i := 30) (by decide +kernel)) (a := ax) l0 ?_
  refine g_getS B hE (idx := 43) (t := 11) (o := 0) (List.mem_of_getElem? (l := ga_165) (i := 31) (by decide +kernel)) (q := (11, 5, 12)) (by decide +kernel) S1.1.1 rfl hx rfl rfl (fun oQ aQ sQ dQ => ?_)
  obtain ⟨fsQ, hfsQ⟩ := cw_ob hE S1.1.1 (o := oQ) (t := 6) (c := 6) sQ dQ ⟨_, rfl, rfl⟩
  obtain ⟨yN2, cc2, ret2, ok2, lk2, hcls2⟩ := B.2.2.2.1 11 132 1 50 1 (by decide +kernel) (Or.inr (Or.inr (Or.inl rfl))) (gm_50, 1) rfl
  refine g_call B.1 B.2.1 ok2 (mi := gm_165) lk2 hcls2 (i := .invokevirtual 132) (Or.inr ⟨rfl, Or.inl rfl⟩) (pc := 66) (asx := [.ref aQ]) (rx := []) (List.mem_of_getElem? (l := ga_165) (i := 32) (by decide +kernel)) ⟨by decide, by decide, by decide, by decide, Nat.le_of_ble_eq_true rfl, Nat.le_of_ble_eq_true rfl⟩ rfl rfl (fun _ => ⟨oQ, aQ, fsQ, _, rfl, hfsQ⟩) ?_
  refine z_50 B A hE S1.1.1 S1.1.2 sQ dQ (fun ws2 T2 => ?_)
  have S2 := cdS_up hE S1 T2.1.1 T2.1.2 T2.2.1 (by decide +kernel)
  refine g_aload (j := 0) (len := 1) (i := .aload_n 0) (Or.inr ⟨0, rfl, rfl, rfl⟩) (List.mem_of_getElem? (l := ga_165) (i := 33) (by decide +kernel)) (a := ax) l0 ?_
  refine g_getS B hE (idx := 36) (t := 11) (o := 0) (List.mem_of_getElem? (l := ga_165) (i := 34) (by decide +kernel)) (q := (11, 4, 12)) (by decide +kernel) S2.1.1 rfl hx rfl rfl (fun oU aU sU dU => ?_)
  obtain ⟨fsU, hfsU⟩ := cw_ob hE S2.1.1 (o := oU) (t := 5) (c := 5) sU dU ⟨_, rfl, rfl⟩
  obtain ⟨yN3, cc3, ret3, ok3, lk3, hcls3⟩ := B.2.2.2.1 11 135 1 44 1 (by decide +kernel) (Or.inr (Or.inr (Or.inl rfl))) (gm_44, 1) rfl
  refine g_call B.1 B.2.1 ok3 (mi := gm_165) lk3 hcls3 (i := .invokevirtual 135) (Or.inr ⟨rfl, Or.inl rfl⟩) (pc := 73) (asx := [.ref aU]) (rx := []) (List.mem_of_getElem? (l := ga_165) (i := 35) (by decide +kernel)) ⟨by decide, by decide, by decide, by decide, Nat.le_of_ble_eq_true rfl, Nat.le_of_ble_eq_true rfl⟩ rfl rfl (fun _ => ⟨oU, aU, fsU, _, rfl, hfsU⟩) ?_
  refine z_44 B A hE S2.1.1 S2.1.2 sU dU (fun ws3 T3 => ?_)
  have S3 := cdS_up hE S2 T3.1.1 T3.1.2 T3.2.1 (by decide +kernel)
  refine g_iload (j := 1) (len := 1) (i := .iload_n 1) (Or.inr ⟨1, rfl, rfl, rfl⟩) (List.mem_of_getElem? (l := ga_165) (i := 36) (by decide +kernel)) (z := z) l1 ?_
  exact g_ireturn (List.mem_of_getElem? (l := ga_165) (i := 37) (by decide +kernel)) (Or.inl rfl) (by decide) (by decide) (h _ S3)
theorem cpT_of {T : Nat} (hT : T = 4 ∨ T = 90 ∨ T = 129 ∨ T = 148) (g : zRf E ws) : cpT E T ws := by
  rcases hT with rfl | rfl | rfl | rfl
  · exact ⟨⟨by decide, by decide⟩, fun j hj => g (4, j, 4 + 1 + j) ((by decide : ∀ j, j < 8 → (4, j, 4 + 1 + j) ∈ zrfl) j hj)⟩
  · exact ⟨⟨by decide, by decide⟩, fun j hj => g (90, j, 90 + 1 + j) ((by decide : ∀ j, j < 8 → (90, j, 90 + 1 + j) ∈ zrfl) j hj)⟩
  · exact ⟨⟨by decide, by decide⟩, fun j hj => g (129, j, 129 + 1 + j) ((by decide : ∀ j, j < 8 → (129, j, 129 + 1 + j) ∈ zrfl) j hj)⟩
  · exact ⟨⟨by decide, by decide⟩, fun j hj => g (148, j, 148 + 1 + j) ((by decide : ∀ j, j < 8 → (148, j, 148 + 1 + j) ∈ zrfl) j hj)⟩
/-- image: no such one -/
theorem z_135o (B : zB E) (A : zA E gJ1) (hE : zso E = zso0) {ax : Nat} {k : Int32} (hk : k.toInt < 0 ∨ 1 < k.toInt) (h : K (some (.int 0)) ws) : zgE E gm_135 0 (lv_args 0 [.ref ax, .int k]) [] ws 0 0 K := by
  refine g_iload (j := 1) (len := 1) (i := .iload_n 1) (Or.inr ⟨1, rfl, rfl, rfl⟩) (List.mem_of_getElem? (l := ga_135) (i := 0) (by decide +kernel)) (z := k) (List.mem_cons_of_mem _ List.mem_cons_self) ?_
  refine g_iconst (n := 2) (List.mem_of_getElem? (l := ga_135) (i := 1) (by decide +kernel)) ?_
  obtain ⟨yN1, cc1, ret1, ok1, lk1, hcls1⟩ := B.2.2.2.1 11 294 0 136 2 (by decide +kernel) (Or.inl rfl) (gm_136, 2) rfl
  refine g_call B.1 B.2.1 ok1 (mi := gm_135) lk1 hcls1 (i := .invokestatic 294) (Or.inl ⟨rfl, Or.inl rfl⟩) (pc := 2) (asx := [.int k, .int (Int32.ofInt 2)]) (rx := []) (List.mem_of_getElem? (l := ga_135) (i := 2) (by decide +kernel)) ⟨by decide, by decide, by decide, by decide, Nat.le_of_ble_eq_true rfl, Nat.le_of_ble_eq_true rfl⟩ rfl rfl (fun q => absurd q (by decide)) ?_
  refine z_136f (by show k.toInt < 0 ∨ (2 : Int) ≤ k.toInt; omega) ?_
  refine g_ifc (cd := .ne) (off := 5) (t := 10) (List.mem_of_getElem? (l := ga_135) (i := 3) (by decide +kernel)) rfl (fun hc => absurd (show (0 : Int32) = 0 from rfl) hc) (fun _ => ?_)
  refine g_iconst (n := 0) (List.mem_of_getElem? (l := ga_135) (i := 4) (by decide +kernel)) ?_
  exact g_ireturn (List.mem_of_getElem? (l := ga_135) (i := 5) (by decide +kernel)) (Or.inr ⟨Or.inl rfl, Or.inl rfl⟩) (by decide) (by decide) h
/-- image -/
theorem z_135 (B : zB E) (A : zA E gJ1) (hE : zso E = zso0) {ax aT T kk : Nat} {k y : Int32} (hx : (zad E)[0]? = some ax) (hkT : (kk = 0 ∧ T = 129) ∨ (kk = 1 ∧ T = 148)) (hk : k.toInt = (kk : Int)) (hw : wOk (zso E) (zad E) E.2.2.2.2.2.2.1 gST ws) (hj : jOk (zso E) gJ1 ws) (hR : zRf E ws) (hy : gcv ws 0 16 = some (.int y)) (haT : (zad E)[T]? = some aT) (hg : gcv ws 126 kk = some (.ref aT))
    (h : ∀ ws2 : va_W, wOk (zso E) (zad E) E.2.2.2.2.2.2.1 gST ws2 → jOk (zso E) gJ1 ws2 → fRel (zso E) md135 ws ws2 → (∀ j i : Nat, j < 4 → i < 12 → gcv ws2 (T + 1 + j) i = gcv ws (4 + 1 + j) i) → (∀ i : Nat, i = 8 ∨ i = 9 → gcv ws2 T i = gcv ws 4 i) → (∀ q ∈ zcl, ∀ i : Nat, q.2.1 ≤ i → i < q.2.2 → ¬ (T < q.1 ∧ q.1 ≤ T + 8) → ¬ (q.1 = T ∧ (i = 8 ∨ i = 9)) → ¬ (q.1 = 0 ∧ i = 16) → gcv ws2 q.1 i = gcv ws q.1 i) → gcv ws2 0 16 = some (.int (y ||| 1 <<< (k &&& 31))) → K (some (.int 1)) ws2) : zgE E gm_135 0 (lv_args 0 [.ref ax, .int k]) [] ws 0 0 K := by
  have hT : cpT E T ws := cpT_of (by omega) hR
  have hO : cpT E 4 ws := cpT_of (by omega) hR
  obtain ⟨a4, d4, r4⟩ := zRf_at hR (o := 0) (i := 1) (o2 := 4) (by decide)
  obtain ⟨a126, d126, r126⟩ := zRf_at hR (o := 0) (i := 13) (o2 := 126) (by decide)
  have hkk : k.toInt.toNat = kk := by omega
  refine g_iload (j := 1) (len := 1) (i := .iload_n 1) (Or.inr ⟨1, rfl, rfl, rfl⟩) (List.mem_of_getElem? (l := ga_135) (i := 0) (by decide +kernel)) (z := k) (List.mem_cons_of_mem _ List.mem_cons_self) ?_
  refine g_iconst (n := 2) (List.mem_of_getElem? (l := ga_135) (i := 1) (by decide +kernel)) ?_
  obtain ⟨yN1, cc1, ret1, ok1, lk1, hcls1⟩ := B.2.2.2.1 11 294 0 136 2 (by decide +kernel) (Or.inl rfl) (gm_136, 2) rfl
  refine g_call B.1 B.2.1 ok1 (mi := gm_135) lk1 hcls1 (i := .invokestatic 294) (Or.inl ⟨rfl, Or.inl rfl⟩) (pc := 2) (asx := [.int k, .int (Int32.ofInt 2)]) (rx := []) (List.mem_of_getElem? (l := ga_135) (i := 2) (by decide +kernel)) ⟨by decide, by decide, by decide, by decide, Nat.le_of_ble_eq_true rfl, Nat.le_of_ble_eq_true rfl⟩ rfl rfl (fun q => absurd q (by decide)) ?_
  refine z_136t (by omega) (by show k.toInt < (2 : Int); omega) ?_
  refine g_ifc (cd := .ne) (off := 5) (t := 10) (List.mem_of_getElem? (l := ga_135) (i := 3) (by decide +kernel)) rfl (fun _ => ?_) (fun hc => absurd (show ¬ (1 : Int32) = 0 from by decide) hc)
  refine g_aload (j := 0) (len := 1) (i := .aload_n 0) (Or.inr ⟨0, rfl, rfl, rfl⟩) (List.mem_of_getElem? (l := ga_135) (i := 6) (by decide +kernel)) (a := ax) List.mem_cons_self ?_
  refine g_getT B hE (idx := 92) (t := 11) (o := 0) (List.mem_of_getElem? (l := ga_135) (i := 7) (by decide +kernel)) (q := (11, 13, 12)) (by decide +kernel) hw rfl hx ⟨_, rfl⟩ r126 ?_
  refine g_iload (j := 1) (len := 1) (i := .iload_n 1) (Or.inr ⟨1, rfl, rfl, rfl⟩) (List.mem_of_getElem? (l := ga_135) (i := 8) (by decide +kernel)) (z := k) (List.mem_cons_of_mem _ List.mem_cons_self) ?_
  refine g_aaldT hE (t := 48) (o := 126) (n := 2) (List.mem_of_getElem? (l := ga_135) (i := 9) (by decide +kernel)) hw rfl d126 rfl ⟨by omega, by show k.toInt < (2 : Int); omega⟩ (fun oI aI sI dI gI => ?_)
  have eI : aI = aT := by rw [hkk, hg] at gI; cases gI; rfl
  subst eI
  refine g_aload (j := 0) (len := 1) (i := .aload_n 0) (Or.inr ⟨0, rfl, rfl, rfl⟩) (List.mem_of_getElem? (l := ga_135) (i := 10) (by decide +kernel)) (a := ax) List.mem_cons_self ?_
  refine g_getT B hE (idx := 19) (t := 11) (o := 0) (List.mem_of_getElem? (l := ga_135) (i := 11) (by decide +kernel)) (q := (11, 1, 12)) (by decide +kernel) hw rfl hx ⟨_, rfl⟩ r4 ?_
  obtain ⟨fsT, hfsT⟩ := cw_ob hE hw (o := T) (t := 8) (c := 8) hT.1.1 haT ⟨_, rfl, rfl⟩
  obtain ⟨yN2, cc2, ret2, ok2, lk2, hcls2⟩ := B.2.2.2.1 11 122 1 79 2 (by decide +kernel) (Or.inr (Or.inr (Or.inl rfl))) (gm_79, 2) rfl
  refine g_call B.1 B.2.1 ok2 (mi := gm_135) lk2 hcls2 (i := .invokevirtual 122) (Or.inr ⟨rfl, Or.inl rfl⟩) (pc := 20) (asx := [.ref aI, .ref a4]) (rx := []) (List.mem_of_getElem? (l := ga_135) (i := 12) (by decide +kernel)) ⟨by decide, by decide, by decide, by decide, Nat.le_of_ble_eq_true rfl, Nat.le_of_ble_eq_true rfl⟩ rfl rfl (fun _ => ⟨T, aI, fsT, _, rfl, hfsT⟩) ?_
  refine z_cp79 B A hE (T := T) (O := 4) (by omega) hw hj hT hO haT d4 (fun wsA wA jA uA cA eA FA => ?_)
  have SA : cdS E mdIm wsA wsA := cdS_rf wA jA
  refine g_aload (j := 0) (len := 1) (i := .aload_n 0) (Or.inr ⟨0, rfl, rfl, rfl⟩) (List.mem_of_getElem? (l := ga_135) (i := 13) (by decide +kernel)) (a := ax) List.mem_cons_self ?_
  refine g_getS B hE (idx := 96) (t := 11) (o := 0) (List.mem_of_getElem? (l := ga_135) (i := 14) (by decide +kernel)) (q := (11, 14, 12)) (by decide +kernel) SA.1.1 rfl hx rfl rfl (fun oJ aJ sJ dJ => ?_)
  refine g_iload (j := 1) (len := 1) (i := .iload_n 1) (Or.inr ⟨1, rfl, rfl, rfl⟩) (List.mem_of_getElem? (l := ga_135) (i := 15) (by decide +kernel)) (z := k) (List.mem_cons_of_mem _ List.mem_cons_self) ?_
  refine g_aaldT hE (t := 49) (o := oJ) (n := 2) (List.mem_of_getElem? (l := ga_135) (i := 16) (by decide +kernel)) SA.1.1 sJ dJ rfl ⟨by omega, by show k.toInt < (2 : Int); omega⟩ (fun oP aP sP dP gP => ?_)
  refine g_aload (j := 0) (len := 1) (i := .aload_n 0) (Or.inr ⟨0, rfl, rfl, rfl⟩) (List.mem_of_getElem? (l := ga_135) (i := 17) (by decide +kernel)) (a := ax) List.mem_cons_self ?_
  refine g_getS B hE (idx := 26) (t := 11) (o := 0) (List.mem_of_getElem? (l := ga_135) (i := 18) (by decide +kernel)) (q := (11, 2, 12)) (by decide +kernel) SA.1.1 rfl hx rfl rfl (fun oV aV sV dV => ?_)
  obtain ⟨fsD, hfsD⟩ := cw_ob hE SA.1.1 (o := oP) (t := 1) (c := 1) sP dP ⟨_, rfl, rfl⟩
  obtain ⟨yN3, cc3, ret3, ok3, lk3, hcls3⟩ := B.2.2.2.1 11 129 1 11 2 (by decide +kernel) (Or.inr (Or.inr (Or.inl rfl))) (gm_11, 2) rfl
  refine g_call B.1 B.2.1 ok3 (mi := gm_135) lk3 hcls3 (i := .invokevirtual 129) (Or.inr ⟨rfl, Or.inl rfl⟩) (pc := 33) (asx := [.ref aP, .ref aV]) (rx := []) (List.mem_of_getElem? (l := ga_135) (i := 19) (by decide +kernel)) ⟨by decide, by decide, by decide, by decide, Nat.le_of_ble_eq_true rfl, Nat.le_of_ble_eq_true rfl⟩ rfl rfl (fun _ => ⟨oP, aP, fsD, _, rfl, hfsD⟩) ?_
  refine gG_mono (fun rv ws3 ⟨w3, j3, F3, al3, b3, c3, _⟩ => ?_) (zc_11_0 B A _ wsA SA.1.1 SA.1.2 ⟨⟨oP, aP, by rw [hE]; exact sP, dP, rfl⟩, ⟨oV, aV, by rw [hE]; exact sV, dV, rfl⟩, trivial⟩)
  have e3 : rv = none := by
    rw [List.mem_singleton.mp b3] at c3
    cases rv with
    | none => rfl
    | some _ => exact absurd c3 id
  subst e3
  have S3 := cdS_up hE SA w3 j3 F3 (by decide +kernel)
  refine g_aload (j := 0) (len := 1) (i := .aload_n 0) (Or.inr ⟨0, rfl, rfl, rfl⟩) (List.mem_of_getElem? (l := ga_135) (i := 20) (by decide +kernel)) (a := ax) List.mem_cons_self ?_
  refine g_getS B hE (idx := 100) (t := 11) (o := 0) (List.mem_of_getElem? (l := ga_135) (i := 21) (by decide +kernel)) (q := (11, 15, 12)) (by decide +kernel) S3.1.1 rfl hx rfl rfl (fun oM aM sM dM => ?_)
  refine g_iload (j := 1) (len := 1) (i := .iload_n 1) (Or.inr ⟨1, rfl, rfl, rfl⟩) (List.mem_of_getElem? (l := ga_135) (i := 22) (by decide +kernel)) (z := k) (List.mem_cons_of_mem _ List.mem_cons_self) ?_
  refine g_aaldT hE (t := 50) (o := oM) (n := 2) (List.mem_of_getElem? (l := ga_135) (i := 23) (by decide +kernel)) S3.1.1 sM dM rfl ⟨by omega, by show k.toInt < (2 : Int); omega⟩ (fun oN aN sN dN gN => ?_)
  refine g_aload (j := 0) (len := 1) (i := .aload_n 0) (Or.inr ⟨0, rfl, rfl, rfl⟩) (List.mem_of_getElem? (l := ga_135) (i := 24) (by decide +kernel)) (a := ax) List.mem_cons_self ?_
  refine g_getS B hE (idx := 43) (t := 11) (o := 0) (List.mem_of_getElem? (l := ga_135) (i := 25) (by decide +kernel)) (q := (11, 5, 12)) (by decide +kernel) S3.1.1 rfl hx rfl rfl (fun oQ aQ sQ dQ => ?_)
  obtain ⟨fsN, hfsN⟩ := cw_ob hE S3.1.1 (o := oN) (t := 6) (c := 6) sN dN ⟨_, rfl, rfl⟩
  obtain ⟨yN4, cc4, ret4, ok4, lk4, hcls4⟩ := B.2.2.2.1 11 409 1 49 2 (by decide +kernel) (Or.inr (Or.inr (Or.inl rfl))) (gm_49, 2) rfl
  refine g_call B.1 B.2.1 ok4 (mi := gm_135) lk4 hcls4 (i := .invokevirtual 409) (Or.inr ⟨rfl, Or.inl rfl⟩) (pc := 46) (asx := [.ref aN, .ref aQ]) (rx := []) (List.mem_of_getElem? (l := ga_135) (i := 26) (by decide +kernel)) ⟨by decide, by decide, by decide, by decide, Nat.le_of_ble_eq_true rfl, Nat.le_of_ble_eq_true rfl⟩ rfl rfl (fun _ => ⟨oN, aN, fsN, _, rfl, hfsN⟩) ?_
  refine z_49 B A hE S3.1.1 S3.1.2 sN sQ dN dQ (fun ws4 T4 => ?_)
  have S4 := cdS_up hE S3 T4.1.1 T4.1.2 T4.2.1 (by decide +kernel)
  have hyA : gcv ws4 0 16 = some (.int y) := (S4.2.2 (0, 0, 17) (by decide) 16 (by decide) (by decide)).trans ((uA 0 16 (by omega) (by omega)).trans hy)
  refine g_aload (j := 0) (len := 1) (i := .aload_n 0) (Or.inr ⟨0, rfl, rfl, rfl⟩) (List.mem_of_getElem? (l := ga_135) (i := 27) (by decide +kernel)) (a := ax) List.mem_cons_self ?_
  refine g_dup (List.mem_of_getElem? (l := ga_135) (i := 28) (by decide +kernel)) rfl ?_
  refine g_getT B hE (idx := 418) (t := 11) (o := 0) (List.mem_of_getElem? (l := ga_135) (i := 29) (by decide +kernel)) (q := (11, 16, 0)) (by decide +kernel) S4.1.1 rfl hx ⟨_, rfl⟩ hyA ?_
  refine g_iload (j := 1) (len := 1) (i := .iload_n 1) (Or.inr ⟨1, rfl, rfl, rfl⟩) (List.mem_of_getElem? (l := ga_135) (i := 30) (by decide +kernel)) (z := k) (List.mem_cons_of_mem _ List.mem_cons_self) ?_
  obtain ⟨yN5, cc5, ret5, ok5, lk5, hcls5⟩ := B.2.2.2.1 11 326 0 115 1 (by decide +kernel) (Or.inl rfl) (gm_115, 1) rfl
  refine g_call B.1 B.2.1 ok5 (mi := gm_135) lk5 hcls5 (i := .invokestatic 326) (Or.inl ⟨rfl, Or.inl rfl⟩) (pc := 55) (asx := [.int k]) (rx := [.int y, .ref ax]) (List.mem_of_getElem? (l := ga_135) (i := 31) (by decide +kernel)) ⟨by decide, by decide, by decide, by decide, Nat.le_of_ble_eq_true rfl, Nat.le_of_ble_eq_true rfl⟩ rfl rfl (fun q => absurd q (by decide)) ?_
  refine z_115 ?_
  refine g_ior (List.mem_of_getElem? (l := ga_135) (i := 32) (by decide +kernel)) ?_
  refine g_putT B hE (idx := 418) (t := 11) (o := 0) (List.mem_of_getElem? (l := ga_135) (i := 33) (by decide +kernel)) (q := (11, 16, 0)) (by decide +kernel) (by decide) S4.1.1 S4.1.2 rfl hx rfl rfl (lo := .negSucc 2147483647) (hi := .ofNat 2147483647) ⟨Int32.le_toInt _, Int32.toInt_le _⟩ (Or.inl ⟨rfl, _, rfl⟩) (cj_no (by decide +kernel)) (fun wsZ wZ jZ fZ cZ FZ => ?_)
  refine g_iconst (n := 1) (List.mem_of_getElem? (l := ga_135) (i := 34) (by decide +kernel)) ?_
  refine g_ireturn (List.mem_of_getElem? (l := ga_135) (i := 35) (by decide +kernel)) (Or.inr ⟨Or.inl rfl, Or.inr rfl⟩) (by decide) (by decide) (h wsZ wZ jZ (fRel_tr (fRel_tr (fRel_tr fRel_refl FA (amds_ok (by decide +kernel))) S4.2.1 (amds_ok (by decide +kernel))) FZ (amds_ok (by decide +kernel))) (fun j i hj2 hi2 => ?_) (fun i hi => ?_) (fun q hq i q1 q2 g1 g2 g3 => ?_) cZ)
  · have hq : (T + 1 + j, 0, 12) ∈ zcl := by
      rcases hkT with ⟨-, rfl⟩ | ⟨-, rfl⟩
      · exact (by decide : ∀ j, j < 4 → (129 + 1 + j, 0, 12) ∈ zcl) j hj2
      · exact (by decide : ∀ j, j < 4 → (148 + 1 + j, 0, 12) ∈ zcl) j hj2
    exact (fZ _ i (by show ¬ (T + 1 + j = 0 ∧ i = 16); omega)).trans ((S4.2.2 _ hq i (Nat.zero_le _) hi2).trans (cA j i (by omega)))
  · have hq : (T, 0, 10) ∈ zcl := by
      rcases hkT with ⟨-, rfl⟩ | ⟨-, rfl⟩ <;> decide
    exact (fZ _ i (by show ¬ (T = 0 ∧ i = 16); omega)).trans ((S4.2.2 _ hq i (Nat.zero_le _) (by show i < 10; omega)).trans (eA i hi))
  · exact (fZ _ i g3).trans ((S4.2.2 q hq i q1 q2).trans (uA q.1 i g1 g2))
/-- restore: no such one, or nothing is kept there -/
theorem z_155o (B : zB E) (A : zA E gJ1) (hE : zso E = zso0) {ax : Nat} {k y : Int32} (hx : (zad E)[0]? = some ax) (hw : wOk (zso E) (zad E) E.2.2.2.2.2.2.1 gST ws) (hy : gcv ws 0 16 = some (.int y)) (hk : (k.toInt < 0 ∨ 1 < k.toInt) ∨ ((0 ≤ k.toInt ∧ k.toInt ≤ 1) ∧ (y >>> (k &&& 31)) &&& 1 = 0)) (h : K (some (.int 0)) ws) : zgE E gm_155 0 (lv_args 0 [.ref ax, .int k]) [] ws 0 0 K := by
  have hend : zgE E gm_155 19 (lv_args 0 [.ref ax, .int k]) [] ws 0 0 K := by
    refine g_iconst (n := 0) (List.mem_of_getElem? (l := ga_155) (i := 9) (by decide +kernel)) ?_
    exact g_ireturn (List.mem_of_getElem? (l := ga_155) (i := 10) (by decide +kernel)) (Or.inr ⟨Or.inl rfl, Or.inl rfl⟩) (by decide) (by decide) h
  refine g_iload (j := 1) (len := 1) (i := .iload_n 1) (Or.inr ⟨1, rfl, rfl, rfl⟩) (List.mem_of_getElem? (l := ga_155) (i := 0) (by decide +kernel)) (z := k) (List.mem_cons_of_mem _ List.mem_cons_self) ?_
  refine g_iconst (n := 2) (List.mem_of_getElem? (l := ga_155) (i := 1) (by decide +kernel)) ?_
  obtain ⟨yN1, cc1, ret1, ok1, lk1, hcls1⟩ := B.2.2.2.1 11 294 0 136 2 (by decide +kernel) (Or.inl rfl) (gm_136, 2) rfl
  refine g_call B.1 B.2.1 ok1 (mi := gm_155) lk1 hcls1 (i := .invokestatic 294) (Or.inl ⟨rfl, Or.inl rfl⟩) (pc := 2) (asx := [.int k, .int (Int32.ofInt 2)]) (rx := []) (List.mem_of_getElem? (l := ga_155) (i := 2) (by decide +kernel)) ⟨by decide, by decide, by decide, by decide, Nat.le_of_ble_eq_true rfl, Nat.le_of_ble_eq_true rfl⟩ rfl rfl (fun q => absurd q (by decide)) ?_
  rcases hk with hk | ⟨hk1, hk2⟩
  · refine z_136f (by show k.toInt < 0 ∨ (2 : Int) ≤ k.toInt; omega) ?_
    exact g_ifc (cd := .eq) (off := 14) (t := 19) (List.mem_of_getElem? (l := ga_155) (i := 3) (by decide +kernel)) rfl (fun _ => hend) (fun hc => absurd (show (0 : Int32) = 0 from rfl) hc)
  · refine z_136t (by omega) (by show k.toInt < (2 : Int); omega) ?_
    refine g_ifc (cd := .eq) (off := 14) (t := 19) (List.mem_of_getElem? (l := ga_155) (i := 3) (by decide +kernel)) rfl (fun hc => absurd (show (1 : Int32) = 0 from hc) (by decide)) (fun _ => ?_)
    refine g_aload (j := 0) (len := 1) (i := .aload_n 0) (Or.inr ⟨0, rfl, rfl, rfl⟩) (List.mem_of_getElem? (l := ga_155) (i := 4) (by decide +kernel)) (a := ax) List.mem_cons_self ?_
    refine g_getT B hE (idx := 418) (t := 11) (o := 0) (List.mem_of_getElem? (l := ga_155) (i := 5) (by decide +kernel)) (q := (11, 16, 0)) (by decide +kernel) hw rfl hx ⟨_, rfl⟩ hy ?_
    refine g_iload (j := 1) (len := 1) (i := .iload_n 1) (Or.inr ⟨1, rfl, rfl, rfl⟩) (List.mem_of_getElem? (l := ga_155) (i := 6) (by decide +kernel)) (z := k) (List.mem_cons_of_mem _ List.mem_cons_self) ?_
    obtain ⟨yN2, cc2, ret2, ok2, lk2, hcls2⟩ := B.2.2.2.1 11 160 0 132 2 (by decide +kernel) (Or.inl rfl) (gm_132, 2) rfl
    refine g_call B.1 B.2.1 ok2 (mi := gm_155) lk2 hcls2 (i := .invokestatic 160) (Or.inl ⟨rfl, Or.inl rfl⟩) (pc := 13) (asx := [.int y, .int k]) (rx := []) (List.mem_of_getElem? (l := ga_155) (i := 7) (by decide +kernel)) ⟨by decide, by decide, by decide, by decide, Nat.le_of_ble_eq_true rfl, Nat.le_of_ble_eq_true rfl⟩ rfl rfl (fun q => absurd q (by decide)) ?_
    refine z_132 ?_
    rw [if_pos hk2]
    refine g_ifc (cd := .ne) (off := 5) (t := 21) (List.mem_of_getElem? (l := ga_155) (i := 8) (by decide +kernel)) rfl (fun hc => absurd (show (0 : Int32) = 0 from rfl) hc) (fun _ => hend)
/-- restore -/
theorem z_155 (B : zB E) (A : zA E gJ1) (hE : zso E = zso0) {ax aO O kk : Nat} {k y : Int32} (hx : (zad E)[0]? = some ax) (hkT : (kk = 0 ∧ O = 129) ∨ (kk = 1 ∧ O = 148)) (hk : k.toInt = (kk : Int)) (hw : wOk (zso E) (zad E) E.2.2.2.2.2.2.1 gST ws) (hj : jOk (zso E) gJ1 ws) (hR : zRf E ws) (hy : gcv ws 0 16 = some (.int y)) (hyk : ¬ (y >>> (k &&& 31)) &&& 1 = 0) (haO : (zad E)[O]? = some aO) (hg : gcv ws 126 kk = some (.ref aO))
    (h : ∀ ws2 : va_W, wOk (zso E) (zad E) E.2.2.2.2.2.2.1 gST ws2 → jOk (zso E) gJ1 ws2 → fRel (zso E) md155 ws ws2 → (∀ j i : Nat, j < 4 → i < 12 → gcv ws2 (4 + 1 + j) i = gcv ws (O + 1 + j) i) → (∀ i : Nat, i = 8 ∨ i = 9 → gcv ws2 4 i = gcv ws O i) → (∀ q ∈ zcl, ∀ i : Nat, q.2.1 ≤ i → i < q.2.2 → ¬ (4 < q.1 ∧ q.1 ≤ 4 + 8) → ¬ (q.1 = 4 ∧ (i = 8 ∨ i = 9)) → gcv ws2 q.1 i = gcv ws q.1 i) → K (some (.int 1)) ws2) : zgE E gm_155 0 (lv_args 0 [.ref ax, .int k]) [] ws 0 0 K := by
  have hO : cpT E O ws := cpT_of (by omega) hR
  have hT : cpT E 4 ws := cpT_of (by omega) hR
  obtain ⟨a4, d4, r4⟩ := zRf_at hR (o := 0) (i := 1) (o2 := 4) (by decide)
  obtain ⟨a126, d126, r126⟩ := zRf_at hR (o := 0) (i := 13) (o2 := 126) (by decide)
  have hkk : k.toInt.toNat = kk := by omega
  refine g_iload (j := 1) (len := 1) (i := .iload_n 1) (Or.inr ⟨1, rfl, rfl, rfl⟩) (List.mem_of_getElem? (l := ga_155) (i := 0) (by decide +kernel)) (z := k) (List.mem_cons_of_mem _ List.mem_cons_self) ?_
  refine g_iconst (n := 2) (List.mem_of_getElem? (l := ga_155) (i := 1) (by decide +kernel)) ?_
  obtain ⟨yN1, cc1, ret1, ok1, lk1, hcls1⟩ := B.2.2.2.1 11 294 0 136 2 (by decide +kernel) (Or.inl rfl) (gm_136, 2) rfl
  refine g_call B.1 B.2.1 ok1 (mi := gm_155) lk1 hcls1 (i := .invokestatic 294) (Or.inl ⟨rfl, Or.inl rfl⟩) (pc := 2) (asx := [.int k, .int (Int32.ofInt 2)]) (rx := []) (List.mem_of_getElem? (l := ga_155) (i := 2) (by decide +kernel)) ⟨by decide, by decide, by decide, by decide, Nat.le_of_ble_eq_true rfl, Nat.le_of_ble_eq_true rfl⟩ rfl rfl (fun q => absurd q (by decide)) ?_
  refine z_136t (by omega) (by show k.toInt < (2 : Int); omega) ?_
  refine g_ifc (cd := .eq) (off := 14) (t := 19) (List.mem_of_getElem? (l := ga_155) (i := 3) (by decide +kernel)) rfl (fun hc => absurd (show (1 : Int32) = 0 from hc) (by decide)) (fun _ => ?_)
  refine g_aload (j := 0) (len := 1) (i := .aload_n 0) (Or.inr ⟨0, rfl, rfl, rfl⟩) (List.mem_of_getElem? (l := ga_155) (i := 4) (by decide +kernel)) (a := ax) List.mem_cons_self ?_
  refine g_getT B hE (idx := 418) (t := 11) (o := 0) (List.mem_of_getElem? (l := ga_155) (i := 5) (by decide +kernel)) (q := (11, 16, 0)) (by decide +kernel) hw rfl hx ⟨_, rfl⟩ hy ?_
  refine g_iload (j := 1) (len := 1) (i := .iload_n 1) (Or.inr ⟨1, rfl, rfl, rfl⟩) (List.mem_of_getElem? (l := ga_155) (i := 6) (by decide +kernel)) (z := k) (List.mem_cons_of_mem _ List.mem_cons_self) ?_
  obtain ⟨yN2, cc2, ret2, ok2, lk2, hcls2⟩ := B.2.2.2.1 11 160 0 132 2 (by decide +kernel) (Or.inl rfl) (gm_132, 2) rfl
  refine g_call B.1 B.2.1 ok2 (mi := gm_155) lk2 hcls2 (i := .invokestatic 160) (Or.inl ⟨rfl, Or.inl rfl⟩) (pc := 13) (asx := [.int y, .int k]) (rx := []) (List.mem_of_getElem? (l := ga_155) (i := 7) (by decide +kernel)) ⟨by decide, by decide, by decide, by decide, Nat.le_of_ble_eq_true rfl, Nat.le_of_ble_eq_true rfl⟩ rfl rfl (fun q => absurd q (by decide)) ?_
  refine z_132 ?_
  rw [if_neg hyk]
  refine g_ifc (cd := .ne) (off := 5) (t := 21) (List.mem_of_getElem? (l := ga_155) (i := 8) (by decide +kernel)) rfl (fun _ => ?_) (fun hc => absurd (show ¬ (1 : Int32) = 0 from by decide) hc)
  refine g_aload (j := 0) (len := 1) (i := .aload_n 0) (Or.inr ⟨0, rfl, rfl, rfl⟩) (List.mem_of_getElem? (l := ga_155) (i := 11) (by decide +kernel)) (a := ax) List.mem_cons_self ?_
  refine g_getT B hE (idx := 19) (t := 11) (o := 0) (List.mem_of_getElem? (l := ga_155) (i := 12) (by decide +kernel)) (q := (11, 1, 12)) (by decide +kernel) hw rfl hx ⟨_, rfl⟩ r4 ?_
  refine g_aload (j := 0) (len := 1) (i := .aload_n 0) (Or.inr ⟨0, rfl, rfl, rfl⟩) (List.mem_of_getElem? (l := ga_155) (i := 13) (by decide +kernel)) (a := ax) List.mem_cons_self ?_
  refine g_getT B hE (idx := 92) (t := 11) (o := 0) (List.mem_of_getElem? (l := ga_155) (i := 14) (by decide +kernel)) (q := (11, 13, 12)) (by decide +kernel) hw rfl hx ⟨_, rfl⟩ r126 ?_
  refine g_iload (j := 1) (len := 1) (i := .iload_n 1) (Or.inr ⟨1, rfl, rfl, rfl⟩) (List.mem_of_getElem? (l := ga_155) (i := 15) (by decide +kernel)) (z := k) (List.mem_cons_of_mem _ List.mem_cons_self) ?_
  refine g_aaldT hE (t := 48) (o := 126) (n := 2) (List.mem_of_getElem? (l := ga_155) (i := 16) (by decide +kernel)) hw rfl d126 rfl ⟨by omega, by show k.toInt < (2 : Int); omega⟩ (fun oI aI sI dI gI => ?_)
  have eI : aI = aO := by rw [hkk, hg] at gI; cases gI; rfl
  subst eI
  obtain ⟨fsT, hfsT⟩ := cw_ob hE hw (o := 4) (t := 8) (c := 8) rfl d4 ⟨_, rfl, rfl⟩
  obtain ⟨yN3, cc3, ret3, ok3, lk3, hcls3⟩ := B.2.2.2.1 11 122 1 79 2 (by decide +kernel) (Or.inr (Or.inr (Or.inl rfl))) (gm_79, 2) rfl
  refine g_call B.1 B.2.1 ok3 (mi := gm_155) lk3 hcls3 (i := .invokevirtual 122) (Or.inr ⟨rfl, Or.inl rfl⟩) (pc := 31) (asx := [.ref a4, .ref aI]) (rx := []) (List.mem_of_getElem? (l := ga_155) (i := 17) (by decide +kernel)) ⟨by decide, by decide, by decide, by decide, Nat.le_of_ble_eq_true rfl, Nat.le_of_ble_eq_true rfl⟩ rfl rfl (fun _ => ⟨4, a4, fsT, _, rfl, hfsT⟩) ?_
  refine z_cp79 B A hE (T := 4) (O := O) (by omega) hw hj hT hO d4 haO (fun wsA wA jA uA cA eA FA => ?_)
  have SA : cdS E mdR3 wsA wsA := cdS_rf wA jA
  refine g_aload (j := 0) (len := 1) (i := .aload_n 0) (Or.inr ⟨0, rfl, rfl, rfl⟩) (List.mem_of_getElem? (l := ga_155) (i := 18) (by decide +kernel)) (a := ax) List.mem_cons_self ?_
  refine g_getS B hE (idx := 26) (t := 11) (o := 0) (List.mem_of_getElem? (l := ga_155) (i := 19) (by decide +kernel)) (q := (11, 2, 12)) (by decide +kernel) SA.1.1 rfl hx rfl rfl (fun oV aV sV dV => ?_)
  refine g_aload (j := 0) (len := 1) (i := .aload_n 0) (Or.inr ⟨0, rfl, rfl, rfl⟩) (List.mem_of_getElem? (l := ga_155) (i := 20) (by decide +kernel)) (a := ax) List.mem_cons_self ?_
  refine g_getS B hE (idx := 96) (t := 11) (o := 0) (List.mem_of_getElem? (l := ga_155) (i := 21) (by decide +kernel)) (q := (11, 14, 12)) (by decide +kernel) SA.1.1 rfl hx rfl rfl (fun oJ aJ sJ dJ => ?_)
  refine g_iload (j := 1) (len := 1) (i := .iload_n 1) (Or.inr ⟨1, rfl, rfl, rfl⟩) (List.mem_of_getElem? (l := ga_155) (i := 22) (by decide +kernel)) (z := k) (List.mem_cons_of_mem _ List.mem_cons_self) ?_
  refine g_aaldT hE (t := 49) (o := oJ) (n := 2) (List.mem_of_getElem? (l := ga_155) (i := 23) (by decide +kernel)) SA.1.1 sJ dJ rfl ⟨by omega, by show k.toInt < (2 : Int); omega⟩ (fun oP aP sP dP gP => ?_)
  obtain ⟨fsD, hfsD⟩ := cw_ob hE SA.1.1 (o := oV) (t := 1) (c := 1) sV dV ⟨_, rfl, rfl⟩
  obtain ⟨yN4, cc4, ret4, ok4, lk4, hcls4⟩ := B.2.2.2.1 11 129 1 11 2 (by decide +kernel) (Or.inr (Or.inr (Or.inl rfl))) (gm_11, 2) rfl
  refine g_call B.1 B.2.1 ok4 (mi := gm_155) lk4 hcls4 (i := .invokevirtual 129) (Or.inr ⟨rfl, Or.inl rfl⟩) (pc := 44) (asx := [.ref aV, .ref aP]) (rx := []) (List.mem_of_getElem? (l := ga_155) (i := 24) (by decide +kernel)) ⟨by decide, by decide, by decide, by decide, Nat.le_of_ble_eq_true rfl, Nat.le_of_ble_eq_true rfl⟩ rfl rfl (fun _ => ⟨oV, aV, fsD, _, rfl, hfsD⟩) ?_
  refine gG_mono (fun rv ws4 ⟨w4, j4, F4, al4, b4, c4, _⟩ => ?_) (zc_11_0 B A _ wsA SA.1.1 SA.1.2 ⟨⟨oV, aV, by rw [hE]; exact sV, dV, rfl⟩, ⟨oP, aP, by rw [hE]; exact sP, dP, rfl⟩, trivial⟩)
  have e4 : rv = none := by
    rw [List.mem_singleton.mp b4] at c4
    cases rv with
    | none => rfl
    | some _ => exact absurd c4 id
  subst e4
  have S4 := cdS_up hE SA w4 j4 F4 (by decide +kernel)
  refine g_aload (j := 0) (len := 1) (i := .aload_n 0) (Or.inr ⟨0, rfl, rfl, rfl⟩) (List.mem_of_getElem? (l := ga_155) (i := 25) (by decide +kernel)) (a := ax) List.mem_cons_self ?_
  refine g_getS B hE (idx := 43) (t := 11) (o := 0) (List.mem_of_getElem? (l := ga_155) (i := 26) (by decide +kernel)) (q := (11, 5, 12)) (by decide +kernel) S4.1.1 rfl hx rfl rfl (fun oQ aQ sQ dQ => ?_)
  refine g_aload (j := 0) (len := 1) (i := .aload_n 0) (Or.inr ⟨0, rfl, rfl, rfl⟩) (List.mem_of_getElem? (l := ga_155) (i := 27) (by decide +kernel)) (a := ax) List.mem_cons_self ?_
  refine g_getS B hE (idx := 100) (t := 11) (o := 0) (List.mem_of_getElem? (l := ga_155) (i := 28) (by decide +kernel)) (q := (11, 15, 12)) (by decide +kernel) S4.1.1 rfl hx rfl rfl (fun oM aM sM dM => ?_)
  refine g_iload (j := 1) (len := 1) (i := .iload_n 1) (Or.inr ⟨1, rfl, rfl, rfl⟩) (List.mem_of_getElem? (l := ga_155) (i := 29) (by decide +kernel)) (z := k) (List.mem_cons_of_mem _ List.mem_cons_self) ?_
  refine g_aaldT hE (t := 50) (o := oM) (n := 2) (List.mem_of_getElem? (l := ga_155) (i := 30) (by decide +kernel)) S4.1.1 sM dM rfl ⟨by omega, by show k.toInt < (2 : Int); omega⟩ (fun oN aN sN dN gN => ?_)
  obtain ⟨fsN, hfsN⟩ := cw_ob hE S4.1.1 (o := oQ) (t := 6) (c := 6) sQ dQ ⟨_, rfl, rfl⟩
  obtain ⟨yN5, cc5, ret5, ok5, lk5, hcls5⟩ := B.2.2.2.1 11 409 1 49 2 (by decide +kernel) (Or.inr (Or.inr (Or.inl rfl))) (gm_49, 2) rfl
  refine g_call B.1 B.2.1 ok5 (mi := gm_155) lk5 hcls5 (i := .invokevirtual 409) (Or.inr ⟨rfl, Or.inl rfl⟩) (pc := 57) (asx := [.ref aQ, .ref aN]) (rx := []) (List.mem_of_getElem? (l := ga_155) (i := 31) (by decide +kernel)) ⟨by decide, by decide, by decide, by decide, Nat.le_of_ble_eq_true rfl, Nat.le_of_ble_eq_true rfl⟩ rfl rfl (fun _ => ⟨oQ, aQ, fsN, _, rfl, hfsN⟩) ?_
  refine z_49 B A hE S4.1.1 S4.1.2 sQ sN dQ dN (fun ws5 T5 => ?_)
  have S5 := cdS_up hE S4 T5.1.1 T5.1.2 T5.2.1 (by decide +kernel)
  refine g_aload (j := 0) (len := 1) (i := .aload_n 0) (Or.inr ⟨0, rfl, rfl, rfl⟩) (List.mem_of_getElem? (l := ga_155) (i := 32) (by decide +kernel)) (a := ax) List.mem_cons_self ?_
  refine g_getS B hE (idx := 36) (t := 11) (o := 0) (List.mem_of_getElem? (l := ga_155) (i := 33) (by decide +kernel)) (q := (11, 4, 12)) (by decide +kernel) S5.1.1 rfl hx rfl rfl (fun oU aU sU dU => ?_)
  obtain ⟨fsU, hfsU⟩ := cw_ob hE S5.1.1 (o := oU) (t := 5) (c := 5) sU dU ⟨_, rfl, rfl⟩
  obtain ⟨yN6, cc6, ret6, ok6, lk6, hcls6⟩ := B.2.2.2.1 11 135 1 44 1 (by decide +kernel) (Or.inr (Or.inr (Or.inl rfl))) (gm_44, 1) rfl
  refine g_call B.1 B.2.1 ok6 (mi := gm_155) lk6 hcls6 (i := .invokevirtual 135) (Or.inr ⟨rfl, Or.inl rfl⟩) (pc := 64) (asx := [.ref aU]) (rx := []) (List.mem_of_getElem? (l := ga_155) (i := 34) (by decide +kernel)) ⟨by decide, by decide, by decide, by decide, Nat.le_of_ble_eq_true rfl, Nat.le_of_ble_eq_true rfl⟩ rfl rfl (fun _ => ⟨oU, aU, fsU, _, rfl, hfsU⟩) ?_
  refine z_44 B A hE S5.1.1 S5.1.2 sU dU (fun ws6 T6 => ?_)
  have S6 := cdS_up hE S5 T6.1.1 T6.1.2 T6.2.1 (by decide +kernel)
  refine g_iconst (n := 1) (List.mem_of_getElem? (l := ga_155) (i := 35) (by decide +kernel)) ?_
  refine g_ireturn (List.mem_of_getElem? (l := ga_155) (i := 36) (by decide +kernel)) (Or.inr ⟨Or.inl rfl, Or.inr rfl⟩) (by decide) (by decide) (h ws6 S6.1.1 S6.1.2 (fRel_tr (fRel_tr fRel_refl FA (amds_ok (by decide +kernel))) S6.2.1 (amds_ok (by decide +kernel))) (fun j i hj2 hi2 => ?_) (fun i hi => ?_) (fun q hq i q1 q2 g1 g2 => ?_))
  · exact (S6.2.2 _ ((by decide : ∀ j, j < 4 → (4 + 1 + j, 0, 12) ∈ zcl) j hj2) i (Nat.zero_le _) hi2).trans (cA j i (by omega))
  · exact (S6.2.2 (4, 0, 10) (by decide) i (Nat.zero_le _) (by show i < 10; omega)).trans (eA i hi)
  · exact (S6.2.2 q hq i q1 q2).trans (uA q.1 i g1 g2)
end CD
