/-! THE CLASS'S count, exactly, by things. -/
section CC
variable {E : zE} {ws : va_W} {K : gK}
theorem g_ialdT (hE : zso E = zso0) {mi : eM} {pc : Nat} {lv : List (Nat × Value)} {st : List Value} {ce sl : Nat} {K : gK} (hm : (pc, .iaload, 1) ∈ mi.2.2.2.2.2.2) (hw : wOk (zso E) (zad E) E.2.2.2.2.2.2.1 gST ws) {o a t n : Nat} (ho : zso0[o]? = some t) (ha : (zad E)[o]? = some a) {rg : List (Nat × Int × Int)} {u : Nat} (hob : gST t = some (.inr (0, n, rg, u))) {i : Int32} (hi : 0 ≤ i.toInt ∧ i.toInt < (n : Int)) (h : ∀ y : Int32, gcv ws o i.toInt.toNat = some (.int y) → zgE E mi (pc + 1) lv (.int y :: st) ws ce sl K) : zgE E mi pc lv (.int i :: .ref a :: st) ws ce sl K := by
  obtain ⟨e1, w1, k1⟩ := cw_at hE hw ho ha
  unfold eOk at k1
  rw [hob] at k1
  rcases k1 with ⟨q3, cA, f, t6, rfl, q1, q2⟩ | ⟨q1, -⟩ | ⟨q1, -⟩
  · refine g_iald hm w1 q1 (vp_of (lo := i.toInt) (hi := i.toInt) (Int.le_refl _) (Int.le_refl _) hi.1 (by show i.toInt + 1 ≤ (n : Int); omega)).1 (h _ ?_)
    rw [gcv_at w1]
    show (if i.toInt.toNat < n then some (Value.int (f i.toInt.toNat)) else none) = some (.int (f i.toNatClampNeg))
    rw [if_pos (by omega), i_clamp]
  · exact absurd q1 (by decide : ¬ (0 : Nat) = 3)
  · exact absurd q1 (by decide : ¬ (0 : Nat) = 4)
theorem cw_ob (hE : zso E = zso0) (hw : wOk (zso E) (zad E) E.2.2.2.2.2.2.1 gST ws) {o t a c : Nat} (ho : zso0[o]? = some t) (ha : (zad E)[o]? = some a) (hob : ∃ ob, gST t = some (.inl ob) ∧ ob.1 = c) : ∃ fs, ws[o]? = some (a, (.inr (c, fs) : va_E)) := by
  obtain ⟨e1, w1, k1⟩ := cw_at hE hw ho ha
  obtain ⟨ob, hob, rfl⟩ := hob
  unfold eOk at k1
  rw [hob] at k1
  obtain ⟨fs, rfl, -, -⟩ := k1
  exact ⟨fs, w1⟩
theorem z_136t {a b : Int32} (h0 : 0 ≤ a.toInt) (h1 : a.toInt < b.toInt) (h : K (some (.int 1)) ws) : zgE E gm_136 0 (lv_args 0 [.int a, .int b]) [] ws 0 0 K := by
  refine g_iload (j := 0) (len := 1) (i := .iload_n 0) (Or.inr ⟨0, rfl, rfl, rfl⟩) (List.mem_of_getElem? (l := ga_136) (i := 0) (by decide +kernel)) (z := a) List.mem_cons_self ?_
  refine g_ifc (cd := .lt) (off := 12) (t := 13) (List.mem_of_getElem? (l := ga_136) (i := 1) (by decide +kernel)) rfl (fun hc => ?_) (fun _ => ?_)
  · have hc : a < 0 := hc
    rw [Int32.lt_iff_toInt_lt] at hc
    have : (0 : Int32).toInt = 0 := rfl
    omega
  refine g_iload (j := 0) (len := 1) (i := .iload_n 0) (Or.inr ⟨0, rfl, rfl, rfl⟩) (List.mem_of_getElem? (l := ga_136) (i := 2) (by decide +kernel)) (z := a) List.mem_cons_self ?_
  refine g_iload (j := 1) (len := 1) (i := .iload_n 1) (Or.inr ⟨1, rfl, rfl, rfl⟩) (List.mem_of_getElem? (l := ga_136) (i := 3) (by decide +kernel)) (z := b) (List.mem_cons_of_mem _ List.mem_cons_self) ?_
  refine g_icmp (cd := .ge) (off := 7) (t := 13) (List.mem_of_getElem? (l := ga_136) (i := 4) (by decide +kernel)) rfl (fun hc => ?_) (fun _ => ?_)
  · have hc : b ≤ a := hc
    rw [Int32.le_iff_toInt_le] at hc
    omega
  refine g_iconst (n := 1) (List.mem_of_getElem? (l := ga_136) (i := 5) (by decide +kernel)) ?_
  refine g_goto (off := 4) (t := 14) (List.mem_of_getElem? (l := ga_136) (i := 6) (by decide +kernel)) rfl ?_
  exact g_ireturn (List.mem_of_getElem? (l := ga_136) (i := 8) (by decide +kernel)) (Or.inr ⟨Or.inl rfl, Or.inr rfl⟩) (by decide) (by decide) h
theorem z_87 (B : zB E) (hE : zso E = zso0) {T aT : Nat} (hw : wOk (zso E) (zad E) E.2.2.2.2.2.2.1 gST ws) (hT : cpT E T ws) (haT : (zad E)[T]? = some aT) {s : Int32} (hs : 0 ≤ s.toInt ∧ s.toInt < 3) (h : ∀ y : Int32, gcv ws (T + 1) s.toInt.toNat = some (.int y) → K (some (.int y)) ws) : zgE E gm_87 0 (lv_args 0 [.ref aT, .int s]) [] ws 0 0 K := by
  obtain ⟨a0, b0, c0⟩ := hT.2 0 (by decide)
  refine g_iload (j := 1) (len := 1) (i := .iload_n 1) (Or.inr ⟨1, rfl, rfl, rfl⟩) (List.mem_of_getElem? (l := ga_87) (i := 0) (by decide +kernel)) (z := s) (List.mem_cons_of_mem _ List.mem_cons_self) ?_
  refine g_iconst (n := 3) (List.mem_of_getElem? (l := ga_87) (i := 1) (by decide +kernel)) ?_
  obtain ⟨yN, cc, ret, ok, lk, hcls⟩ := B.2.2.2.1 8 56 3 136 2 (by decide +kernel) (by first | exact Or.inl rfl | exact Or.inr (Or.inl rfl) | exact Or.inr (Or.inr (Or.inl rfl)) | exact Or.inr (Or.inr (Or.inr rfl))) (gm_136, 2) rfl
  refine g_call B.1 B.2.1 ok (mi := gm_87) lk hcls (i := .invokestatic 56) (Or.inl ⟨rfl, Or.inr rfl⟩) (pc := 2) (asx := [.int s, .int (Int32.ofInt 3)]) (rx := []) (List.mem_of_getElem? (l := ga_87) (i := 2) (by decide +kernel)) ⟨by decide, by decide, by decide, by decide, Nat.le_of_ble_eq_true rfl, Nat.le_of_ble_eq_true rfl⟩ rfl rfl (fun q => absurd q (by decide)) ?_
  refine z_136t hs.1 (by show s.toInt < 3; omega) ?_
  refine g_ifc (cd := .eq) (off := 12) (t := 17) (List.mem_of_getElem? (l := ga_87) (i := 3) (by decide +kernel)) rfl (fun hc => absurd (show (1 : Int32) = 0 from hc) (by decide)) (fun _ => ?_)
  refine g_aload (j := 0) (len := 1) (i := .aload_n 0) (Or.inr ⟨0, rfl, rfl, rfl⟩) (List.mem_of_getElem? (l := ga_87) (i := 4) (by decide +kernel)) (a := aT) List.mem_cons_self ?_
  refine g_getT B hE (idx := 9) (t := 8) (List.mem_of_getElem? (l := ga_87) (i := 5) (by decide +kernel)) (q := (8, 0, 12)) (by decide +kernel) hw hT.1.1 haT ⟨_, rfl⟩ c0 ?_
  refine g_iload (j := 1) (len := 1) (i := .iload_n 1) (Or.inr ⟨1, rfl, rfl, rfl⟩) (List.mem_of_getElem? (l := ga_87) (i := 6) (by decide +kernel)) (z := s) (List.mem_cons_of_mem _ List.mem_cons_self) ?_
  refine g_ialdT hE (List.mem_of_getElem? (l := ga_87) (i := 7) (by decide +kernel)) hw (hT.1.2 0 (by decide)) b0 (n := 3) rfl (by show 0 ≤ s.toInt ∧ s.toInt < 3; omega) (fun y hy => ?_)
  refine g_goto (off := 4) (t := 18) (List.mem_of_getElem? (l := ga_87) (i := 8) (by decide +kernel)) rfl ?_
  exact g_ireturn (List.mem_of_getElem? (l := ga_87) (i := 10) (by decide +kernel)) (Or.inl rfl) (by decide) (by decide) (h y hy)
theorem z_299 (B : zB E) {z : Int32} (h : K (some (.int (pcz z))) ws) : zgE E gm_299 0 (lv_args 0 [.int z]) [] ws 0 0 K := by
  refine g_iload (j := 0) (len := 1) (i := .iload_n 0) (Or.inr ⟨0, rfl, rfl, rfl⟩) (List.mem_of_getElem? (l := ga_299) (i := 0) (by decide +kernel)) List.mem_cons_self ?_
  refine g_iload (j := 0) (len := 1) (i := .iload_n 0) (Or.inr ⟨0, rfl, rfl, rfl⟩) (List.mem_of_getElem? (l := ga_299) (i := 1) (by decide +kernel)) List.mem_cons_self ?_
  refine g_iconst (n := 1) (List.mem_of_getElem? (l := ga_299) (i := 2) (by decide +kernel)) ?_
  refine g_iushr (List.mem_of_getElem? (l := ga_299) (i := 3) (by decide +kernel)) ?_
  refine g_ldc B.2.2.2.2.1 (idx := 265) (n := 1431655765) (Or.inr ⟨rfl, rfl⟩) (List.mem_of_getElem? (l := ga_299) (i := 4) (by decide +kernel)) (by decide +kernel) ?_
  refine g_iand (List.mem_of_getElem? (l := ga_299) (i := 5) (by decide +kernel)) ?_
  refine g_isub (List.mem_of_getElem? (l := ga_299) (i := 6) (by decide +kernel)) ?_
  refine g_istore (j := 0) (len := 1) (i := .istore_n 0) (Or.inr ⟨0, rfl, rfl, rfl⟩) (List.mem_of_getElem? (l := ga_299) (i := 7) (by decide +kernel)) ?_
  refine g_iload (j := 0) (len := 1) (i := .iload_n 0) (Or.inr ⟨0, rfl, rfl, rfl⟩) (List.mem_of_getElem? (l := ga_299) (i := 8) (by decide +kernel)) List.mem_cons_self ?_
  refine g_ldc B.2.2.2.2.1 (idx := 266) (n := 858993459) (Or.inr ⟨rfl, rfl⟩) (List.mem_of_getElem? (l := ga_299) (i := 9) (by decide +kernel)) (by decide +kernel) ?_
  refine g_iand (List.mem_of_getElem? (l := ga_299) (i := 10) (by decide +kernel)) ?_
  refine g_iload (j := 0) (len := 1) (i := .iload_n 0) (Or.inr ⟨0, rfl, rfl, rfl⟩) (List.mem_of_getElem? (l := ga_299) (i := 11) (by decide +kernel)) List.mem_cons_self ?_
  refine g_iconst (n := 2) (List.mem_of_getElem? (l := ga_299) (i := 12) (by decide +kernel)) ?_
  refine g_iushr (List.mem_of_getElem? (l := ga_299) (i := 13) (by decide +kernel)) ?_
  refine g_ldc B.2.2.2.2.1 (idx := 266) (n := 858993459) (Or.inr ⟨rfl, rfl⟩) (List.mem_of_getElem? (l := ga_299) (i := 14) (by decide +kernel)) (by decide +kernel) ?_
  refine g_iand (List.mem_of_getElem? (l := ga_299) (i := 15) (by decide +kernel)) ?_
  refine g_iadd (List.mem_of_getElem? (l := ga_299) (i := 16) (by decide +kernel)) ?_
  refine g_istore (j := 0) (len := 1) (i := .istore_n 0) (Or.inr ⟨0, rfl, rfl, rfl⟩) (List.mem_of_getElem? (l := ga_299) (i := 17) (by decide +kernel)) ?_
  refine g_iload (j := 0) (len := 1) (i := .iload_n 0) (Or.inr ⟨0, rfl, rfl, rfl⟩) (List.mem_of_getElem? (l := ga_299) (i := 18) (by decide +kernel)) List.mem_cons_self ?_
  refine g_iload (j := 0) (len := 1) (i := .iload_n 0) (Or.inr ⟨0, rfl, rfl, rfl⟩) (List.mem_of_getElem? (l := ga_299) (i := 19) (by decide +kernel)) List.mem_cons_self ?_
  refine g_iconst (n := 4) (List.mem_of_getElem? (l := ga_299) (i := 20) (by decide +kernel)) ?_
  refine g_iushr (List.mem_of_getElem? (l := ga_299) (i := 21) (by decide +kernel)) ?_
  refine g_iadd (List.mem_of_getElem? (l := ga_299) (i := 22) (by decide +kernel)) ?_
  refine g_ldc B.2.2.2.2.1 (idx := 267) (n := 252645135) (Or.inr ⟨rfl, rfl⟩) (List.mem_of_getElem? (l := ga_299) (i := 23) (by decide +kernel)) (by decide +kernel) ?_
  refine g_iand (List.mem_of_getElem? (l := ga_299) (i := 24) (by decide +kernel)) ?_
  refine g_istore (j := 0) (len := 1) (i := .istore_n 0) (Or.inr ⟨0, rfl, rfl, rfl⟩) (List.mem_of_getElem? (l := ga_299) (i := 25) (by decide +kernel)) ?_
  refine g_iload (j := 0) (len := 1) (i := .iload_n 0) (Or.inr ⟨0, rfl, rfl, rfl⟩) (List.mem_of_getElem? (l := ga_299) (i := 26) (by decide +kernel)) List.mem_cons_self ?_
  refine g_iload (j := 0) (len := 1) (i := .iload_n 0) (Or.inr ⟨0, rfl, rfl, rfl⟩) (List.mem_of_getElem? (l := ga_299) (i := 27) (by decide +kernel)) List.mem_cons_self ?_
  refine g_bipush (n := 8) (List.mem_of_getElem? (l := ga_299) (i := 28) (by decide +kernel)) ?_
  refine g_iushr (List.mem_of_getElem? (l := ga_299) (i := 29) (by decide +kernel)) ?_
  refine g_iadd (List.mem_of_getElem? (l := ga_299) (i := 30) (by decide +kernel)) ?_
  refine g_istore (j := 0) (len := 1) (i := .istore_n 0) (Or.inr ⟨0, rfl, rfl, rfl⟩) (List.mem_of_getElem? (l := ga_299) (i := 31) (by decide +kernel)) ?_
  refine g_iload (j := 0) (len := 1) (i := .iload_n 0) (Or.inr ⟨0, rfl, rfl, rfl⟩) (List.mem_of_getElem? (l := ga_299) (i := 32) (by decide +kernel)) List.mem_cons_self ?_
  refine g_iload (j := 0) (len := 1) (i := .iload_n 0) (Or.inr ⟨0, rfl, rfl, rfl⟩) (List.mem_of_getElem? (l := ga_299) (i := 33) (by decide +kernel)) List.mem_cons_self ?_
  refine g_bipush (n := 16) (List.mem_of_getElem? (l := ga_299) (i := 34) (by decide +kernel)) ?_
  refine g_iushr (List.mem_of_getElem? (l := ga_299) (i := 35) (by decide +kernel)) ?_
  refine g_iadd (List.mem_of_getElem? (l := ga_299) (i := 36) (by decide +kernel)) ?_
  refine g_istore (j := 0) (len := 1) (i := .istore_n 0) (Or.inr ⟨0, rfl, rfl, rfl⟩) (List.mem_of_getElem? (l := ga_299) (i := 37) (by decide +kernel)) ?_
  refine g_iload (j := 0) (len := 1) (i := .iload_n 0) (Or.inr ⟨0, rfl, rfl, rfl⟩) (List.mem_of_getElem? (l := ga_299) (i := 38) (by decide +kernel)) List.mem_cons_self ?_
  refine g_bipush (n := 63) (List.mem_of_getElem? (l := ga_299) (i := 39) (by decide +kernel)) ?_
  refine g_iand (List.mem_of_getElem? (l := ga_299) (i := 40) (by decide +kernel)) ?_
  exact g_ireturn (List.mem_of_getElem? (l := ga_299) (i := 41) (by decide +kernel)) (Or.inl rfl) (by decide) (by decide) h
/-- count, by its words -/
theorem z_121 (B : zB E) (hE : zso E = zso0) {ax a1 a4 : Nat} (hw : wOk (zso E) (zad E) E.2.2.2.2.2.2.1 gST ws) (hT : cpT E 4 ws) (hx : (zad E)[0]? = some ax) (h1 : (zad E)[1]? = some a1) (h4 : (zad E)[4]? = some a4) (r1 : gcv ws 0 0 = some (.ref a1)) (r4 : gcv ws 0 1 = some (.ref a4)) {k : Int32}
    (h : ∀ v : Int32, (((0 ≤ k.toInt ∧ k.toInt < 3) ∧ gcv ws 5 k.toInt.toNat = some (.int v)) ∨ (k.toInt = 3 ∧ gcv ws 4 8 = some (.int v)) ∨ (k.toInt = 4 ∧ ∃ y : Int32, gcv ws 4 9 = some (.int y) ∧ v = pcz y) ∨ (k.toInt = 5 ∧ gcv ws 1 1 = some (.int v)) ∨ ((k.toInt < 0 ∨ 5 < k.toInt) ∧ v.toInt = -1)) → K (some (.int v)) ws) : zgE E gm_121 0 (lv_args 0 [.ref ax, .int k]) [] ws 0 0 K := by
  refine g_iload (j := 1) (len := 1) (i := .iload_n 1) (Or.inr ⟨1, rfl, rfl, rfl⟩) (List.mem_of_getElem? (l := ga_121) (i := 0) (by decide +kernel)) (z := k) (List.mem_cons_of_mem _ List.mem_cons_self) ?_
  refine g_table (d := 93) (lo := 0) (hi := 5) (offs := #[39, 48, 57, 66, 74, 85]) (len := 39) (List.mem_of_getElem? (l := ga_121) (i := 1) (by decide +kernel)) (fun hr => ⟨94, rfl, ?_⟩) (fun hr => ?_)
  · refine g_iconst (n := -1) (List.mem_of_getElem? (l := ga_121) (i := 30) (by decide +kernel)) ?_
    exact g_ireturn (List.mem_of_getElem? (l := ga_121) (i := 31) (by decide +kernel)) (Or.inl rfl) (by decide) (by decide) (h _ (Or.inr (Or.inr (Or.inr (Or.inr ⟨hr, rfl⟩)))))
  rcases (show k.toInt = 0 ∨ k.toInt = 1 ∨ k.toInt = 2 ∨ k.toInt = 3 ∨ k.toInt = 4 ∨ k.toInt = 5 by omega) with e | e | e | e | e | e
  · refine ⟨39, 40, by rw [e]; rfl, rfl, ?_⟩
    refine g_aload (j := 0) (len := 1) (i := .aload_n 0) (Or.inr ⟨0, rfl, rfl, rfl⟩) (List.mem_of_getElem? (l := ga_121) (i := 2) (by decide +kernel)) (a := ax) List.mem_cons_self ?_
    refine g_getT B hE (idx := 19) (t := 11) (o := 0) (List.mem_of_getElem? (l := ga_121) (i := 3) (by decide +kernel)) (q := (11, 1, 12)) (by decide +kernel) hw rfl hx ⟨_, rfl⟩ r4 ?_
    refine g_iconst (n := 0) (List.mem_of_getElem? (l := ga_121) (i := 4) (by decide +kernel)) ?_
    obtain ⟨yN, cc, ret, ok, lk, hcls⟩ := B.2.2.2.1 11 223 1 87 2 (by decide +kernel) (Or.inr (Or.inr (Or.inl rfl))) (gm_87, 2) rfl
    obtain ⟨fs, hfs⟩ := cw_ob hE hw (o := 4) (t := 8) (c := 8) rfl h4 ⟨_, rfl, rfl⟩
    refine g_call B.1 B.2.1 ok (mi := gm_121) lk hcls (i := .invokevirtual 223) (Or.inr ⟨rfl, Or.inl rfl⟩) (pc := 45) (asx := [.ref a4, .int (Int32.ofInt 0)]) (rx := []) (List.mem_of_getElem? (l := ga_121) (i := 5) (by decide +kernel)) ⟨by decide, by decide, by decide, by decide, Nat.le_of_ble_eq_true rfl, Nat.le_of_ble_eq_true rfl⟩ rfl rfl (fun _ => ⟨4, a4, fs, _, rfl, hfs⟩) ?_
    refine z_87 B hE hw hT h4 (by decide) (fun y hy => ?_)
    exact g_ireturn (List.mem_of_getElem? (l := ga_121) (i := 6) (by decide +kernel)) (Or.inl rfl) (by decide) (by decide) (h y (Or.inl ⟨by omega, by rw [e]; exact hy⟩))
  · refine ⟨48, 49, by rw [e]; rfl, rfl, ?_⟩
    refine g_aload (j := 0) (len := 1) (i := .aload_n 0) (Or.inr ⟨0, rfl, rfl, rfl⟩) (List.mem_of_getElem? (l := ga_121) (i := 7) (by decide +kernel)) (a := ax) List.mem_cons_self ?_
    refine g_getT B hE (idx := 19) (t := 11) (o := 0) (List.mem_of_getElem? (l := ga_121) (i := 8) (by decide +kernel)) (q := (11, 1, 12)) (by decide +kernel) hw rfl hx ⟨_, rfl⟩ r4 ?_
    refine g_iconst (n := 1) (List.mem_of_getElem? (l := ga_121) (i := 9) (by decide +kernel)) ?_
    obtain ⟨yN, cc, ret, ok, lk, hcls⟩ := B.2.2.2.1 11 223 1 87 2 (by decide +kernel) (Or.inr (Or.inr (Or.inl rfl))) (gm_87, 2) rfl
    obtain ⟨fs, hfs⟩ := cw_ob hE hw (o := 4) (t := 8) (c := 8) rfl h4 ⟨_, rfl, rfl⟩
    refine g_call B.1 B.2.1 ok (mi := gm_121) lk hcls (i := .invokevirtual 223) (Or.inr ⟨rfl, Or.inl rfl⟩) (pc := 54) (asx := [.ref a4, .int (Int32.ofInt 1)]) (rx := []) (List.mem_of_getElem? (l := ga_121) (i := 10) (by decide +kernel)) ⟨by decide, by decide, by decide, by decide, Nat.le_of_ble_eq_true rfl, Nat.le_of_ble_eq_true rfl⟩ rfl rfl (fun _ => ⟨4, a4, fs, _, rfl, hfs⟩) ?_
    refine z_87 B hE hw hT h4 (by decide) (fun y hy => ?_)
    exact g_ireturn (List.mem_of_getElem? (l := ga_121) (i := 11) (by decide +kernel)) (Or.inl rfl) (by decide) (by decide) (h y (Or.inl ⟨by omega, by rw [e]; exact hy⟩))
  · refine ⟨57, 58, by rw [e]; rfl, rfl, ?_⟩
    refine g_aload (j := 0) (len := 1) (i := .aload_n 0) (Or.inr ⟨0, rfl, rfl, rfl⟩) (List.mem_of_getElem? (l := ga_121) (i := 12) (by decide +kernel)) (a := ax) List.mem_cons_self ?_
    refine g_getT B hE (idx := 19) (t := 11) (o := 0) (List.mem_of_getElem? (l := ga_121) (i := 13) (by decide +kernel)) (q := (11, 1, 12)) (by decide +kernel) hw rfl hx ⟨_, rfl⟩ r4 ?_
    refine g_iconst (n := 2) (List.mem_of_getElem? (l := ga_121) (i := 14) (by decide +kernel)) ?_
    obtain ⟨yN, cc, ret, ok, lk, hcls⟩ := B.2.2.2.1 11 223 1 87 2 (by decide +kernel) (Or.inr (Or.inr (Or.inl rfl))) (gm_87, 2) rfl
    obtain ⟨fs, hfs⟩ := cw_ob hE hw (o := 4) (t := 8) (c := 8) rfl h4 ⟨_, rfl, rfl⟩
    refine g_call B.1 B.2.1 ok (mi := gm_121) lk hcls (i := .invokevirtual 223) (Or.inr ⟨rfl, Or.inl rfl⟩) (pc := 63) (asx := [.ref a4, .int (Int32.ofInt 2)]) (rx := []) (List.mem_of_getElem? (l := ga_121) (i := 15) (by decide +kernel)) ⟨by decide, by decide, by decide, by decide, Nat.le_of_ble_eq_true rfl, Nat.le_of_ble_eq_true rfl⟩ rfl rfl (fun _ => ⟨4, a4, fs, _, rfl, hfs⟩) ?_
    refine z_87 B hE hw hT h4 (by decide) (fun y hy => ?_)
    exact g_ireturn (List.mem_of_getElem? (l := ga_121) (i := 16) (by decide +kernel)) (Or.inl rfl) (by decide) (by decide) (h y (Or.inl ⟨by omega, by rw [e]; exact hy⟩))
  · refine ⟨66, 67, by rw [e]; rfl, rfl, ?_⟩
    obtain ⟨y, hy, -, -⟩ := cf_int hE hw (o := 4) (t := 8) rfl (f := 8) (lo := .ofNat 0) (hi := .ofNat 20) ⟨_, rfl, rfl⟩
    refine g_aload (j := 0) (len := 1) (i := .aload_n 0) (Or.inr ⟨0, rfl, rfl, rfl⟩) (List.mem_of_getElem? (l := ga_121) (i := 17) (by decide +kernel)) (a := ax) List.mem_cons_self ?_
    refine g_getT B hE (idx := 19) (t := 11) (o := 0) (List.mem_of_getElem? (l := ga_121) (i := 18) (by decide +kernel)) (q := (11, 1, 12)) (by decide +kernel) hw rfl hx ⟨_, rfl⟩ r4 ?_
    refine g_getT B hE (idx := 226) (t := 8) (o := 4) (List.mem_of_getElem? (l := ga_121) (i := 19) (by decide +kernel)) (q := (8, 8, 0)) (by decide +kernel) hw rfl h4 ⟨_, rfl⟩ hy ?_
    exact g_ireturn (List.mem_of_getElem? (l := ga_121) (i := 20) (by decide +kernel)) (Or.inl rfl) (by decide) (by decide) (h y (Or.inr (Or.inl ⟨e, hy⟩)))
  · refine ⟨74, 75, by rw [e]; rfl, rfl, ?_⟩
    obtain ⟨y, hy, -, -⟩ := cf_int hE hw (o := 4) (t := 8) rfl (f := 9) (lo := .negSucc 2147483647) (hi := .ofNat 2147483647) ⟨_, rfl, rfl⟩
    refine g_aload (j := 0) (len := 1) (i := .aload_n 0) (Or.inr ⟨0, rfl, rfl, rfl⟩) (List.mem_of_getElem? (l := ga_121) (i := 21) (by decide +kernel)) (a := ax) List.mem_cons_self ?_
    refine g_getT B hE (idx := 19) (t := 11) (o := 0) (List.mem_of_getElem? (l := ga_121) (i := 22) (by decide +kernel)) (q := (11, 1, 12)) (by decide +kernel) hw rfl hx ⟨_, rfl⟩ r4 ?_
    refine g_getT B hE (idx := 205) (t := 8) (o := 4) (List.mem_of_getElem? (l := ga_121) (i := 23) (by decide +kernel)) (q := (8, 9, 0)) (by decide +kernel) hw rfl h4 ⟨_, rfl⟩ hy ?_
    obtain ⟨yN, cc, ret, ok, lk, hcls⟩ := B.2.2.2.1 11 229 0 299 1 (by decide +kernel) (Or.inl rfl) (gm_299, 1) rfl
    refine g_call B.1 B.2.1 ok (mi := gm_121) lk hcls (i := .invokestatic 229) (Or.inl ⟨rfl, Or.inl rfl⟩) (pc := 82) (asx := [.int y]) (rx := []) (List.mem_of_getElem? (l := ga_121) (i := 24) (by decide +kernel)) ⟨by decide, by decide, by decide, by decide, Nat.le_of_ble_eq_true rfl, Nat.le_of_ble_eq_true rfl⟩ rfl rfl (fun q => absurd q (by decide)) ?_
    refine z_299 B ?_
    exact g_ireturn (List.mem_of_getElem? (l := ga_121) (i := 25) (by decide +kernel)) (Or.inl rfl) (by decide) (by decide) (h _ (Or.inr (Or.inr (Or.inl ⟨e, y, hy, rfl⟩))))
  · refine ⟨85, 86, by rw [e]; rfl, rfl, ?_⟩
    obtain ⟨y, hy, -, -⟩ := cf_int hE hw (o := 1) (t := 7) rfl (f := 1) (lo := .ofNat 0) (hi := .ofNat 940) ⟨_, rfl, rfl⟩
    refine g_aload (j := 0) (len := 1) (i := .aload_n 0) (Or.inr ⟨0, rfl, rfl, rfl⟩) (List.mem_of_getElem? (l := ga_121) (i := 26) (by decide +kernel)) (a := ax) List.mem_cons_self ?_
    refine g_getT B hE (idx := 10) (t := 11) (o := 0) (List.mem_of_getElem? (l := ga_121) (i := 27) (by decide +kernel)) (q := (11, 0, 12)) (by decide +kernel) hw rfl hx ⟨_, rfl⟩ r1 ?_
    refine g_getT B hE (idx := 104) (t := 7) (o := 1) (List.mem_of_getElem? (l := ga_121) (i := 28) (by decide +kernel)) (q := (7, 1, 0)) (by decide +kernel) hw rfl h1 ⟨_, rfl⟩ hy ?_
    exact g_ireturn (List.mem_of_getElem? (l := ga_121) (i := 29) (by decide +kernel)) (Or.inl rfl) (by decide) (by decide) (h y (Or.inr (Or.inr (Or.inr (Or.inl ⟨e, hy⟩)))))
end CC
