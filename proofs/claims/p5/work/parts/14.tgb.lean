/-! THE STEPS, on: branches, fields, arrays, ends. -/
def gFit (t : Nat) (v : Value) : Prop := (t % 10 = 0 ∧ ∃ z : Int32, v = .int z) ∨ (t % 10 = 1 ∧ (v = .int 0 ∨ v = .int 1)) ∨ (t % 10 = 3 ∧ ∃ z : Int64, v = .long z)
theorem gFit_ok {t : Nat} {ty : FieldType} {v : Value} (h : gFit t v) (hk : eFk (t % 10) ty) : narrow ty v = v ∧ fits ty v = true := by
  rcases h with ⟨h, z, rfl⟩ | ⟨h, rfl | rfl⟩ | ⟨h, z, rfl⟩ <;> rcases hk with ⟨h2, rfl⟩ | ⟨h2, rfl⟩ | ⟨h2, -⟩ | ⟨h2, rfl⟩ <;> first | omega | exact ⟨rfl, rfl⟩
section G2
variable {b base LS : Nat} {xs : Nat → Int32} {D : va_G} {cl : List vw_C} {tys : List (ClassId × FieldType)} {Tb : List Cond} {NF : State → Prop} {l : Launch} {CN : Nat → String} {mi : eM} {pc : Nat} {lv : List (Nat × Value)} {st : List Value} {ws : va_W} {ce sl : Nat} {K : gK}
theorem g_goto {off : Int} {t : Nat} (hm : (pc, .goto off, 3) ∈ mi.2.2.2.2.2.2) (ht : (pc : Int) + off = (t : Int)) (h : gG b base LS xs D cl tys Tb NF l CN mi t lv st ws ce sl K) : gG b base LS xs D cl tys Tb NF l CN mi pc lv st ws ce sl K := by
  intro p e R s m args below meth c Q cc nL X hR H locs lsA hw hl
  have hd := X.2.2.2.2.2.2.2.2.1 _ hm
  exact lv_goto X.1 X.2.1 hd.1.1 ht (h p e R s m args below meth c Q cc nL X hR H locs lsA hw hl)
theorem g_icmp {cd : ClassFile.Cond} {off : Int} {t : Nat} (hm : (pc, .if_icmp cd off, 3) ∈ mi.2.2.2.2.2.2) (ht : (pc : Int) + off = (t : Int)) {x y : Int32} (h1 : eCd cd x y → gG b base LS xs D cl tys Tb NF l CN mi t lv st ws ce sl K) (h2 : ¬ eCd cd x y → gG b base LS xs D cl tys Tb NF l CN mi (pc + 3) lv st ws ce sl K) : gG b base LS xs D cl tys Tb NF l CN mi pc lv (.int y :: .int x :: st) ws ce sl K := by
  intro p e R s m args below meth c Q cc nL X hR H locs lsA hw hl
  have hd := X.2.2.2.2.2.2.2.2.1 _ hm
  exact e_icmp cd X.1 X.2.1 hd.1.1 (by omega) (fun q => ⟨t, ht, h1 q p e R s m args below meth c Q cc nL X hR H locs lsA hw hl⟩) (fun q => h2 q p e R s m args below meth c Q cc nL X hR H locs lsA hw hl)
theorem g_ifc {cd : ClassFile.Cond} {off : Int} {t : Nat} (hm : (pc, .ifCond cd off, 3) ∈ mi.2.2.2.2.2.2) (ht : (pc : Int) + off = (t : Int)) {x : Int32} (h1 : eCd cd x 0 → gG b base LS xs D cl tys Tb NF l CN mi t lv st ws ce sl K) (h2 : ¬ eCd cd x 0 → gG b base LS xs D cl tys Tb NF l CN mi (pc + 3) lv st ws ce sl K) : gG b base LS xs D cl tys Tb NF l CN mi pc lv (.int x :: st) ws ce sl K := by
  intro p e R s m args below meth c Q cc nL X hR H locs lsA hw hl
  have hd := X.2.2.2.2.2.2.2.2.1 _ hm
  exact e_ifc cd X.1 X.2.1 hd.1.1 (by omega) (fun q => ⟨t, ht, h1 q p e R s m args below meth c Q cc nL X hR H locs lsA hw hl⟩) (fun q => h2 q p e R s m args below meth c Q cc nL X hR H locs lsA hw hl)
theorem g_table {d lo hi : Int} {offs : Array Int} {len : Nat} (hm : (pc, .tableswitch d lo hi offs, len) ∈ mi.2.2.2.2.2.2) {z : Int32}
    (h1 : (z.toInt < lo ∨ hi < z.toInt) → ∃ t : Nat, (pc : Int) + d = (t : Int) ∧ gG b base LS xs D cl tys Tb NF l CN mi t lv st ws ce sl K)
    (h2 : ¬ (z.toInt < lo ∨ hi < z.toInt) → ∃ (off : Int) (t : Nat), offs.toList[(z.toInt - lo).toNat]? = some off ∧ (pc : Int) + off = (t : Int) ∧ gG b base LS xs D cl tys Tb NF l CN mi t lv st ws ce sl K) : gG b base LS xs D cl tys Tb NF l CN mi pc lv (.int z :: st) ws ce sl K := by
  intro p e R s m args below meth c Q cc nL X hR H locs lsA hw hl
  have hd := X.2.2.2.2.2.2.2.2.1 _ hm
  by_cases hc : z.toInt < lo ∨ hi < z.toInt
  · obtain ⟨t, e1, h⟩ := h1 hc
    exact lv_tableOut X.1 X.2.1 hd.1.1 hc e1 (h p e R s m args below meth c Q cc nL X hR H locs lsA hw hl)
  · obtain ⟨off, t, e0, e1, h⟩ := h2 hc
    exact lv_tableIn X.1 X.2.1 hd.1.1 (fun q => hc (Or.inl q)) (fun q => hc (Or.inr q)) (by rw [← Array.getElem?_toList]; exact e0) e1 (h p e R s m args below meth c Q cc nL X hR H locs lsA hw hl)
theorem g_ldc {KI : Nat → Nat → Option Nat} (hK : eKOK Tb CN KI) {idx len n : Nat} {i : Instr} (hi : (i = .ldc idx ∧ len = 2) ∨ (i = .ldc_w idx ∧ len = 3)) (hm : (pc, i, len) ∈ mi.2.2.2.2.2.2) (hv : KI mi.1 idx = some n) (h : gG b base LS xs D cl tys Tb NF l CN mi (pc + len) lv (.int (Int32.ofNat n) :: st) ws ce sl K) : gG b base LS xs D cl tys Tb NF l CN mi pc lv st ws ce sl K := by
  intro p e R s m args below meth c Q cc nL X hR H locs lsA hw hl
  have hd := X.2.2.2.2.2.2.2.2.1 _ hm
  have hc := X.2.2.2.2.1 _ (hK _ _ _ hv)
  rcases hi with ⟨rfl, rfl⟩ | ⟨rfl, rfl⟩
  · exact lv_ldc X.1 X.2.1 X.2.2.2.1 hc hd.1.1 (h p e R s m args below meth c Q cc nL X hR H locs lsA hw hl)
  · exact lv_ldcw X.1 X.2.1 X.2.2.2.1 hc hd.1.1 (h p e R s m args below meth c Q cc nL X hR H locs lsA hw hl)
theorem g_ldc2 {KL : Nat → Nat → Option Nat} (hK : eJOK Tb CN KL) {idx n : Nat} (hm : (pc, .ldc2_w idx, 3) ∈ mi.2.2.2.2.2.2) (hv : KL mi.1 idx = some n) (h : ∀ z : Int64, gG b base LS xs D cl tys Tb NF l CN mi (pc + 3) lv (.long z :: st) ws ce sl K) : gG b base LS xs D cl tys Tb NF l CN mi pc lv st ws ce sl K := by
  intro p e R s m args below meth c Q cc nL X hR H locs lsA hw hl
  have hd := X.2.2.2.2.2.2.2.2.1 _ hm
  obtain ⟨v, hc⟩ := hK _ _ _ hv
  exact lv_ldc2 X.1 X.2.1 X.2.2.2.1 (X.2.2.2.2.1 _ hc) hd.1.1 (h v p e R s m args below meth c Q cc nL X hR H locs lsA hw hl)
theorem g_get {FL : eFL} (hF : eFOK cl Tb CN FL) {idx : Nat} {q : Nat × Nat × Nat} (hm : (pc, .getfield idx, 3) ∈ mi.2.2.2.2.2.2) (hq : FL mi.1 idx = some q) {o a : Nat} {fs : List Value} {x : Value} (he : ws[o]? = some (a, .inr (q.1, fs))) (hx : fs[q.2.1]? = some x) (h : gG b base LS xs D cl tys Tb NF l CN mi (pc + 3) lv (x :: st) ws ce sl K) : gG b base LS xs D cl tys Tb NF l CN mi pc lv (.ref a :: st) ws ce sl K := by
  intro p e R s m args below meth c Q cc nL X hR H locs lsA hw hl
  have hd := X.2.2.2.2.2.2.2.2.1 _ hm
  obtain ⟨T, N, ty, f1, f2, f3, f4, f5, f6, f7, f8, f9⟩ := hF _ _ _ hq
  exact va_get X.1 X.2.1 X.2.2.2.2.1 f2 X.2.2.2.1 hw.1 hw.2.1 o he f1 q.2.1 f5 (X.2.2.2.2.1 _ f6) (fun _ z => z) hx hd.1.1 (h p e R s m args below meth c Q cc nL X hR H locs lsA hw hl)
theorem g_put {FL : eFL} (hF : eFOK cl Tb CN FL) {idx : Nat} {q : Nat × Nat × Nat} (hm : (pc, .putfield idx, 3) ∈ mi.2.2.2.2.2.2) (hq : FL mi.1 idx = some q) (hn : q.2.2 < 10) {o a : Nat} {fs : List Value} {x : Value} (he : ws[o]? = some (a, .inr (q.1, fs))) (hx : q.2.1 < fs.length) (hf : gFit q.2.2 x) (h : gG b base LS xs D cl tys Tb NF l CN mi (pc + 3) lv st (ws.set o (a, .inr (q.1, fs.set q.2.1 x))) ce sl K) : gG b base LS xs D cl tys Tb NF l CN mi pc lv (x :: .ref a :: st) ws ce sl K := by
  intro p e R s m args below meth c Q cc nL X hR H locs lsA hw hl
  have hd := X.2.2.2.2.2.2.2.2.1 _ hm
  obtain ⟨T, N, ty, f1, f2, f3, f4, f5, f6, f7, f8, f9⟩ := hF _ _ _ hq
  obtain ⟨g1, g2⟩ := gFit_ok hf f9
  have hfin : Nat.ble 10 q.2.2 = false := Bool.eq_false_iff.mpr (fun z => by have := Nat.le_of_ble_eq_true z; omega)
  exact va_put (ty := ty q.2.1) X.1 X.2.1 X.2.2.2.2.1 f2 ty f3 f4 X.2.2.2.1 hw.1 hw.2.1 hw.2.2.1 hw.2.2.2 o he f1 q.2.1 f5 (X.2.2.2.2.1 _ f6) (fun _ z => z) (by rw [f7, hfin]) (f3 _ f5) g1 g2 hx hd.1.1 (fun H1 locs1 q1 q2 q3 => h p e R s m args below meth c Q cc nL X hR H1 locs1 lsA ⟨hw.1, q1, q2, q3⟩ hl)
theorem g_alen {o a t0 : Nat} {cA : ClassId} {x : vp_A} {ty : FieldType} (hm : (pc, .arraylength, 1) ∈ mi.2.2.2.2.2.2) (he : ws[o]? = some (a, .inl (cA, x))) (ht : tys[t0]? = some (cA, ty)) (h : gG b base LS xs D cl tys Tb NF l CN mi (pc + 1) lv (.int (Int32.ofNat x.1) :: st) ws ce sl K) : gG b base LS xs D cl tys Tb NF l CN mi pc lv (.ref a :: st) ws ce sl K := by
  intro p e R s m args below meth c Q cc nL X hR H locs lsA hw hl
  have hd := X.2.2.2.2.2.2.2.2.1 _ hm
  exact va_alen X.1 X.2.1 hw.1 hw.2.1 o t0 he ht rfl hd.1.1 (h p e R s m args below meth c Q cc nL X hR H locs lsA hw hl)
/-- the script, in the law -/
theorem g_slen (hk : mi.2.2.2.2.2.1 = 20) (hm : (pc, .arraylength, 1) ∈ mi.2.2.2.2.2.2) (h : gG b base LS xs D cl tys Tb NF l CN mi (pc + 1) lv (.int (Int32.ofNat LS) :: st) ws ce sl K) : gG b base LS xs D cl tys Tb NF l CN mi pc lv (.ref b :: st) ws ce sl K := by
  intro p e R s m args below meth c Q cc nL X hR H locs lsA hw hl
  have hd := X.2.2.2.2.2.2.2.2.1 _ hm
  obtain ⟨g1, g2, g3, g4⟩ := X.2.2.2.2.2.2.2.2.2 hk
  exact va_slen X.1 X.2.1 g1 g2 (by omega) hw.2.2.2 hd.1.1 (h p e R s m args below meth c Q cc nL X hR H locs lsA hw hl)
theorem g_iald {o a t0 n : Nat} {cA : ClassId} {f : Nat → Int32} {i : Int32} (hm : (pc, .iaload, 1) ∈ mi.2.2.2.2.2.2) (he : ws[o]? = some (a, .inl (cA, n, .inl f))) (ht : tys[t0]? = some (cA, .int)) (hin : vp_in i n) (h : gG b base LS xs D cl tys Tb NF l CN mi (pc + 1) lv (.int (f i.toNatClampNeg) :: st) ws ce sl K) : gG b base LS xs D cl tys Tb NF l CN mi pc lv (.int i :: .ref a :: st) ws ce sl K := by
  intro p e R s m args below meth c Q cc nL X hR H locs lsA hw hl
  have hd := X.2.2.2.2.2.2.2.2.1 _ hm
  exact va_iald X.1 X.2.1 hw.1 hw.2.1 o t0 he ht hin hd.1.1 (h p e R s m args below meth c Q cc nL X hR H locs lsA hw hl)
theorem g_bald {o a t0 n : Nat} {cA : ClassId} {f : Nat → Int32} {i : Int32} (hm : (pc, .baload, 1) ∈ mi.2.2.2.2.2.2) (he : ws[o]? = some (a, .inl (cA, n, .inl f))) (ht : tys[t0]? = some (cA, .byte) ∨ tys[t0]? = some (cA, .boolean)) (hin : vp_in i n) (h : gG b base LS xs D cl tys Tb NF l CN mi (pc + 1) lv (.int (f i.toNatClampNeg) :: st) ws ce sl K) : gG b base LS xs D cl tys Tb NF l CN mi pc lv (.int i :: .ref a :: st) ws ce sl K := by
  intro p e R s m args below meth c Q cc nL X hR H locs lsA hw hl
  have hd := X.2.2.2.2.2.2.2.2.1 _ hm
  rcases ht with ht | ht
  · exact va_bald X.1 X.2.1 hw.1 hw.2.1 o t0 he ht hin hd.1.1 (h p e R s m args below meth c Q cc nL X hR H locs lsA hw hl)
  · exact va_zald X.1 X.2.1 hw.1 hw.2.1 o t0 he ht hin hd.1.1 (h p e R s m args below meth c Q cc nL X hR H locs lsA hw hl)
theorem g_aald {o a t0 n : Nat} {cA : ClassId} {C : String} {f : Nat → Option Nat} {i : Int32} (hm : (pc, .aaload, 1) ∈ mi.2.2.2.2.2.2) (he : ws[o]? = some (a, .inl (cA, n, .inr (.inr (.inr (.inr f)))))) (ht : tys[t0]? = some (cA, .object C)) (hin : vp_in i n) (h : gG b base LS xs D cl tys Tb NF l CN mi (pc + 1) lv (va_rf (f i.toNatClampNeg) :: st) ws ce sl K) : gG b base LS xs D cl tys Tb NF l CN mi pc lv (.int i :: .ref a :: st) ws ce sl K := by
  intro p e R s m args below meth c Q cc nL X hR H locs lsA hw hl
  have hd := X.2.2.2.2.2.2.2.2.1 _ hm
  exact va_aldq X.1 X.2.1 hw.1 hw.2.1 o t0 he ht hin hd.1.1 (h p e R s m args below meth c Q cc nL X hR H locs lsA hw hl)
theorem g_sld (hk : mi.2.2.2.2.2.1 = 20) {i : Int32} (hm : (pc, .iaload, 1) ∈ mi.2.2.2.2.2.2) (hin : vp_in i LS) (h : gG b base LS xs D cl tys Tb NF l CN mi (pc + 1) lv (.int (xs i.toNatClampNeg) :: st) ws ce sl K) : gG b base LS xs D cl tys Tb NF l CN mi pc lv (.int i :: .ref b :: st) ws ce sl K := by
  intro p e R s m args below meth c Q cc nL X hR H locs lsA hw hl
  have hd := X.2.2.2.2.2.2.2.2.1 _ hm
  obtain ⟨g1, g2, g3, g4⟩ := X.2.2.2.2.2.2.2.2.2 hk
  exact va_sld X.1 X.2.1 g1 g2 (by omega) hw.2.2.2 hin hd.1.1 (h p e R s m args below meth c Q cc nL X hR H locs lsA hw hl)
theorem g_lald {o a t0 n : Nat} {cA : ClassId} {f : Nat → Int64} {i : Int32} (hm : (pc, .laload, 1) ∈ mi.2.2.2.2.2.2) (he : ws[o]? = some (a, .inl (cA, n, .inr (.inl f)))) (ht : tys[t0]? = some (cA, .long)) (hin : vp_in i n) (h : ∀ z : Int64, gG b base LS xs D cl tys Tb NF l CN mi (pc + 1) lv (.long z :: st) ws ce sl K) : gG b base LS xs D cl tys Tb NF l CN mi pc lv (.int i :: .ref a :: st) ws ce sl K := by
  intro p e R s m args below meth c Q cc nL X hR H locs lsA hw hl
  have hd := X.2.2.2.2.2.2.2.2.1 _ hm
  exact va_lald X.1 X.2.1 hw.1 hw.2.1 o t0 he ht hin hd.1.1 (h _ p e R s m args below meth c Q cc nL X hR H locs lsA hw hl)
theorem g_iast {o a t0 n : Nat} {cA : ClassId} {f : Nat → Int32} {i x : Int32} (hm : (pc, .iastore, 1) ∈ mi.2.2.2.2.2.2) (he : ws[o]? = some (a, .inl (cA, n, .inl f))) (ht : tys[t0]? = some (cA, .int)) (hin : vp_in i n) (h : gG b base LS xs D cl tys Tb NF l CN mi (pc + 1) lv st (ws.set o (a, .inl (cA, n, .inl (upd f i.toNatClampNeg x)))) ce sl K) : gG b base LS xs D cl tys Tb NF l CN mi pc lv (.int x :: .int i :: .ref a :: st) ws ce sl K := by
  intro p e R s m args below meth c Q cc nL X hR H locs lsA hw hl
  have hd := X.2.2.2.2.2.2.2.2.1 _ hm
  exact va_iast X.1 X.2.1 hw.1 hw.2.1 hw.2.2.1 hw.2.2.2 o t0 he ht hin hd.1.1 (fun H1 locs1 q1 q2 q3 => h p e R s m args below meth c Q cc nL X hR H1 locs1 lsA ⟨hw.1, q1, q2, q3⟩ hl)
theorem g_bast {o a t0 n : Nat} {cA : ClassId} {f : Nat → Int32} {i x : Int32} {ty : FieldType} (hm : (pc, .bastore, 1) ∈ mi.2.2.2.2.2.2) (he : ws[o]? = some (a, .inl (cA, n, .inl f))) (ht : tys[t0]? = some (cA, ty)) (hty : ty = .byte ∨ ty = .boolean) (hin : vp_in i n) (h : gG b base LS xs D cl tys Tb NF l CN mi (pc + 1) lv st (ws.set o (a, .inl (cA, n, .inl (upd f i.toNatClampNeg (vp_nar ty x))))) ce sl K) : gG b base LS xs D cl tys Tb NF l CN mi pc lv (.int x :: .int i :: .ref a :: st) ws ce sl K := by
  intro p e R s m args below meth c Q cc nL X hR H locs lsA hw hl
  have hd := X.2.2.2.2.2.2.2.2.1 _ hm
  rcases hty with rfl | rfl
  · exact va_bast X.1 X.2.1 hw.1 hw.2.1 hw.2.2.1 hw.2.2.2 o t0 he ht hin hd.1.1 (fun H1 locs1 q1 q2 q3 => h p e R s m args below meth c Q cc nL X hR H1 locs1 lsA ⟨hw.1, q1, q2, q3⟩ hl)
  · exact va_zast X.1 X.2.1 hw.1 hw.2.1 hw.2.2.1 hw.2.2.2 o t0 he ht hin hd.1.1 (fun H1 locs1 q1 q2 q3 => h p e R s m args below meth c Q cc nL X hR H1 locs1 lsA ⟨hw.1, q1, q2, q3⟩ hl)
theorem g_last {o a t0 n : Nat} {cA : ClassId} {f : Nat → Int64} {i : Int32} {x : Int64} (hm : (pc, .lastore, 1) ∈ mi.2.2.2.2.2.2) (he : ws[o]? = some (a, .inl (cA, n, .inr (.inl f)))) (ht : tys[t0]? = some (cA, .long)) (hin : vp_in i n) (h : gG b base LS xs D cl tys Tb NF l CN mi (pc + 1) lv st (ws.set o (a, .inl (cA, n, .inr (.inl (vp_updL f i.toNatClampNeg x))))) ce sl K) : gG b base LS xs D cl tys Tb NF l CN mi pc lv (.long x :: .int i :: .ref a :: st) ws ce sl K := by
  intro p e R s m args below meth c Q cc nL X hR H locs lsA hw hl
  have hd := X.2.2.2.2.2.2.2.2.1 _ hm
  exact va_last X.1 X.2.1 hw.1 hw.2.1 hw.2.2.1 hw.2.2.2 o t0 he ht hin hd.1.1 (fun H1 locs1 q1 q2 q3 => h p e R s m args below meth c Q cc nL X hR H1 locs1 lsA ⟨hw.1, q1, q2, q3⟩ hl)
theorem g_ireturn (hm : (pc, .ireturn, 1) ∈ mi.2.2.2.2.2.2) {z : Int32} (hk : mi.2.2.2.2.2.1 = 1 ∨ ((mi.2.2.2.2.2.1 = 2 ∨ mi.2.2.2.2.2.1 = 20) ∧ (z = 0 ∨ z = 1))) (hce : ce ≤ mi.2.1) (hsl : sl ≤ mi.2.2.1) (h : K (some (.int z)) ws) : gG b base LS xs D cl tys Tb NF l CN mi pc lv [.int z] ws ce sl K := by
  intro p e R s m args below meth c Q cc nL X hR H locs lsA hw hl
  have hd := X.2.2.2.2.2.2.2.2.1 _ hm
  exact hR _ _ h H locs hw .ireturn pc lsA _ ⟨rfl, Or.inl ⟨rfl, z, rfl, hk⟩⟩ hd.1.1 ce sl hce hsl
theorem g_areturn (hm : (pc, .areturn, 1) ∈ mi.2.2.2.2.2.2) {a : Nat} (hk : mi.2.2.2.2.2.1 = 4) (hce : ce ≤ mi.2.1) (hsl : sl ≤ mi.2.2.1) (h : K (some (.ref a)) ws) : gG b base LS xs D cl tys Tb NF l CN mi pc lv [.ref a] ws ce sl K := by
  intro p e R s m args below meth c Q cc nL X hR H locs lsA hw hl
  have hd := X.2.2.2.2.2.2.2.2.1 _ hm
  exact hR _ _ h H locs hw .areturn pc lsA _ ⟨rfl, Or.inr (Or.inl ⟨rfl, hk, a, rfl⟩)⟩ hd.1.1 ce sl hce hsl
theorem g_lreturn (hm : (pc, .lreturn, 1) ∈ mi.2.2.2.2.2.2) {z : Int64} (hk : mi.2.2.2.2.2.1 = 3) (hce : ce ≤ mi.2.1) (hsl : sl ≤ mi.2.2.1) (h : K (some (.long z)) ws) : gG b base LS xs D cl tys Tb NF l CN mi pc lv [.long z] ws ce sl K := by
  intro p e R s m args below meth c Q cc nL X hR H locs lsA hw hl
  have hd := X.2.2.2.2.2.2.2.2.1 _ hm
  exact hR _ _ h H locs hw .lreturn pc lsA _ ⟨rfl, Or.inr (Or.inr ⟨rfl, hk, z, rfl⟩)⟩ hd.1.1 ce sl hce hsl
theorem g_return (hm : (pc, .return_, 1) ∈ mi.2.2.2.2.2.2) (hk : mi.2.2.2.2.2.1 = 0) (hce : ce ≤ mi.2.1) (hsl : sl ≤ mi.2.2.1) (h : K none ws) : gG b base LS xs D cl tys Tb NF l CN mi pc lv [] ws ce sl K := by
  intro p e R s m args below meth c Q cc nL X hR H locs lsA hw hl
  have hd := X.2.2.2.2.2.2.2.2.1 _ hm
  exact hR _ _ h H locs hw .return_ pc lsA _ ⟨hk, rfl, rfl⟩ hd.1.1 ce sl hce hsl
end G2
