/-! THE STEPS OF LONGS, exactly. -/
section GLX
variable {b base LS : Nat} {xs : Nat → Int32} {D : va_G} {cl : List vw_C} {tys : List (ClassId × FieldType)} {Tb : List Cond} {NF : State → Prop} {l : Launch} {CN : Nat → String} {mi : eM} {pc : Nat} {lv : List (Nat × Value)} {st : List Value} {ws : va_W} {ce sl : Nat} {K : gK}
theorem x_i2l (hm : (pc, .i2l, 1) ∈ mi.2.2.2.2.2.2) {z1 : Int32} (h : gG b base LS xs D cl tys Tb NF l CN mi (pc + 1) lv (.long z1.toInt64 :: st) ws ce sl K) : gG b base LS xs D cl tys Tb NF l CN mi pc lv (.int z1 :: st) ws ce sl K := by
  intro p e R s m args below meth c Q cc nL X hR H locs lsA hw hl
  have hd := X.2.2.2.2.2.2.2.2.1 _ hm
  exact lv_i2l X.1 X.2.1 hd.1.1 rfl (h p e R s m args below meth c Q cc nL X hR H locs lsA hw hl)
theorem x_ladd (hm : (pc, .ladd, 1) ∈ mi.2.2.2.2.2.2) {z1 z2 : Int64} (h : gG b base LS xs D cl tys Tb NF l CN mi (pc + 1) lv (.long (z1 + z2) :: st) ws ce sl K) : gG b base LS xs D cl tys Tb NF l CN mi pc lv (.long z2 :: .long z1 :: st) ws ce sl K := by
  intro p e R s m args below meth c Q cc nL X hR H locs lsA hw hl
  have hd := X.2.2.2.2.2.2.2.2.1 _ hm
  exact lv_ladd X.1 X.2.1 hd.1.1 (h p e R s m args below meth c Q cc nL X hR H locs lsA hw hl)
theorem x_lmul (hm : (pc, .lmul, 1) ∈ mi.2.2.2.2.2.2) {z1 z2 : Int64} (h : gG b base LS xs D cl tys Tb NF l CN mi (pc + 1) lv (.long (z1 * z2) :: st) ws ce sl K) : gG b base LS xs D cl tys Tb NF l CN mi pc lv (.long z2 :: .long z1 :: st) ws ce sl K := by
  intro p e R s m args below meth c Q cc nL X hR H locs lsA hw hl
  have hd := X.2.2.2.2.2.2.2.2.1 _ hm
  exact lv_lmul X.1 X.2.1 hd.1.1 (h p e R s m args below meth c Q cc nL X hR H locs lsA hw hl)
theorem x_lor (hm : (pc, .lor, 1) ∈ mi.2.2.2.2.2.2) {z1 z2 : Int64} (h : gG b base LS xs D cl tys Tb NF l CN mi (pc + 1) lv (.long (z1 ||| z2) :: st) ws ce sl K) : gG b base LS xs D cl tys Tb NF l CN mi pc lv (.long z2 :: .long z1 :: st) ws ce sl K := by
  intro p e R s m args below meth c Q cc nL X hR H locs lsA hw hl
  have hd := X.2.2.2.2.2.2.2.2.1 _ hm
  exact lv_lor X.1 X.2.1 hd.1.1 (h p e R s m args below meth c Q cc nL X hR H locs lsA hw hl)
theorem x_lshl (hm : (pc, .lshl, 1) ∈ mi.2.2.2.2.2.2) {z1 : Int64} {z2 : Int32} (h : gG b base LS xs D cl tys Tb NF l CN mi (pc + 1) lv (.long (z1 <<< (z2.toInt64 &&& 63)) :: st) ws ce sl K) : gG b base LS xs D cl tys Tb NF l CN mi pc lv (.int z2 :: .long z1 :: st) ws ce sl K := by
  intro p e R s m args below meth c Q cc nL X hR H locs lsA hw hl
  have hd := X.2.2.2.2.2.2.2.2.1 _ hm
  exact lv_lshl X.1 X.2.1 hd.1.1 rfl (h p e R s m args below meth c Q cc nL X hR H locs lsA hw hl)
theorem x_lcmp (hm : (pc, .lcmp, 1) ∈ mi.2.2.2.2.2.2) {z1 z2 : Int64} (h : gG b base LS xs D cl tys Tb NF l CN mi (pc + 1) lv (.int (lg_cmp z1 z2) :: st) ws ce sl K) : gG b base LS xs D cl tys Tb NF l CN mi pc lv (.long z2 :: .long z1 :: st) ws ce sl K := by
  intro p e R s m args below meth c Q cc nL X hR H locs lsA hw hl
  have hd := X.2.2.2.2.2.2.2.2.1 _ hm
  exact W.lcmp X.1 X.2.1 hd.1.1 (h p e R s m args below meth c Q cc nL X hR H locs lsA hw hl)
theorem x_lconst {n : Fin 2} (hm : (pc, .lconst n, 1) ∈ mi.2.2.2.2.2.2) (h : gG b base LS xs D cl tys Tb NF l CN mi (pc + 1) lv (.long (Int64.ofNat (n : Nat)) :: st) ws ce sl K) : gG b base LS xs D cl tys Tb NF l CN mi pc lv st ws ce sl K := by
  intro p e R s m args below meth c Q cc nL X hR H locs lsA hw hl
  have hd := X.2.2.2.2.2.2.2.2.1 _ hm
  exact lv_lconst X.1 X.2.1 hd.1.1 rfl (h p e R s m args below meth c Q cc nL X hR H locs lsA hw hl)
/-- the longs of the table, as they are -/
def xJOK (Tb : List Cond) (CN : Nat → String) (KL : Nat → Nat → Option Int) : Prop := ∀ (o idx : Nat) (n : Int), KL o idx = some n → ∃ v : Int64, v.toInt = n ∧ Cond.constantLong (CN o) idx v ∈ Tb
theorem x_ldc2 {KL : Nat → Nat → Option Int} (hK : xJOK Tb CN KL) {idx : Nat} {n : Int} (hm : (pc, .ldc2_w idx, 3) ∈ mi.2.2.2.2.2.2) (hv : KL mi.1 idx = some n) (h : ∀ z : Int64, z.toInt = n → gG b base LS xs D cl tys Tb NF l CN mi (pc + 3) lv (.long z :: st) ws ce sl K) : gG b base LS xs D cl tys Tb NF l CN mi pc lv st ws ce sl K := by
  intro p e R s m args below meth c Q cc nL X hR H locs lsA hw hl
  have hd := X.2.2.2.2.2.2.2.2.1 _ hm
  obtain ⟨v, hn, hc⟩ := hK _ _ _ hv
  exact lv_ldc2 X.1 X.2.1 X.2.2.2.1 (X.2.2.2.2.1 _ hc) hd.1.1 (h v hn p e R s m args below meth c Q cc nL X hR H locs lsA hw hl)
theorem x_lald {o a t0 n : Nat} {cA : ClassId} {f : Nat → Int64} {i : Int32} (hm : (pc, .laload, 1) ∈ mi.2.2.2.2.2.2) (he : ws[o]? = some (a, .inl (cA, n, .inr (.inl f)))) (ht : tys[t0]? = some (cA, .long)) (hin : vp_in i n) (h : gG b base LS xs D cl tys Tb NF l CN mi (pc + 1) lv (.long (f i.toNatClampNeg) :: st) ws ce sl K) : gG b base LS xs D cl tys Tb NF l CN mi pc lv (.int i :: .ref a :: st) ws ce sl K := by
  intro p e R s m args below meth c Q cc nL X hR H locs lsA hw hl
  have hd := X.2.2.2.2.2.2.2.2.1 _ hm
  exact va_lald X.1 X.2.1 hw.1 hw.2.1 o t0 he ht hin hd.1.1 (h p e R s m args below meth c Q cc nL X hR H locs lsA hw hl)
end GLX
/-- longs as whole numbers -/
def vlor (x y : Int) : Int := (Int64.ofInt x ||| Int64.ofInt y).toInt
def vlsh (x y : Int) : Int := (Int64.ofInt x <<< ((Int32.ofInt y).toInt64 &&& 63)).toInt
theorem l_add {x y : Int64} (h1 : -9223372036854775808 ≤ x.toInt + y.toInt) (h2 : x.toInt + y.toInt ≤ 9223372036854775807) : (x + y).toInt = x.toInt + y.toInt := by
  rw [Int64.toInt_add]
  exact Int.bmod_eq_of_le (by omega) (by omega)
theorem l_mul {x y : Int64} (h1 : -9223372036854775808 ≤ x.toInt * y.toInt) (h2 : x.toInt * y.toInt ≤ 9223372036854775807) : (x * y).toInt = x.toInt * y.toInt := by
  rw [Int64.toInt_mul]
  exact Int.bmod_eq_of_le (by omega) (by omega)
theorem l_cmp {x y : Int64} : (x.toInt < y.toInt → lg_cmp x y = -1) ∧ (x.toInt = y.toInt → lg_cmp x y = 0) ∧ (y.toInt < x.toInt → lg_cmp x y = 1) := by
  refine ⟨fun h => ?_, fun h => ?_, fun h => ?_⟩
  · unfold lg_cmp
    rw [if_neg (fun q => by have := Int64.lt_iff_toInt_lt.mp q; omega), if_neg (fun q => by rw [q] at h; omega)]
  · unfold lg_cmp
    rw [if_neg (fun q => by have := Int64.lt_iff_toInt_lt.mp q; omega), if_pos (Int64.toInt_inj.mp h)]
  · unfold lg_cmp
    rw [if_pos (Int64.lt_iff_toInt_lt.mpr h)]
