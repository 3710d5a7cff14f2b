/-! THE LAW'S LOOP, the whole -/
noncomputable section
def zpcs : List Nat := [240, 313, 338, 351, 364, 404, 441, 478, 503, 540, 565, 614, 663, 700, 725, 762, 787, 812, 825, 862, 887, 912, 949, 962, 999, 1024, 1049, 1074, 1099, 1112, 1125, 1150, 1175, 1188, 1213, 1238, 1263, 1276, 1313, 1362, 1387, 1412, 1425, 1450, 1475, 1500]
def zpc (k : Nat) : Nat := match zpcs[k]? with
  | some p => p
  | none => 1525
def zρ (E : zE) (i z : Int32) : Nat → Int := fun k => if k = 0 then 0 else if k = 1 then (E.2.2.1 : Int) else if k = 2 then i.toInt else if k < 9 then (E.2.2.2.1 (i.toInt + ((k : Int) - 3)).toNat).toInt else z.toInt
def zK1 : gK := fun ret _ => ret = some (.int 1)
end
section ZL2
variable {E : zE} {oX oM oO oT ax am ao : Nat}
theorem and_63 (x : Int32) : 0 ≤ (x &&& 63).toInt ∧ (x &&& 63).toInt ≤ 63 := by
  have e : (x &&& 63).toBitVec.toNat = x.toBitVec.toNat &&& 63 := by
    rw [Int32.toBitVec_and, BitVec.toNat_and]
    rfl
  have hle : (x &&& 63).toBitVec.toNat ≤ 63 := by rw [e]; exact Nat.and_le_right
  have h2 : (x &&& 63).toInt = ((x &&& 63).toBitVec.toNat : Int) := BitVec.toInt_eq_toNat_of_lt (by omega)
  omega
theorem z_offs : ∀ k, k < 46 → (#[(200), (273), (298), (311), (324), (364), (401), (438), (463), (500), (525), (574), (623), (660), (685), (722), (747), (772), (785), (822), (847), (872), (909), (922), (959), (984), (1009), (1034), (1059), (1072), (1085), (1110), (1135), (1148), (1173), (1198), (1223), (1236), (1273), (1322), (1347), (1372), (1385), (1410), (1435), (1460)] : Array Int).toList[k]? = some ((zpc k : Int) - 40) := by decide +kernel
theorem z_head {i : Int32} {ws : va_W} {ce sl : Nat} {K : gK} (h0 : 0 ≤ i.toInt) (hLS : E.2.2.1 ≤ 3072) (hx : K (some (.int 1)) ws) (hce : ce ≤ 601024) (hsl : sl ≤ 7293034) (hC : i.toInt + 6 ≤ (E.2.2.1 : Int) → ∀ k : Nat, zGl E (zpc k) (zlv E ax am ao i) [] ws ce sl K) : zGl E 23 (zlv E ax am ao i) [] ws ce sl K := by
  refine g_iload (j := 4) (len := 2) (i := .iload 4) (Or.inl ⟨rfl, rfl⟩) (List.mem_of_getElem? (l := ga_297) (i := 13) rfl) (z := i) (List.mem_cons_of_mem _ (List.mem_cons_of_mem _ (List.mem_cons_of_mem _ (List.mem_cons_of_mem _ List.mem_cons_self)))) ?_
  refine g_aload (j := 0) (len := 1) (i := .aload_n 0) (Or.inr ⟨0, rfl, rfl, rfl⟩) (List.mem_of_getElem? (l := ga_297) (i := 14) rfl) (a := E.1) List.mem_cons_self ?_
  refine g_slen rfl (List.mem_of_getElem? (l := ga_297) (i := 15) rfl) ?_
  refine g_bipush (List.mem_of_getElem? (l := ga_297) (i := 16) rfl) ?_
  refine g_isub (List.mem_of_getElem? (l := ga_297) (i := 17) rfl) ?_
  have eL : (Int32.ofNat E.2.2.1).toInt = (E.2.2.1 : Int) := Int32.toInt_ofNat_of_lt (by omega)
  have eL6 : (Int32.ofNat E.2.2.1 - Int32.ofInt 6).toInt = (E.2.2.1 : Int) - 6 := by
    rw [i_sub (x := Int32.ofNat E.2.2.1) (y := Int32.ofInt 6) (by rw [eL]; show -2147483648 ≤ (E.2.2.1 : Int) - 6; omega) (by rw [eL]; show (E.2.2.1 : Int) - 6 ≤ 2147483647; omega), eL]
    rfl
  refine g_icmp (t := 1531) (List.mem_of_getElem? (l := ga_297) (i := 18) rfl) (by decide) (fun hc => ?_) (fun hc => ?_)
  · refine g_iconst (n := 1) (List.mem_of_getElem? (l := ga_297) (i := 920) (by decide +kernel)) ?_
    exact g_ireturn (List.mem_of_getElem? (l := ga_297) (i := 921) (by decide +kernel)) (Or.inr ⟨Or.inr rfl, Or.inr rfl⟩) hce hsl hx
  · have hc : ¬ (Int32.ofNat E.2.2.1 - Int32.ofInt 6 < i) := hc
    rw [Int32.lt_iff_toInt_lt, eL6] at hc
    have hi : i.toInt + 6 ≤ (E.2.2.1 : Int) := by omega
    refine g_aload (j := 0) (len := 1) (i := .aload_n 0) (Or.inr ⟨0, rfl, rfl, rfl⟩) (List.mem_of_getElem? (l := ga_297) (i := 19) rfl) (a := E.1) List.mem_cons_self ?_
    refine g_iload (j := 4) (len := 2) (i := .iload 4) (Or.inl ⟨rfl, rfl⟩) (List.mem_of_getElem? (l := ga_297) (i := 20) rfl) (z := i) (List.mem_cons_of_mem _ (List.mem_cons_of_mem _ (List.mem_cons_of_mem _ (List.mem_cons_of_mem _ List.mem_cons_self)))) ?_
    refine g_sld rfl (List.mem_of_getElem? (l := ga_297) (i := 21) rfl) (vp_of (lo := i.toInt) (hi := i.toInt) (Int.le_refl _) (Int.le_refl _) h0 (by omega)).1 ?_
    refine g_bipush (List.mem_of_getElem? (l := ga_297) (i := 22) rfl) ?_
    refine g_iand (List.mem_of_getElem? (l := ga_297) (i := 23) rfl) ?_
    generalize E.2.2.2.1 i.toNatClampNeg = x
    have hx63 := and_63 x
    refine g_table (List.mem_of_getElem? (l := ga_297) (i := 24) rfl) (fun hr => ⟨1525, by decide, ?_⟩) (fun hr => ?_)
    · have := hC hi 46
      exact this
    · have hr : ¬ ((x &&& 63).toInt < 0 ∨ 45 < (x &&& 63).toInt) := hr
      have hk : (x &&& 63).toInt.toNat < 46 := by omega
      have h3 := hC hi (x &&& 63).toInt.toNat
      have ek : ((x &&& 63).toInt - 0).toNat = (x &&& 63).toInt.toNat := by omega
      generalize (x &&& 63).toInt.toNat = k at hk h3 ek
      refine ⟨(zpc k : Int) - 40, zpc k, ?_, by omega, h3⟩
      show _[((x &&& 63).toInt - 0).toNat]? = _
      rw [ek]
      exact z_offs k hk
end ZL2
