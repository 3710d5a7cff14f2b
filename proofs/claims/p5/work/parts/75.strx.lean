/-! EXACT: what a keyword's code is -/
def kChx (v : Int32) (x : Option Value) : Prop := x = some (.int v)
def kLgx (v : Int64) (x : Option Value) : Prop := x = some (.long v)
def kch (v : Int32) : Int32 := ((v &&& 255).toUInt32 % 65536).toInt32
def kcw (z : Int64) (q : Int32) : Int64 := z * 27 + (q - 97 + 1).toInt64
theorem k_tn (k : Nat) (h : k < 1000) : (Int32.ofNat k).toNatClampNeg = k := Int32.toNatClampNeg_ofNat_of_lt (by omega)
theorem m_lcharAtx (l : Launch) (base a av n : Nat) (f : Nat → Int32) (k : Nat) (hk : k < n) (hn : n ≤ 1000) : Met l yJ1_charAt_3b067 (Cond.code yJ1_charAt_3b067 cJ1_charAt_3b067 2 (some .char) :: Tb1) (rm00 2 43) (kPc (kF base a av n f) [.ref av, .int (Int32.ofNat k)]) (kQc (kChx (kch (f k)))) 0 0 kNo := by
  refine k_met (by decide) (Nat.le_refl _) ?_
  intro p e s m below meth c lsA ⟨hx, hb, hml, hown, hts⟩ hr hlocks hF hl
  have hl : lv_has lsA 2 [(0, .ref av), (1, .int (Int32.ofNat k))] := hl
  have hS : va_S (fun q => base ≤ q) s.heap s.heap [] := va_S.rf
  refine lv_iload_n hx hb (by decide +kernel : decode cJ1_charAt_3b067 0 = .ok (.iload_n 1, 1)) rfl (lv_at hl 1 rfl) ?_
  refine lv_aload_n hx hb (by decide +kernel : decode cJ1_charAt_3b067 1 = .ok (.aload_n 0, 1)) rfl (lv_at hl 0 rfl) ?_
  refine va_tlen hx hb hF.2.2.2.1 hS rfl (by decide +kernel : decode cJ1_charAt_3b067 2 = .ok (.arraylength, 1)) ?_
  refine k_callS (n := 2) (asx := [.int (Int32.ofNat k), .int (Int32.ofNat n)]) (rx := []) (m_check l base a av n f k hk hn) ⟨rfl, rfl⟩ kF_ok ⟨hx, hb, hml, hown, hts⟩ (tbT 69 (by decide +kernel) rfl) (tbT 3 (by decide +kernel) rfl) (tbT 67 (by decide +kernel) rfl) (tbT 68 (by decide +kernel) rfl) (by decide +kernel) ⟨Nat.le_refl _, Nat.le_refl _⟩ hF hS rfl hl.1 (Nat.zero_le _) ⟨Nat.zero_le _, Nat.zero_le _⟩ (by decide +kernel : decode cJ1_charAt_3b067 3 = .ok (.invokestatic 9, 3)) (fun x hx2 => ?_)
  subst hx2
  refine lv_aload_n hx hb (by decide +kernel : decode cJ1_charAt_3b067 6 = .ok (.aload_n 0, 1)) rfl (lv_at hl 0 rfl) ?_
  refine lv_iload_n hx hb (by decide +kernel : decode cJ1_charAt_3b067 7 = .ok (.iload_n 1, 1)) rfl (lv_at hl 1 rfl) ?_
  refine va_tb (v := .int (f k)) hx hb hF.2.2.2.1 hS (e_in (i := k) hk (by omega)) (by show Value.int (f (Int32.ofNat k).toNatClampNeg) = _; rw [k_tn k (by omega)]) (by decide +kernel : decode cJ1_charAt_3b067 8 = .ok (.baload, 1)) ?_
  refine lv_sipush (v := 255) hx hb (by decide +kernel : decode cJ1_charAt_3b067 9 = .ok (.sipush 255, 3)) (by decide) ?_
  refine lv_iand hx hb (by decide +kernel : decode cJ1_charAt_3b067 12 = .ok (.iand, 1)) ?_
  refine lv_i2c hx hb (by decide +kernel : decode cJ1_charAt_3b067 13 = .ok (.i2c, 1)) rfl ?_
  exact W.zret (ty := .char) hx hb hr (pk_nc _) (fun t ht _ => ⟨_, rfl, rfl, ht⟩) (k_no rfl) (by decide +kernel : decode cJ1_charAt_3b067 14 = .ok (.ireturn, 1))
theorem m_charAtx (l : Launch) (base a av n : Nat) (f : Nat → Int32) (k : Nat) (hk : k < n) (hn : n ≤ 1000) : Met l yJ0_charAt_5068e (Cond.code yJ0_charAt_5068e cJ0_charAt_5068e 2 (some .char) :: Tb1) (rm00 3 64) (kPc (kF base a av n f) [.ref a, .int (Int32.ofNat k)]) (kQc (kChx (kch (f k)))) 0 0 kNo := by
  refine k_met (by decide) (Nat.le_refl _) ?_
  intro p e s m below meth c lsA ⟨hx, hb, hml, hown, hts⟩ hr hlocks hF hl
  have hl : lv_has lsA 2 [(0, .ref a), (1, .int (Int32.ofNat k))] := hl
  have hS : va_S (fun q => base ≤ q) s.heap s.heap [] := va_S.rf
  refine lv_aload_n hx hb (by decide +kernel : decode cJ0_charAt_5068e 0 = .ok (.aload_n 0, 1)) rfl (lv_at hl 0 rfl) ?_
  refine k_callV (As := []) (rx := []) (m_isLatin1 l base a av n f) ⟨rfl, rfl⟩ kF_ok ⟨hx, hb, hml, hown, hts⟩ (tbT 63 (by decide +kernel) rfl) (tbT 3 (by decide +kernel) rfl) (tbT 60 (by decide +kernel) rfl) (tbT 61 (by decide +kernel) rfl) (tbT 62 (by decide +kernel) rfl) (by decide +kernel) ⟨Nat.le_of_ble_eq_true rfl, Nat.le_of_ble_eq_true rfl⟩ hF hS hF.1 rfl hl.1 (Nat.zero_le _) ⟨Nat.zero_le _, Nat.zero_le _⟩ (by decide +kernel : decode cJ0_charAt_5068e 1 = .ok (.invokevirtual 492, 3)) (fun x hx2 => ?_)
  subst hx2
  refine lv_if_eq (tgt := 16) hx hb (by decide +kernel : decode cJ0_charAt_5068e 4 = .ok (.ifCond .eq 12, 3)) (by decide) (fun z => absurd z (by decide)) (fun _ => ?_)
  refine lv_aload_n hx hb (by decide +kernel : decode cJ0_charAt_5068e 7 = .ok (.aload_n 0, 1)) rfl (lv_at hl 0 rfl) ?_
  refine vk_getf (v := .ref av) hx hb hF.2.2.1 hS hown (hts _ (tbT 2072 (by decide +kernel) rfl)) (fun _ z => z) (by decide +kernel : decode cJ0_charAt_5068e 8 = .ok (.getfield 9, 3)) ?_
  refine lv_iload_n hx hb (by decide +kernel : decode cJ0_charAt_5068e 11 = .ok (.iload_n 1, 1)) rfl (lv_at hl 1 rfl) ?_
  refine k_callS (n := 2) (asx := [.ref av, .int (Int32.ofNat k)]) (rx := []) (m_lcharAtx l base a av n f k hk hn) ⟨rfl, rfl⟩ kF_ok ⟨hx, hb, hml, hown, hts⟩ (tbT 66 (by decide +kernel) rfl) (tbT 4 (by decide +kernel) rfl) (tbT 64 (by decide +kernel) rfl) (tbT 65 (by decide +kernel) rfl) (by decide +kernel) ⟨Nat.le_refl _, Nat.le_refl _⟩ hF hS rfl hl.1 (Nat.zero_le _) ⟨Nat.zero_le _, Nat.zero_le _⟩ (by decide +kernel : decode cJ0_charAt_5068e 12 = .ok (.invokestatic 495, 3)) (fun x hx2 => ?_)
  have hz : narrow .char (.int (kch (f k))) = .int (kch (f k)) := pk_nc _
  subst hx2
  exact W.zret (ty := .char) hx hb hr hz (fun t ht _ => ⟨_, rfl, rfl, ht⟩) (k_no rfl) (by decide +kernel : decode cJ0_charAt_5068e 15 = .ok (.ireturn, 1))
theorem m_codeWithx (l : Launch) (z : Int64) (q : Int32) : Met l yX7_codeWith (Cond.code yX7_codeWith cX7_codeWith 3 (some .long) :: Tb1) (rm00 0 0) (kPc (fun _ => True) [.long z, .int q]) (kQc (kLgx (kcw z q))) 0 0 kNo := by
  refine k_met (by decide) (Nat.le_refl _) ?_
  intro p e s m below meth c lsA ⟨hx, hb, hml, hown, hts⟩ hr hlocks hF hl
  have hl : lv_has lsA 3 [(0, .long z), (2, .int q)] := hl
  refine lv_lload_n hx hb (by decide +kernel : decode cX7_codeWith 0 = .ok (.lload_n 0, 1)) rfl (lv_at hl 0 rfl) ?_
  refine lv_ldc2 (v := 27) hx hb hown (hts _ (tbT 97 (by decide +kernel) rfl)) (by decide +kernel : decode cX7_codeWith 1 = .ok (.ldc2_w 43, 3)) ?_
  refine lv_lmul hx hb (by decide +kernel : decode cX7_codeWith 4 = .ok (.lmul, 1)) ?_
  refine lv_iload_n hx hb (by decide +kernel : decode cX7_codeWith 5 = .ok (.iload_n 2, 1)) rfl (lv_at hl 1 rfl) ?_
  refine lv_bipush (v := 97) hx hb (by decide +kernel : decode cX7_codeWith 6 = .ok (.bipush 97, 2)) (by decide) ?_
  refine lv_isub hx hb (by decide +kernel : decode cX7_codeWith 8 = .ok (.isub, 1)) ?_
  refine lv_iconst (v := 1) hx hb (by decide +kernel : decode cX7_codeWith 9 = .ok (.iconst 1, 1)) (by decide) ?_
  refine lv_iadd hx hb (by decide +kernel : decode cX7_codeWith 10 = .ok (.iadd, 1)) ?_
  refine lv_i2l hx hb (by decide +kernel : decode cX7_codeWith 11 = .ok (.i2l, 1)) rfl ?_
  refine lv_ladd hx hb (by decide +kernel : decode cX7_codeWith 12 = .ok (.ladd, 1)) ?_
  exact W.lret hx hb hr (fun t ht _ => ⟨_, rfl, rfl, ht⟩) (k_no rfl) (by decide +kernel : decode cX7_codeWith 13 = .ok (.lreturn, 1))
