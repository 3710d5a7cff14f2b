/-! THE LAW'S OWN room: the class's room answers or throws, and the law's method catches -/
def xNS : String := "java/util/NoSuchElementException"
def xN1 : String := "java/lang/RuntimeException"
def xN2 : List String := ["java/lang/Exception"]
abbrev cNS : ByteArray := prog_30_method_4_code
abbrev cL_room : ByteArray := method_3_code
def yL_room : MethodName := ⟨eCN 13, "room", "(LWardrobeRow;II[J)I"⟩
def rm_xr : Room := { frames := 20, cells := 1, slots := 6, locals := 300 }
def rm_lr : Room := { frames := 21, cells := 1, slots := 6, locals := 330 }
theorem gd_298 : ∀ t ∈ ga_298, decode cL_room t.1 = .ok (t.2.1, t.2.2) := by decide +kernel
theorem ge_298 : ga_298.all (fun t => (est t.1 t.2.1 5 && elen t.2.1 t.2.2) && estL t.2.1 5) = true := by decide +kernel
theorem x_good : ∀ w ∈ (vx_atS (eCN 11) 147 xNS 13 cNS xN1 xN2).filter goodWord, w ∈ lw_tbl := by decide +kernel
theorem x_bad : ∀ w ∈ (vx_atS (eCN 11) 147 xNS 13 cNS xN1 xN2).filter (fun w => !goodWord w), w ∈ [Cond.castable xNS xNS, .declares ⟨"java/lang/RuntimeException", "<init>", "(Ljava/lang/String;)V"⟩, .declares ⟨"java/lang/Exception", "<init>", "(Ljava/lang/String;)V"⟩, .declares ⟨"java/lang/Throwable", "<init>", "(Ljava/lang/String;)V"⟩] := by decide +kernel
theorem x_ot : ∀ w ∈ Cond.classLink (eCN 11) 143 xNS :: Cond.initialized xNS :: vx_atS (eCN 11) 147 xNS 13 cNS xN1 xN2, vx_ot w = true := by decide +kernel
noncomputable section
abbrev zE1 (b base LS : Nat) (xs : Nat → Int32) (D : va_G) (tys : List (ClassId × FieldType)) (l : Launch) (so ad : List Nat) : zE := (b, base, LS, xs, D, vwCl, tys, Tb1, NF1 base, l, eCN, so, ad)
/-- the world is right, and as it was but for md -/
def rmK (tys : List (ClassId × FieldType)) (so ad : List Nat) (md : aMd) (ws ws2 : va_W) : Prop := wOk so ad tys gST ws2 ∧ jOk so gJ1 ws2 ∧ fRel so md ws ws2
def rmX (base : Nat) (D : va_G) (tys : List (ClassId × FieldType)) (so ad : List Nat) (ws : va_W) : String → State → State → Prop := fun E st t => E = xNS ∧ (∃ ws2, rmK tys so ad [] ws ws2 ∧ va_K D vwCl tys t ∧ va_P D vwCl ws2 t.heap ∧ va_D (fun q => base ≤ q) ws2) ∧ va_F (fun q => base ≤ q) st t
end
section RM
variable {b base LS : Nat} {xs : Nat → Int32} {D : va_G} {tys : List (ClassId × FieldType)} {l : Launch} {so ad : List Nat}
theorem fRel_mono {md : aMd} {ws ws2 : va_W} (h : fRel so [] ws ws2) : fRel so md ws ws2 := fun o t i ht _ => h o t i ht (fun q hq => absurd hq List.not_mem_nil)
theorem rm_int {lo hi : Int} {ret : Option Value} (h : rtOk so ad (some (.inl (lo, hi))) ret) : ∃ z : Int32, ret = some (.int z) ∧ lo ≤ z.toInt ∧ z.toInt ≤ hi := by
  cases ret with
  | none => exact absurd h id
  | some x =>
    obtain ⟨z, rfl, h1, h2⟩ := h
    exact ⟨z, rfl, h1, h2⟩
theorem rm_one {c : aCon} {md : aMd} {lo hi : Int} {asx : List Value} {ws ws2 : va_W} {ret : Option Value} (hc : c.2.2.1 = [(some (.inl (lo, hi)), [])]) (hm : c.2.2.2 = md) (h : cPost tys so ad gST gJ1 c asx ws ret ws2) : rmK tys so ad md ws ws2 ∧ ∃ z : Int32, ret = some (.int z) ∧ lo ≤ z.toInt ∧ z.toInt ≤ hi := by
  obtain ⟨p1, p2, p3, al, p4, p5, -⟩ := h
  rw [hc] at p4
  have e := List.mem_singleton.mp p4
  subst e
  rw [hm] at p3
  exact ⟨⟨p1, p2, p3⟩, rm_int p5⟩
theorem z_isr (B : zB (zE1 b base LS xs D tys l so ad)) (A : zA (zE1 b base LS xs D tys l so ad) gJ1) {ws : va_W} (hw : wOk so ad tys gST ws) (hj : jOk so gJ1 ws) {o xa : Nat} (ho : so[o]? = some 11) (ha : ad[o]? = some xa) (z0 : Int32) :
    gG b base LS xs D vwCl tys Tb1 (NF1 base) l eCN gm_141 0 (lv_args 0 [.ref xa, .int z0]) [] ws 0 0 (fun ret ws2 => rmK tys so ad [] ws ws2 ∧ ∃ z : Int32, ret = some (.int z) ∧ (z = 0 ∨ (0 ≤ z0.toInt ∧ z0.toInt ≤ 11))) := by
  have lo : -2147483648 ≤ z0.toInt := Int32.le_toInt z0
  have hi : z0.toInt ≤ 2147483647 := Int32.toInt_le z0
  have zz : ∀ z : Int32, 0 ≤ z.toInt → z.toInt ≤ 0 → z = 0 := fun z h1 h2 => Int32.toInt_inj.mp (by show z.toInt = 0; omega)
  by_cases h1 : z0.toInt < 0
  · refine gG_mono ?_ (zc_141_a B A [.ref xa, .int z0] ws hw hj ⟨⟨o, xa, ho, ha, rfl⟩, ⟨z0, rfl, by show (-2147483648 : Int) ≤ _; omega, by show _ ≤ (-1 : Int); omega⟩, trivial⟩)
    intro ret ws2 h
    obtain ⟨k, z, e, g1, g2⟩ := rm_one rfl rfl h
    exact ⟨k, z, e, Or.inl (zz z g1 g2)⟩
  · by_cases h2 : z0.toInt ≤ 11
    · refine gG_mono ?_ (zc_141_c B A [.ref xa, .int z0] ws hw hj ⟨⟨o, xa, ho, ha, rfl⟩, ⟨z0, rfl, by show (0 : Int) ≤ _; omega, by show _ ≤ (11 : Int); omega⟩, trivial⟩)
      intro ret ws2 h
      obtain ⟨k, z, e, g1, g2⟩ := rm_one rfl rfl h
      exact ⟨k, z, e, Or.inr ⟨by omega, h2⟩⟩
    · refine gG_mono ?_ (zc_141_b B A [.ref xa, .int z0] ws hw hj ⟨⟨o, xa, ho, ha, rfl⟩, ⟨z0, rfl, by show (12 : Int) ≤ _; omega, by show _ ≤ (2147483647 : Int); omega⟩, trivial⟩)
      intro ret ws2 h
      obtain ⟨k, z, e, g1, g2⟩ := rm_one rfl rfl h
      exact ⟨k, z, e, Or.inl (zz z g1 g2)⟩
/-- the thing of sort 11 in the world -/
theorem z_x11 {ws : va_W} (hw : wOk so ad tys gST ws) {o xa : Nat} (ho : so[o]? = some 11) (ha : ad[o]? = some xa) : ∃ fs : List Value, ws[o]? = some (xa, (.inr (11, fs) : va_E)) := by
  obtain ⟨a, e, g1, g2, g3⟩ := w0_at (ST := gST) (tys := tys) ⟨hw.1, hw.2.1, fun o t q hq ht => (hw.2.2 o t q hq ht).1⟩ ho
  unfold eOk at g3
  obtain ⟨ob, hob, hf⟩ : ∃ ob, gST 11 = some (.inl ob) ∧ ob.1 = 11 := ⟨_, rfl, rfl⟩
  rw [hob] at g3
  obtain ⟨fs, rfl, -, -⟩ := g3
  rw [ha] at g2
  cases g2
  rw [hf] at g1
  exact ⟨fs, g1⟩
theorem m_room (hst : l.stackTraces = false) (B0 : zB (zE1 b base LS xs D tys l so ad)) (A : zA (zE1 b base LS xs D tys l so ad) gJ1) {ws : va_W} (hw : wOk so ad tys gST ws) (hj : jOk so gJ1 ws) {o xa : Nat} (ho : so[o]? = some 11) (ha : ad[o]? = some xa) (z0 z1 : Int32) :
    vx_Met l yX11_room (Cond.code yX11_room cX11_room 3 (some .int) :: Tb1) rm_xr (ePc base D vwCl (NF1 base) ws tys [.ref xa, .int z0, .int z1]) (gQc base D vwCl tys (fun ret ws2 => rmK tys so ad [] ws ws2 ∧ ∃ z : Int32, ret = some (.int z))) (rmX base D tys so ad ws) 1 6 (fun a => base ≤ a) := by
  refine vx_ofW (cc := cX11_room) (maxL := 3) (ret := some .int) (by decide +kernel) rfl ?_
  intro p e s m args below meth c s₁ B hml htab hv
  obtain ⟨rfl, hnf, hbase, hK, hP, hD⟩ := hv
  obtain ⟨fs, hx11⟩ := z_x11 hw ho ha
  have hx := B.exec
  have hb := B.bytes
  have hretm := B.returns
  have hts0 := atoms_spec (ws := Cond.code yX11_room cX11_room 3 (some .int) :: Tb1) B.pre
  have hts : ∀ w ∈ Tb1, w.before _ s = true := fun w hw => hts0 w (List.mem_cons_of_mem _ hw)
  have hown : s.vm.findClass (eCN 11) = some m.cls := findClass_of_methodNamed B.named
  have hlocks := B.notSynchronized
  have hl := lv_entry [Value.ref xa, .int z0, .int z1] (n := 3) (by rw [lg_len]; exact Nat.le_refl 3)
  rw [lg_entry_eq]
  generalize (lg_sl [Value.ref xa, .int z0, .int z1] ++ List.replicate (3 - (lg_sl [Value.ref xa, .int z0, .int z1]).length) Slot.unset).toArray = lsA at hl ⊢
  have hM : Met l yX11_isRoom (Cond.code yX11_isRoom cX11_isRoom 2 (some .boolean) :: Tb1) (eRoom gm_141) (ePc base D vwCl (NF1 base) ws tys [.ref xa, .int z0]) (gQc base D vwCl tys (fun ret ws2 => rmK tys so ad [] ws ws2 ∧ ∃ z : Int32, ret = some (.int z) ∧ (z = 0 ∨ (0 ≤ z0.toInt ∧ z0.toInt ≤ 11)))) 0 0 (fun a => base ≤ a) := g_met vm_141 (Nat.le_refl 2) (z_isr B0 A hw hj ho ha z0)
  have S : CallFix p m c cX11_room 3 s [Value.ref xa, .int z0, .int z1].toArray Tb1 (eCN 11) := ⟨hx, hb, hml, hown, hts⟩
  have hG : GoodIn Tb1 (Cond.code yX11_isRoom cX11_isRoom 2 (some .boolean) :: Tb1) := e_goodIn tb_good (fun w z => (List.mem_cons.mp z).elim (fun z => by rw [z]; exact vm_141.1) (fun z => z))
  refine lv_aload_n hx hb (by decide +kernel : decode cX11_room 0 = .ok (.aload_n 0, 1)) rfl (lv_at hl 0 rfl) ?_
  refine lv_iload_n hx hb (by decide +kernel : decode cX11_room 1 = .ok (.iload_n 1, 1)) rfl (lv_at hl 1 rfl) ?_
  have hr := va_runV (l := l) (e := e) (R := (headSpec (Cond.code yX11_room cX11_room 3 (some .int) :: Tb1) rm_xr).room) (below := below) (meth := meth) (H := s.heap) (locs := []) (cells := 0) (slots := 0) (g := F0 m 2 lsA [.int z0, .ref xa]) (rest := []) (As := [.int z0]) (b := xa) (n := 1) (C := eCN 11) S hM
    ⟨callB_of 1 hts hG rfl rfl rfl (hts _ vm_141.2.1) (hts _ (tbT 761 (by decide +kernel) rfl : Cond.methodLink (eCN 11) 139 yX11_isRoom ∈ Tb1)) ⟨vm_141.2.2.2.2.1.1, vm_141.2.2.2.2.1.2, by decide +kernel⟩ ⟨by decide +kernel, by decide +kernel⟩, hts _ (tbT 763 (by decide +kernel) rfl), hts _ (tbS (y := yX11_isRoom) (n := 17) 14 (by decide +kernel) rfl)⟩
    ⟨e_blind (v_NF base), va_recv hK hP (q := (RX11, TX11, 17)) rfl hx11, fun U hU hW => ⟨rfl, (v_NF base).1 s U hnf hW (by rw [hU]; exact Nat.le_refl _) (fun q _ _ => by rw [hU]), by rw [hU]; exact hbase, va_K.moved hW.alike hK, by rw [hU]; exact hP, hD⟩⟩
    rfl rfl hl.1 rfl (lv_room (Nat.le_of_ble_eq_true rfl)) (by decide +kernel : decode cX11_room 2 = .ok (.invokevirtual 139, 3)) ⟨by decide +kernel, by decide +kernel⟩
  intro T hT X
  obtain ⟨v, st₀, t, T', L, h0, X', hL, e1, e2, ⟨⟨ret, ws2, ⟨hk1, zr, rfl, hzr⟩, hK2, hP2, hD2, hret⟩, hz, hkp⟩, st⟩ := hr T hT X
  rw [h0] at hz hkp
  cases hret
  have hS : va_S (fun q => base ≤ q) s.heap T'.heap ([] ++ L) := ⟨by rw [e1]; exact hz, fun q h1 h2 => by rw [e1]; exact hkp q h1 h2, fun q hq => hL q hq⟩
  have hKs : va_K D vwCl tys s := va_K.moved (by rw [← e2]; exact X'.warmed.alike.symm) hK2
  have hP3 : va_P D vwCl ws2 T'.heap := by rw [e1]; exact hP2
  obtain ⟨adK, adV, g1, g2, g3, g4, g5, g6, g7, g8, g9, g10⟩ := hnf.2.2
  have thr : W p l e (headSpec (Cond.code yX11_room cX11_room 3 (some .int) :: Tb1) rm_xr).room s m [Value.ref xa, .int z0, .int z1].toArray below meth c T'.heap ([] ++ L) (0 + 0) (0 + 0) (vx_MQ below (gQc base D vwCl tys (fun ret ws2 => rmK tys so ad [] ws ws2 ∧ ∃ z : Int32, ret = some (.int z))) (rmX base D tys so ad ws) [Value.ref xa, .int z0, .int z1].toArray s 1 6 (fun a => base ≤ a)) (F0 m 17 lsA []) := by
    refine vx_throwS (rest := []) hx hb hst (own := eCN 11) (cls := xNS) (text := scTx 3) (n1 := xN1) (n2 := xN2) (ix := 13) (rx := cNS) (ik := 143) (is := 145) (ic := 147) (sa := adK 3) (A := fun q => base ≤ q) (by decide +kernel) (by decide +kernel) (by decide +kernel) (by decide +kernel) hown (by decide +kernel) (by decide +kernel) (by decide +kernel)
      (hts _ (tbT 1293 (by decide +kernel) rfl)) (hts _ (tbT 24 (by decide +kernel) rfl)) g5
      (vx_hat (fun w hw => hts w (List.mem_filter.mpr ⟨x_good w hw, (List.mem_filter.mp hw).2⟩)) x_bad (vx_c (va_Nw.use rfl g10.1) (vx_c (va_Nw.use rfl g10.2.1) (vx_c (va_Nw.use rfl g10.2.2.1) (vx_c (va_Nw.use rfl g10.2.2.2) vx_n))))) x_ot g8 g9 hS (by rw [hml]; exact hl.1)
      (by decide +kernel : decode cX11_room 17 = .ok (.new 143, 3)) (by decide +kernel : decode cX11_room 20 = .ok (.dup, 1)) (by decide +kernel : decode cX11_room 21 = .ok (.ldc 145, 2)) (by decide +kernel : decode cX11_room 23 = .ok (.invokespecial 147, 3)) (by decide +kernel : decode cX11_room 26 = .ok (.athrow, 1))
      (fun z hz => (htab z hz).elim) (by decide +kernel) (by decide +kernel) (by decide +kernel) (by decide +kernel) hlocks ?_ (fun z hz => hL z hz) (by decide) (by decide)
    intro t9 ha h1 h2
    exact ⟨rfl, ⟨ws2, hk1, va_K.moved ha hKs, va_P.kept hP3 (fun k q hq => h2 q.1 (hP3 k q hq).lt), hD2⟩, Nat.le_trans hS.1 h1, fun q q1 q2 => by rw [h2 q (Nat.lt_of_lt_of_le q1 hS.1)]; exact hS.2.1 q q1 q2⟩
  have Kk : W p l e (headSpec (Cond.code yX11_room cX11_room 3 (some .int) :: Tb1) rm_xr).room s m [Value.ref xa, .int z0, .int z1].toArray below meth c T'.heap ([] ++ L) (0 + 0) (0 + 0) (vx_MQ below (gQc base D vwCl tys (fun ret ws2 => rmK tys so ad [] ws ws2 ∧ ∃ z : Int32, ret = some (.int z))) (rmX base D tys so ad ws) [Value.ref xa, .int z0, .int z1].toArray s 1 6 (fun a => base ≤ a)) (F0 m 5 lsA [.int zr]) := by
    refine lv_if_eq (tgt := 17) hx hb (by decide +kernel : decode cX11_room 5 = .ok (.ifCond .eq 12, 3)) (by decide) (fun _ => thr) (fun hne => ?_)
    have hz0 : 0 ≤ z0.toInt ∧ z0.toInt ≤ 11 := hzr.resolve_left hne
    refine lv_iload_n hx hb (by decide +kernel : decode cX11_room 8 = .ok (.iload_n 2, 1)) rfl (lv_at hl 2 rfl) ?_
    refine e_ifc .lt hx hb (by decide +kernel : decode cX11_room 9 = .ok (.ifCond .lt 8, 3)) (by decide) (fun _ => ⟨17, by decide, thr⟩) (fun hge => ?_)
    refine lv_iload_n hx hb (by decide +kernel : decode cX11_room 12 = .ok (.iload_n 2, 1)) rfl (lv_at hl 2 rfl) ?_
    refine lv_iconst (v := 4) hx hb (by decide +kernel : decode cX11_room 13 = .ok (.iconst 4, 1)) (by decide) ?_
    refine e_icmp .le hx hb (by decide +kernel : decode cX11_room 14 = .ok (.if_icmp .le 13, 3)) (by decide) (fun hle => ⟨27, by decide, ?_⟩) (fun _ => thr)
    have hge : ¬ z1 < 0 := hge
    have hle : z1 ≤ 4 := hle
    rw [Int32.lt_iff_toInt_lt] at hge
    rw [Int32.le_iff_toInt_le] at hle
    have hge : ¬ z1.toInt < 0 := hge
    have hle : z1.toInt ≤ 4 := hle
    have hG27 := c_mid (XT := gXT) (q := (gy_157, 3)) (z_val B0 A (zP_cons rfl (zF_cons (zc_18_0 B0 A) zF_nil) (zP_cons rfl (zF_cons (zc_89_0 B0 A) zF_nil) zP_nil))) (by decide +kernel) (by decide) (by decide) (fun t ht => List.all_eq_true.mp (show elens gy_157 = true from by decide +kernel) t ht) gk_157_m [.ref xa, .int z0, .int z1] ws2 hk1.1 hk1.2.1 ⟨⟨o, xa, ho, ha, rfl⟩, ⟨z0, rfl, hz0.1, hz0.2⟩, ⟨z1, rfl, by show (0 : Int) ≤ _; omega, by show _ ≤ (4 : Int); omega⟩, trivial⟩
    have XX : gCx b base LS xs Tb1 (NF1 base) eCN p (headSpec (Cond.code yX11_room cX11_room 3 (some .int) :: Tb1) rm_xr).room s m [Value.ref xa, .int z0, .int z1].toArray meth c gy_157 cX11_room 3 := ⟨hx, hb, hml, hown, hts, hnf, hbase, ⟨rfl, rfl, rfl, rfl⟩, g_dk gd_157 ge_157, fun z => absurd z (by decide)⟩
    refine hG27 p e _ s m _ below meth c _ cX11_room 3 XX ?_ T'.heap ([] ++ L) lsA ⟨hKs, hP3, hD2, hS⟩ hl
    intro rv ws3 hk3 H locs hw3 i pc lsB stA hret hdec ce sl hce hsl
    obtain ⟨k3, z, rfl, -, -⟩ := rm_one (md := []) rfl rfl hk3
    obtain ⟨rfl, hkind⟩ := hret
    rcases hkind with ⟨rfl, -⟩ | ⟨-, hk4, -⟩ | ⟨-, hk3, -⟩
    · refine vx_ret (W.widen hce hsl (W.iret hx hb hretm ?_ (fun z hz => hw3.2.2.2.2.2 z hz) hdec hlocks))
      intro t9 ht9 hW9
      exact ⟨⟨_, ws3, ⟨⟨k3.1, k3.2.1, fRel_tr hk1.2.2 k3.2.2 (fun q hq => absurd hq List.not_mem_nil)⟩, z, rfl⟩, va_K.moved hW9.alike hw3.1, by rw [ht9]; exact hw3.2.1, hw3.2.2.1, rfl⟩, hw3.2.2.2.F ht9⟩
    · exact absurd hk4 (by decide)
    · exact absurd hk3 (by decide)
  obtain ⟨t2, a1, b1⟩ := Kk T' rfl X'
  exact ⟨t2, st t2 a1, b1⟩
theorem m_lroom (hst : l.stackTraces = false) (B0 : zB (zE1 b base LS xs D tys l so ad)) (A : zA (zE1 b base LS xs D tys l so ad) gJ1) {ws : va_W} (hw : wOk so ad tys gST ws) (hj : jOk so gJ1 ws) {o xa oo oa : Nat} (ho : so[o]? = some 11) (ha : ad[o]? = some xa) (hoo : so[oo]? = some 77) (hoa : ad[oo]? = some oa) (z0 z1 : Int32) {K : gK} (hKK : ∀ (z : Int32) (ws2 : va_W), rmK tys so ad [(77, 0, 1)] ws ws2 → K (some (.int z)) ws2) :
    Met l yL_room (Cond.codeWith yL_room cL_room 5 (some .int) [(0, 10, 13, 13)] :: Tb1) rm_lr (ePc base D vwCl (NF1 base) ws tys [Value.ref xa, .int z0, .int z1, .ref oa]) (gQc base D vwCl tys K) 1 6 (fun a => base ≤ a) := by
  refine va_MetW (cc := cL_room) (maxL := 5) (ret := some .int) (hh := [(0, 10, 13, 13)]) (by decide +kernel) rfl ?_
  intro p e s m args below meth c s₁ B hml hv
  obtain ⟨rfl, hnf, hbase, hK, hP, hD⟩ := hv
  obtain ⟨fs, hx11⟩ := z_x11 hw ho ha
  have hx := B.exec
  have hb := B.bytes
  have hretm := B.returns
  have hts0 := atoms_spec (ws := Cond.codeWith yL_room cL_room 5 (some .int) [(0, 10, 13, 13)] :: Tb1) B.pre
  have hts : ∀ w ∈ Tb1, w.before _ s = true := fun w hw => hts0 w (List.mem_cons_of_mem _ hw)
  have htab : c.exceptionTable.toList = tableOf [(0, 10, 13, 13)] := vx_table (x := yL_room) B (hts0 _ List.mem_cons_self)
  have hown : s.vm.findClass (eCN 13) = some m.cls := findClass_of_methodNamed B.named
  have hlocks := B.notSynchronized
  have hl := lv_entry [Value.ref xa, .int z0, .int z1, .ref oa] (n := 5) (by rw [lg_len]; exact Nat.le_succ 4)
  rw [lg_entry_eq]
  generalize (lg_sl [Value.ref xa, .int z0, .int z1, .ref oa] ++ List.replicate (5 - (lg_sl [Value.ref xa, .int z0, .int z1, .ref oa]).length) Slot.unset).toArray = lsA at hl ⊢
  have hM := m_room hst B0 A hw hj ho ha z0 z1
  have S : CallFix p m c cL_room 5 s [Value.ref xa, .int z0, .int z1, .ref oa].toArray Tb1 (eCN 13) := ⟨hx, hb, hml, hown, hts⟩
  have hcode : Cond.code yX11_room cX11_room 3 (some .int) ∈ Tb1 := tbT 1292 (by decide +kernel) rfl
  have hG : GoodIn Tb1 (Cond.code yX11_room cX11_room 3 (some .int) :: Tb1) := e_goodIn tb_good (fun w z => (List.mem_cons.mp z).elim (fun z => by rw [z]; exact hcode) (fun z => z))
  refine lv_aload_n hx hb (by decide +kernel : decode cL_room 0 = .ok (.aload_n 3, 1)) rfl (lv_at hl 3 rfl) ?_
  refine lv_iconst (v := 0) hx hb (by decide +kernel : decode cL_room 1 = .ok (.iconst 0, 1)) (by decide) ?_
  refine lv_aload_n hx hb (by decide +kernel : decode cL_room 2 = .ok (.aload_n 0, 1)) rfl (lv_at hl 0 rfl) ?_
  refine lv_iload_n hx hb (by decide +kernel : decode cL_room 3 = .ok (.iload_n 1, 1)) rfl (lv_at hl 1 rfl) ?_
  refine lv_iload_n hx hb (by decide +kernel : decode cL_room 4 = .ok (.iload_n 2, 1)) rfl (lv_at hl 2 rfl) ?_
  have hr := vx_runV (l := l) (e := e) (R := (headSpec (Cond.codeWith yL_room cL_room 5 (some .int) [(0, 10, 13, 13)] :: Tb1) rm_lr).room) (below := below) (meth := meth) (H := s.heap) (locs := []) (cells := 0) (slots := 0) (g := F0 m 5 lsA [.int z1, .int z0, .ref xa, .int 0, .ref oa]) (rest := [.int 0, .ref oa]) (As := [.int z0, .int z1]) (b := xa) (n := 2) (C := eCN 11) S hM
    ⟨callB_of 2 hts hG rfl rfl rfl (hts _ (tbT 1 (by decide +kernel) rfl : Cond.initialized (eCN 11) ∈ Tb1)) (hts _ (tbT 1289 (by decide +kernel) rfl : Cond.methodLink (eCN 13) 7 yX11_room ∈ Tb1)) ⟨by decide +kernel, by decide +kernel, by decide +kernel⟩ ⟨by decide +kernel, by decide +kernel⟩, hts _ (tbT 1290 (by decide +kernel) rfl), hts _ (tbT 1291 (by decide +kernel) rfl)⟩
    ⟨e_blind (v_NF base), va_recv hK hP (q := (RX11, TX11, 17)) rfl hx11, fun U hU hW => ⟨rfl, (v_NF base).1 s U hnf hW (by rw [hU]; exact Nat.le_refl _) (fun q _ _ => by rw [hU]), by rw [hU]; exact hbase, va_K.moved hW.alike hK, by rw [hU]; exact hP, hD⟩⟩
    rfl rfl hl.1 rfl (lv_room (Nat.le_of_ble_eq_true rfl)) (by decide +kernel : decode cL_room 5 = .ok (.invokevirtual 7, 3)) ⟨by decide +kernel, by decide +kernel⟩
  intro T hT X
  rcases hr T hT X with ⟨v, st₀, t, T', L, h0, X', hL, e1, e2, ⟨⟨ret, ws2, ⟨hk1, zr, rfl⟩, hK2, hP2, hD2, hret⟩, hz, hkp⟩, st⟩ | ⟨q, st₀, t, T', L, E, ce, h0, X', hL, e1, e2, ⟨rfl, ⟨ws2, hk1, hK2, hP2, hD2⟩, hz, hkp⟩, hce, hcv, hcl, st⟩
  · rw [h0] at hz hkp
    cases hret
    have hS : va_S (fun q => base ≤ q) s.heap T'.heap ([] ++ L) := ⟨by rw [e1]; exact hz, fun q h1 h2 => by rw [e1]; exact hkp q h1 h2, fun q hq => hL q hq⟩
    have hKs : va_K D vwCl tys s := va_K.moved (by rw [← e2]; exact X'.warmed.alike.symm) hK2
    have hP3 : va_P D vwCl ws2 T'.heap := by rw [e1]; exact hP2
    have XX : gCx b base LS xs Tb1 (NF1 base) eCN p (headSpec (Cond.codeWith yL_room cL_room 5 (some .int) [(0, 10, 13, 13)] :: Tb1) rm_lr).room s m [Value.ref xa, .int z0, .int z1, .ref oa].toArray meth c gy_298 cL_room 5 := ⟨hx, hb, hml, hown, hts, hnf, hbase, ⟨rfl, rfl, rfl, rfl⟩, g_dk gd_298 ge_298, fun z => absurd z (by decide)⟩
    have hG8 := c_stk (XT := gXT) (q := (gy_298, 5)) (z_val B0 A zP_nil) (by decide +kernel) (by decide) (by decide) (fun t ht => List.all_eq_true.mp (show elens gy_298 = true from by decide +kernel) t ht) gk_298_s [.int zr, .int 0, .ref oa] ws2 (0 + 1) (0 + 6) (by decide) (by decide) hk1.1 hk1.2.1 ⟨⟨zr, rfl, Int32.le_toInt zr, Int32.toInt_le zr⟩, ⟨0, rfl, by decide, by decide⟩, ⟨oo, oa, hoo, hoa, rfl⟩, trivial⟩
    have Kk : W p l e (headSpec (Cond.codeWith yL_room cL_room 5 (some .int) [(0, 10, 13, 13)] :: Tb1) rm_lr).room s m [Value.ref xa, .int z0, .int z1, .ref oa].toArray below meth c T'.heap ([] ++ L) (0 + 1) (0 + 6) (MQ below (gQc base D vwCl tys K) [Value.ref xa, .int z0, .int z1, .ref oa].toArray s 1 6 (fun a => base ≤ a)) (F0 m 8 lsA [.int zr, .int 0, .ref oa]) := by
      refine hG8 p e _ s m _ below meth c _ cL_room 5 XX ?_ T'.heap ([] ++ L) lsA ⟨hKs, hP3, hD2, hS⟩ ⟨hl.1, hl.2.1, fun q hq => absurd hq List.not_mem_nil⟩
      intro rv ws3 hk3 H locs hw3 i pc lsB stA hret hdec ce sl hce hsl
      obtain ⟨k3, z, rfl, -, -⟩ := rm_one (md := [(77, 0, 1)]) rfl rfl hk3
      obtain ⟨rfl, hkind⟩ := hret
      rcases hkind with ⟨rfl, -⟩ | ⟨-, hk4, -⟩ | ⟨-, hk3, -⟩
      · refine W.widen hce hsl (W.iret hx hb hretm ?_ (fun z hz => hw3.2.2.2.2.2 z hz) hdec hlocks)
        intro t9 ht9 hW9
        exact ⟨⟨_, ws3, hKK z ws3 ⟨k3.1, k3.2.1, fRel_tr (fRel_mono hk1.2.2) k3.2.2 (fun q hq => ⟨q, hq, rfl, Nat.le_refl _, Nat.le_refl _⟩)⟩, va_K.moved hW9.alike hw3.1, by rw [ht9]; exact hw3.2.1, hw3.2.2.1, rfl⟩, hw3.2.2.2.F ht9⟩
      · exact absurd hk4 (by decide)
      · exact absurd hk3 (by decide)
    obtain ⟨t2, a1, b1⟩ := Kk T' rfl X'
    exact ⟨t2, st t2 a1, b1⟩
  rw [h0] at hz hkp
  obtain ⟨adK, adV, g1, g2, g3, g4, g5, g6, g7, g8, g9, g10⟩ := hnf.2.2
  have hKs : va_K D vwCl tys s := va_K.moved (by rw [← e2]; exact X'.warmed.alike.symm) hK2
  have hP3 : va_P D vwCl ws2 T'.heap := by rw [e1]; exact hP2
  have Kk : vx_W p l e (headSpec (Cond.codeWith yL_room cL_room 5 (some .int) [(0, 10, 13, 13)] :: Tb1) rm_lr).room s m [Value.ref xa, .int z0, .int z1, .ref oa].toArray below meth c T'.heap ([] ++ L) (0 + 1) (0 + 6) (MQ below (gQc base D vwCl tys K) [Value.ref xa, .int z0, .int z1, .ref oa].toArray s 1 6 (fun a => base ≤ a)) (F0 m 5 lsA [.int 0, .ref oa]) q := by
    refine vx_catch (own := eCN 13) (name := xNS) hown ⟨0, 10, 13, 13⟩ htab rfl (by decide) (hts _ (tbT 1288 (by decide +kernel) rfl)) (va_Nw.use rfl g10.1) (by rw [e1]; exact hce) hcv hcl ?_
    refine lv_astore hx hb (by decide +kernel : decode cL_room 13 = .ok (.astore 4, 2)) hl (by decide) rfl (fun lsB hlB => ?_)
    refine lv_iconst (v := 1) hx hb (by decide +kernel : decode cL_room 15 = .ok (.iconst 1, 1)) (by decide) ?_
    refine W.iret hx hb hretm ?_ (fun z hz => hL z hz) (by decide +kernel : decode cL_room 16 = .ok (.ireturn, 1)) hlocks
    intro t9 ht9 hW9
    refine ⟨⟨some (.int 1), ws2, hKK 1 ws2 ⟨hk1.1, hk1.2.1, fRel_mono hk1.2.2⟩, va_K.moved hW9.alike hKs, by rw [ht9]; exact hP3, hD2, rfl⟩, by rw [ht9, e1]; exact hz, fun z z1 z2 => by rw [ht9, e1]; exact hkp z z1 z2⟩
  obtain ⟨t2, a1, b1⟩ := Kk T' rfl X'
  exact ⟨t2, st.trans a1, b1⟩
end RM
