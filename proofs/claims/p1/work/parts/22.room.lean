/-! THE LAW'S room(..), WHERE THE ROW HAS NO SUCH ROOM: WardrobeRow.room throws, and the law's own method catches it. -/
def xNS : String := "java/util/NoSuchElementException"
def xN1 : String := "java/lang/RuntimeException"
def xN2 : List String := ["java/lang/Exception"]
abbrev cNS : ByteArray := prog_30_method_4_code
abbrev cX11_room : ByteArray := prog_1_method_6_code
def yX11_room : MethodName := ⟨eCN 11, "room", "(II)I"⟩
abbrev cL_room : ByteArray := method_3_code
def yL_room : MethodName := ⟨eCN 13, "room", "(LWardrobeRow;II[J)I"⟩
def rm_xr : Room := { frames := 20, cells := 1, slots := 6, locals := 300 }
def rm_lr : Room := { frames := 21, cells := 1, slots := 6, locals := 330 }
def xQX (ρ : Nat → Int32) (b base : Nat) (D : va_G) (ws : va_W) (K : eK) (t : State) : Prop := ∃ (hp2 : eH) (nx2 : Nat) (cs2 : eC) (ws2 : va_W) (tys2 : List (ClassId × FieldType)), K (some (.inl 1)) hp2 nx2 cs2 = true ∧ eSat ρ cs2 ∧ (∀ (o a : Nat), (ead ws)[o]? = some a → (ead ws2)[o]? = some a) ∧ va_K D vwCl tys2 t ∧ va_P D vwCl ws2 t.heap ∧ va_D (fun q => base ≤ q) ws2 ∧ eMt ρ b vwCl hp2 nx2 ws2 tys2
def xXC (ρ : Nat → Int32) (b base : Nat) (D : va_G) (ws : va_W) (K : eK) : String → State → State → Prop := fun E st t => E = xNS ∧ xQX ρ b base D ws K t ∧ va_F (fun q => base ≤ q) st t
def xK (K : eK) : eK := fun ret hp nx cs => match ret with
  | some (.inl 0) => K (some (.inl 1)) hp nx cs
  | _ => false
theorem xK_ok {K : eK} {ret : Option eV} {hp : eH} {nx : Nat} {cs : eC} (h : xK K ret hp nx cs = true) : ret = some (.inl 0) ∧ K (some (.inl 1)) hp nx cs = true := by
  unfold xK at h
  split at h
  · exact ⟨rfl, h⟩
  · cases h
theorem x_good : ∀ w ∈ (vx_atS (eCN 11) 147 xNS 13 cNS xN1 xN2).filter goodWord, w ∈ lw_tbl := by decide +kernel
theorem x_bad : ∀ w ∈ (vx_atS (eCN 11) 147 xNS 13 cNS xN1 xN2).filter (fun w => !goodWord w), w ∈ [Cond.castable xNS xNS, .declares ⟨"java/lang/RuntimeException", "<init>", "(Ljava/lang/String;)V"⟩, .declares ⟨"java/lang/Exception", "<init>", "(Ljava/lang/String;)V"⟩, .declares ⟨"java/lang/Throwable", "<init>", "(Ljava/lang/String;)V"⟩] := by decide +kernel
theorem x_ot : ∀ w ∈ Cond.classLink (eCN 11) 143 xNS :: Cond.initialized xNS :: vx_atS (eCN 11) 147 xNS 13 cNS xN1 xN2, vx_ot w = true := by decide +kernel
theorem m_room {ρ : Nat → Int32} {b base : Nat} {D : va_G} {l : Launch} (hst : l.stackTraces = false) {ih : eR} (IH : eSn ρ b base D vwCl Tb1 (NF1 base) l eCN ih) {x p0 : eV} {hp : eH} {nx : Nat} {cs : eC} {K : eK} (h : ih em_75 0 em_75.2.2.2.2.2.2 (eargs [x, p0] 0) [] hp nx 0 0 cs (xK K) = true) (hs : eSat ρ cs)
    {ws : va_W} {tys : List (ClassId × FieldType)} {xa o : Nat} {fs : List Value} {z0 z1 : Int32} (hm : eMt ρ b vwCl hp nx ws tys) (hx0 : eRl ρ b (ead ws) x (.ref xa)) (hp0 : eRl ρ b (ead ws) p0 (.int z0)) (ho : ws[o]? = some (xa, (.inr (11, fs) : va_E))) :
    vx_Met l yX11_room (Cond.code yX11_room cX11_room 3 (some .int) :: Tb1) rm_xr (ePc base D vwCl (NF1 base) ws tys [.ref xa, .int z0, .int z1]) (fun _ _ _ _ => False) (xXC ρ b base D ws K) 1 6 (fun a => base ≤ a) := by
  refine vx_ofW (cc := cX11_room) (maxL := 3) (ret := some .int) (by decide +kernel) rfl ?_
  intro p e s m args below meth c s₁ B hml htab hv
  obtain ⟨rfl, hnf, hbase, hK, hP, hD⟩ := hv
  have hx := B.exec
  have hb := B.bytes
  have hts0 := atoms_spec (ws := Cond.code yX11_room cX11_room 3 (some .int) :: Tb1) B.pre
  have hts : ∀ w ∈ Tb1, w.before _ s = true := fun w hw => hts0 w (List.mem_cons_of_mem _ hw)
  have hown : s.vm.findClass (eCN 11) = some m.cls := findClass_of_methodNamed B.named
  have hlocks := B.notSynchronized
  have hl := lv_entry [Value.ref xa, .int z0, .int z1] (n := 3) (by rw [lg_len]; exact Nat.le_refl 3)
  rw [lg_entry_eq]
  generalize (lg_sl [Value.ref xa, .int z0, .int z1] ++ List.replicate (3 - (lg_sl [Value.ref xa, .int z0, .int z1]).length) Slot.unset).toArray = lsA at hl ⊢
  have has : eRs ρ b (ead ws) [x, p0] [.ref xa, .int z0] := ⟨hx0, hp0, trivial⟩
  have hM := e_met IH vm_75 h (by rw [← eRs_cats has]; exact Nat.le_refl 2) hs hm has
  have S : CallFix p m c cX11_room 3 s [Value.ref xa, .int z0, .int z1].toArray Tb1 (eCN 11) := ⟨hx, hb, hml, hown, hts⟩
  have hG : GoodIn Tb1 (Cond.code yX11_isRoom cX11_isRoom 2 (some .boolean) :: Tb1) := e_goodIn tb_good (fun w z => (List.mem_cons.mp z).elim (fun z => by rw [z]; exact vm_75.1) (fun z => z))
  refine lv_aload_n hx hb (by decide +kernel : decode cX11_room 0 = .ok (.aload_n 0, 1)) rfl (lv_at hl 0 rfl) ?_
  refine lv_iload_n hx hb (by decide +kernel : decode cX11_room 1 = .ok (.iload_n 1, 1)) rfl (lv_at hl 1 rfl) ?_
  have hr := va_runV (l := l) (e := e) (R := (headSpec (Cond.code yX11_room cX11_room 3 (some .int) :: Tb1) rm_xr).room) (below := below) (meth := meth) (H := s.heap) (locs := []) (cells := 0) (slots := 0) (g := F0 m 2 lsA [.int z0, .ref xa]) (rest := []) (As := [.int z0]) (b := xa) (n := 1) (C := eCN 11) S hM
    ⟨callB_of 1 hts hG rfl rfl rfl (hts _ vm_75.2.1) (hts _ (tbT 761 (by decide +kernel) rfl : Cond.methodLink (eCN 11) 139 yX11_isRoom ∈ Tb1)) ⟨vm_75.2.2.2.2.1.1, vm_75.2.2.2.2.1.2, by decide +kernel⟩ ⟨by decide +kernel, by decide +kernel⟩, hts _ (tbT 763 (by decide +kernel) rfl), hts _ (tbS (y := yX11_isRoom) (n := 17) 14 (by decide +kernel) rfl)⟩
    ⟨e_blind (v_NF base), va_recv hK hP (q := (RX11, TX11, 17)) rfl ho, fun U hU hW => ⟨rfl, (v_NF base).1 s U hnf hW (by rw [hU]; exact Nat.le_refl _) (fun q _ _ => by rw [hU]), by rw [hU]; exact hbase, va_K.moved hW.alike hK, by rw [hU]; exact hP, hD⟩⟩
    rfl rfl hl.1 rfl (lv_room (Nat.le_of_ble_eq_true rfl)) (by decide +kernel : decode cX11_room 2 = .ok (.invokevirtual 139, 3)) ⟨by decide +kernel, by decide +kernel⟩
  intro T hT X
  obtain ⟨v, st₀, t, T', L, h0, X', hL, e1, e2, ⟨⟨ret, hp2, nx2, cs2, ws2, tys2, hk, hs2, hext, hK2, hP2, hD2, hm2, hret⟩, hz, hkp⟩, st⟩ := hr T hT X
  rw [h0] at hz hkp
  obtain ⟨rfl, hk1⟩ := xK_ok hk
  rcases hret with ⟨z, -⟩ | ⟨v2, xv, z1', hvx, z2⟩
  · cases z
  cases z1'
  have hvx : xv = .int (Int32.ofNat 0) := hvx
  subst hvx
  cases z2
  have hS : va_S (fun q => base ≤ q) s.heap T'.heap ([] ++ L) := ⟨by rw [e1]; exact hz, fun q h1 h2 => by rw [e1]; exact hkp q h1 h2, fun q hq => hL q hq⟩
  have hKs : va_K D vwCl tys2 s := va_K.moved (by rw [← e2]; exact X'.warmed.alike.symm) hK2
  have hP3 : va_P D vwCl ws2 T'.heap := by rw [e1]; exact hP2
  obtain ⟨adK, adV, g1, g2, g3, g4, g5, g6, g7, g8, g9, g10⟩ := hnf.2.2
  have Kk : W p l e (headSpec (Cond.code yX11_room cX11_room 3 (some .int) :: Tb1) rm_xr).room s m [Value.ref xa, .int z0, .int z1].toArray below meth c T'.heap ([] ++ L) (0 + 0) (0 + 0) (vx_MQ below (fun _ _ _ _ => False) (xXC ρ b base D ws K) [Value.ref xa, .int z0, .int z1].toArray s 1 6 (fun a => base ≤ a)) (F0 m 5 lsA [.int (Int32.ofNat 0)]) := by
    refine lv_if_eq (tgt := 17) hx hb (by decide +kernel : decode cX11_room 5 = .ok (.ifCond .eq 12, 3)) (by decide) (fun _ => ?_) (fun z => absurd rfl z)
    refine vx_throwS (rest := []) hx hb hst (own := eCN 11) (cls := xNS) (text := scTx 3) (n1 := xN1) (n2 := xN2) (ix := 13) (rx := cNS) (ik := 143) (is := 145) (ic := 147) (sa := adK 3) (A := fun q => base ≤ q) (by decide +kernel) (by decide +kernel) (by decide +kernel) (by decide +kernel) hown (by decide +kernel) (by decide +kernel) (by decide +kernel)
      (hts _ (tbT 1293 (by decide +kernel) rfl)) (hts _ (tbT 24 (by decide +kernel) rfl)) g5
      (vx_hat (fun w hw => hts w (List.mem_filter.mpr ⟨x_good w hw, (List.mem_filter.mp hw).2⟩)) x_bad (vx_c (va_Nw.use rfl g10.1) (vx_c (va_Nw.use rfl g10.2.1) (vx_c (va_Nw.use rfl g10.2.2.1) (vx_c (va_Nw.use rfl g10.2.2.2) vx_n))))) x_ot g8 g9 hS (by rw [hml]; exact hl.1)
      (by decide +kernel : decode cX11_room 17 = .ok (.new 143, 3)) (by decide +kernel : decode cX11_room 20 = .ok (.dup, 1)) (by decide +kernel : decode cX11_room 21 = .ok (.ldc 145, 2)) (by decide +kernel : decode cX11_room 23 = .ok (.invokespecial 147, 3)) (by decide +kernel : decode cX11_room 26 = .ok (.athrow, 1))
      (fun z hz => (htab z hz).elim) (by decide +kernel) (by decide +kernel) (by decide +kernel) (by decide +kernel) hlocks ?_ (fun z hz => hL z hz) (by decide) (by decide)
    intro t9 ha h1 h2
    exact ⟨rfl, ⟨hp2, nx2, cs2, ws2, tys2, hk1, hs2, hext, va_K.moved ha hKs, va_P.kept hP3 (fun k q hq => h2 q.1 (hP3 k q hq).lt), hD2, hm2⟩, Nat.le_trans hS.1 h1, fun q q1 q2 => by rw [h2 q (Nat.lt_of_lt_of_le q1 hS.1)]; exact hS.2.1 q q1 q2⟩
  obtain ⟨t2, a1, b1⟩ := Kk T' rfl X'
  exact ⟨t2, st t2 a1, b1⟩
theorem m_lroom {ρ : Nat → Int32} {b base : Nat} {D : va_G} {l : Launch} (hst : l.stackTraces = false) {ih : eR} (IH : eSn ρ b base D vwCl Tb1 (NF1 base) l eCN ih) {x p0 : eV} {hp : eH} {nx : Nat} {cs : eC} {K : eK} (h : ih em_75 0 em_75.2.2.2.2.2.2 (eargs [x, p0] 0) [] hp nx 0 0 cs (xK K) = true) (hs : eSat ρ cs)
    {ws : va_W} {tys : List (ClassId × FieldType)} {xa oa o : Nat} {fs : List Value} {z0 z1 : Int32} (hm : eMt ρ b vwCl hp nx ws tys) (hx0 : eRl ρ b (ead ws) x (.ref xa)) (hp0 : eRl ρ b (ead ws) p0 (.int z0)) (ho : ws[o]? = some (xa, (.inr (11, fs) : va_E))) :
    Met l yL_room (Cond.codeWith yL_room cL_room 5 (some .int) [(0, 10, 13, 13)] :: Tb1) rm_lr (ePc base D vwCl (NF1 base) ws tys [.ref xa, .int z0, .int z1, .ref oa]) (eQc ρ b base D vwCl ws K) 1 6 (fun a => base ≤ a) := by
  refine va_MetW (cc := cL_room) (maxL := 5) (ret := some .int) (hh := [(0, 10, 13, 13)]) (by decide +kernel) rfl ?_
  intro p e s m args below meth c s₁ B hml hv
  obtain ⟨rfl, hnf, hbase, hK, hP, hD⟩ := hv
  have hx := B.exec
  have hb := B.bytes
  have hret := B.returns
  have hts0 := atoms_spec (ws := Cond.codeWith yL_room cL_room 5 (some .int) [(0, 10, 13, 13)] :: Tb1) B.pre
  have hts : ∀ w ∈ Tb1, w.before _ s = true := fun w hw => hts0 w (List.mem_cons_of_mem _ hw)
  have htab : c.exceptionTable.toList = tableOf [(0, 10, 13, 13)] := vx_table (x := yL_room) B (hts0 _ List.mem_cons_self)
  have hown : s.vm.findClass (eCN 13) = some m.cls := findClass_of_methodNamed B.named
  have hlocks := B.notSynchronized
  have hl := lv_entry [Value.ref xa, .int z0, .int z1, .ref oa] (n := 5) (by rw [lg_len]; exact Nat.le_succ 4)
  rw [lg_entry_eq]
  generalize (lg_sl [Value.ref xa, .int z0, .int z1, .ref oa] ++ List.replicate (5 - (lg_sl [Value.ref xa, .int z0, .int z1, .ref oa]).length) Slot.unset).toArray = lsA at hl ⊢
  have hM := m_room hst IH h hs (z1 := z1) hm hx0 hp0 ho
  have S : CallFix p m c cL_room 5 s [Value.ref xa, .int z0, .int z1, .ref oa].toArray Tb1 (eCN 13) := ⟨hx, hb, hml, hown, hts⟩
  have hcode : Cond.code yX11_room cX11_room 3 (some .int) ∈ Tb1 := tbT 1292 (by decide +kernel) rfl
  have hG : GoodIn Tb1 (Cond.code yX11_room cX11_room 3 (some .int) :: Tb1) := e_goodIn tb_good (fun w z => (List.mem_cons.mp z).elim (fun z => by rw [z]; exact hcode) (fun z => z))
  refine lv_aload_n hx hb (by decide +kernel : decode cL_room 0 = .ok (.aload_n 3, 1)) rfl (lv_at hl 3 rfl) ?_
  refine lv_iconst (v := 0) hx hb (by decide +kernel : decode cL_room 1 = .ok (.iconst 0, 1)) (by decide) ?_
  refine lv_aload_n hx hb (by decide +kernel : decode cL_room 2 = .ok (.aload_n 0, 1)) rfl (lv_at hl 0 rfl) ?_
  refine lv_iload_n hx hb (by decide +kernel : decode cL_room 3 = .ok (.iload_n 1, 1)) rfl (lv_at hl 1 rfl) ?_
  refine lv_iload_n hx hb (by decide +kernel : decode cL_room 4 = .ok (.iload_n 2, 1)) rfl (lv_at hl 2 rfl) ?_
  have hr := vx_runV (l := l) (e := e) (R := (headSpec (Cond.codeWith yL_room cL_room 5 (some .int) [(0, 10, 13, 13)] :: Tb1) rm_lr).room) (below := below) (meth := meth) (H := s.heap) (locs := []) (cells := 0) (slots := 0) (g := F0 m 5 lsA [.int z1, .int z0, .ref xa, .int 0, .ref oa]) (rest := [.int 0, .ref oa]) (As := [.int z0, .int z1]) (b := xa) (n := 2) (C := eCN 11) S hM
    ⟨callB_of 2 hts hG rfl rfl rfl (hts _ (tbT 1 (by decide +kernel) rfl : Cond.initialized (eCN 11) ∈ Tb1)) (hts _ (tbT 1289 (by decide +kernel) rfl : Cond.methodLink (eCN 13) 7 yX11_room ∈ Tb1)) ⟨by decide +kernel, by decide +kernel, by decide +kernel⟩ ⟨by decide +kernel, by decide +kernel⟩, hts _ (tbT 1290 (by decide +kernel) rfl), hts _ (tbT 1291 (by decide +kernel) rfl)⟩
    ⟨e_blind (v_NF base), va_recv hK hP (q := (RX11, TX11, 17)) rfl ho, fun U hU hW => ⟨rfl, (v_NF base).1 s U hnf hW (by rw [hU]; exact Nat.le_refl _) (fun q _ _ => by rw [hU]), by rw [hU]; exact hbase, va_K.moved hW.alike hK, by rw [hU]; exact hP, hD⟩⟩
    rfl rfl hl.1 rfl (lv_room (Nat.le_of_ble_eq_true rfl)) (by decide +kernel : decode cL_room 5 = .ok (.invokevirtual 7, 3)) ⟨by decide +kernel, by decide +kernel⟩
  intro T hT X
  rcases hr T hT X with ⟨v, st₀, t, T', L, h0, X', hL, e1, e2, hF, st⟩ | ⟨q, st₀, t, T', L, E, ce, h0, X', hL, e1, e2, ⟨rfl, ⟨hp2, nx2, cs2, ws2, tys2, hk1, hs2, hext, hK2, hP2, hD2, hm2⟩, hz, hkp⟩, hce, hcv, hcl, st⟩
  · exact hF.elim
  rw [h0] at hz hkp
  obtain ⟨adK, adV, g1, g2, g3, g4, g5, g6, g7, g8, g9, g10⟩ := hnf.2.2
  have hKs : va_K D vwCl tys2 s := va_K.moved (by rw [← e2]; exact X'.warmed.alike.symm) hK2
  have hP3 : va_P D vwCl ws2 T'.heap := by rw [e1]; exact hP2
  have Kk : vx_W p l e (headSpec (Cond.codeWith yL_room cL_room 5 (some .int) [(0, 10, 13, 13)] :: Tb1) rm_lr).room s m [Value.ref xa, .int z0, .int z1, .ref oa].toArray below meth c T'.heap ([] ++ L) (0 + 1) (0 + 6) (MQ below (eQc ρ b base D vwCl ws K) [Value.ref xa, .int z0, .int z1, .ref oa].toArray s 1 6 (fun a => base ≤ a)) (F0 m 5 lsA [.int 0, .ref oa]) q := by
    refine vx_catch (own := eCN 13) (name := xNS) hown ⟨0, 10, 13, 13⟩ htab rfl (by decide) (hts _ (tbT 1288 (by decide +kernel) rfl)) (va_Nw.use rfl g10.1) (by rw [e1]; exact hce) hcv hcl ?_
    refine lv_astore hx hb (by decide +kernel : decode cL_room 13 = .ok (.astore 4, 2)) hl (by decide) rfl (fun lsB hlB => ?_)
    refine lv_iconst (v := 1) hx hb (by decide +kernel : decode cL_room 15 = .ok (.iconst 1, 1)) (by decide) ?_
    refine W.iret hx hb hret ?_ (fun z hz => hL z hz) (by decide +kernel : decode cL_room 16 = .ok (.ireturn, 1)) hlocks
    intro t9 ht9 hW9
    refine ⟨⟨some (.inl 1), hp2, nx2, cs2, ws2, tys2, hk1, hs2, hext, va_K.moved hW9.alike hKs, by rw [ht9]; exact hP3, hD2, hm2, Or.inr ⟨.inl 1, .int 1, rfl, rfl, rfl⟩⟩, by rw [ht9, e1]; exact hz, fun z z1 z2 => by rw [ht9, e1]; exact hkp z z1 z2⟩
  obtain ⟨t2, a1, b1⟩ := Kk T' rfl X'
  exact ⟨t2, st.trans a1, b1⟩
def eAllb {α : Type} (f : Nat → α → Bool) : Nat → List (List α) → Bool
  | _, [] => true
  | o, r :: rs => r.all (f o) && eAllb f (o + 1) rs
theorem eAllb_ok {α : Type} {f : Nat → α → Bool} : ∀ {l : List (List α)} {k : Nat}, eAllb f k l = true → eAll (fun o x => f o x = true) k l
  | [], _, _ => trivial
  | r :: rs, k, h => by
    have h : (r.all (f k) && eAllb f (k + 1) rs) = true := h
    rw [Bool.and_eq_true] at h
    exact ⟨List.all_eq_true.mp h.1, eAllb_ok h.2⟩
def c89 (o : Nat) (x : Nat × Nat × Nat × Nat) : Bool := (!(x.2.1 == 9) || (o == 13 && (x.1 == 38 && x.2.2.1 == 75))) && (!(x.2.1 == 8) || (o == 7 && (x.1 == 19 && x.2.2.1 == 0)))
theorem v_89 : eAll (fun o x => c89 o x = true) 0 ecl_ := eAllb_ok (by decide +kernel)
theorem v_9 {o idx mno n : Nat} (h : eCL1 o idx = some (9, mno, n)) : o = 13 ∧ idx = 38 ∧ mno = 75 := by
  have h1 : c89 o (idx, 9, mno, n) = true := ea2_all v_89 h
  simpa [c89] using h1
theorem v_8 {o idx sn n : Nat} (h : eCL1 o idx = some (8, sn, n)) : o = 7 ∧ idx = 19 ∧ sn = 0 := by
  have h1 : c89 o (idx, 8, sn, n) = true := ea2_all v_89 h
  simpa [c89] using h1
theorem v_T {ρ : Nat → Int32} {b base : Nat} {D : va_G} {l : Launch} (hst : l.stackTraces = false) : eTok ρ b base D vwCl Tb1 (NF1 base) l eCN eCL1 eMT1 := by
  intro ih IH mi idx mno n hcl q hq hp as r nx ce sl cs K h1 h2 p e R s m args below meth c cc nL X H locs ws tys lsA lv asx rx pc hd hs hw hl has hr hlen
  obtain ⟨hmi, rfl, rfl⟩ := v_9 hcl
  cases (show eMT1 75 = some (em_75, 2) from rfl).symm.trans hq
  rcases as with _ | ⟨x, _ | ⟨p0, _ | ⟨p1, _ | ⟨o, _ | ⟨o2, t2⟩⟩⟩⟩⟩
  · cases h1
  · cases h1
  · cases h1
  · cases h1
  · unfold eThc at h1
    simp only [Bool.and_eq_true] at h1
    obtain ⟨w1, w2, w3, w4, w5, w6, w7, w8, w9⟩ := h1
    obtain ⟨xx, t1, rfl, hv, has1⟩ := eRs_cons has
    obtain ⟨x0, t2, rfl, hv0, has2⟩ := eRs_cons has1
    obtain ⟨x1, t3, rfl, hv1, has3⟩ := eRs_cons has2
    obtain ⟨xo, t4, rfl, hvo, has4⟩ := eRs_cons has3
    cases eRs_nil has4
    obtain ⟨z0, rfl⟩ := eRl_int hv0 w2
    obtain ⟨z1, rfl⟩ := eRl_int hv1 w3
    obtain ⟨oo, oa, -, -, rfl⟩ := eRl_ref hvo w4
    have hrv : ∃ (o a : Nat) (fs : List Value), xx = .ref a ∧ ws[o]? = some (a, (.inr (11, fs) : va_E)) := by
      rcases x with n | j | o | n
      · cases w1
      · cases w1
      · obtain ⟨a, ha, rfl⟩ := hv
        unfold ecl at w1
        dsimp only at w1
        cases hob : hg hp o with
        | none => rw [hob] at w1; cases w1
        | some ob =>
          rw [hob] at w1
          rcases ob with ob | ob
          · have he := Nat.eq_of_beq_eq_true w1
            obtain ⟨ee, h8, fs, rfl, -⟩ := eMt_at hw.2.2.2.2 ha hob
            exact ⟨o, a, fs, rfl, by rw [h8, he]⟩
          · cases w1
      · cases w1
    obtain ⟨o9, xa, fs, rfl, he⟩ := hrv
    have h2 : ih em_75 0 em_75.2.2.2.2.2.2 (eargs [x, p0] 0) [] hp nx 0 0 cs (xK K) = true := h2
    have hM := m_lroom hst IH h2 hs (oa := oa) (z1 := z1) hw.2.2.2.2 hv hv0 he
    have hts := X.2.2.2.2.1
    have hRc := X.2.2.2.2.2.2.2.1
    have hown := X.2.2.2.1
    rw [hmi] at hown
    have S : CallFix p m c cc nL s args Tb1 (eCN 13) := ⟨X.1, X.2.1, X.2.2.1, hown, hts⟩
    have hG : GoodIn Tb1 (va_wsS (eCN 13) 38 yL_room (Cond.codeWith yL_room cL_room 5 (some .int) [(0, 10, 13, 13)] :: Tb1)) := e_goodIn tb_good (fun w z => by
      unfold va_wsS at z
      rcases List.mem_append.mp z with z | z
      · rcases List.mem_cons.mp z with z | z
        · rw [z]; exact tbT 1285 (by decide +kernel) rfl
        · rcases List.mem_cons.mp z with z | z
          · rw [z]; exact tbT 1286 (by decide +kernel) rfl
          · rcases List.mem_cons.mp z with z | z
            · rw [z]; exact tbT 0 (by decide +kernel) rfl
            · cases z
      · rcases List.mem_cons.mp z with z | z
        · rw [z]; exact tbT 1287 (by decide +kernel) rfl
        · exact z)
    have a5 := Nat.le_of_ble_eq_true w5
    have a6 := Nat.le_of_ble_eq_true w6
    have a7 := Nat.le_of_ble_eq_true w7
    have a8 := Nat.le_of_ble_eq_true w8
    have a9 := Nat.le_of_ble_eq_true w9
    have hRR : rm_lr.frames + 1 ≤ R.frames ∧ 8 + (5 + 11) + rm_lr.locals ≤ R.locals := ⟨by rw [hRc.2.2.1]; show 21 + 1 ≤ _; omega, by rw [hRc.2.2.2]; show 8 + (5 + 11) + 330 ≤ _; omega⟩
    exact vx_runSW (n := 4) S hM (vx_cwSW 4 hts hG rfl rfl rfl ⟨by decide +kernel, by decide +kernel, by decide +kernel⟩ hRR) ⟨e_blind (v_NF base), e_pre (v_NF base) X hw⟩ rfl rfl hl.1 rfl (lv_room (by rw [eRs_cats hr]; exact a9)) hd.1 ⟨by rw [hRc.1]; exact a7, by rw [hRc.2.1]; exact a8⟩
  · cases h1
theorem v_S {ρ : Nat → Int32} {b base : Nat} {D : va_G} {l : Launch} : eSok ρ b base D vwCl Tb1 (NF1 base) l eCN eCL1 eSP1 := by
  intro mi idx sn n hcl hp as q hq p e R s m args below meth c Q cc nL X H locs nx ws tys lsA lv asx rx pc ce sl hd hw hl has hlen hcat hce hsl K
  obtain ⟨hmi, rfl, rfl⟩ := v_8 hcl
  unfold eSP1 at hq
  split at hq
  · rename_i w
    cases hz : (Nat.blt w 30 && (Nat.ble 5 mi.2.2.2.1 && Nat.ble 111 mi.2.2.2.2.1)) with
    | false => rw [hz] at hq; cases hq
    | true =>
      rw [hz] at hq
      have hq : some (eL, 0, 0) = some q := hq
      cases hq
      rw [Bool.and_eq_true, Bool.and_eq_true] at hz
      have a1 : w < 30 := Nat.le_of_ble_eq_true hz.1
      have a2 := Nat.le_of_ble_eq_true hz.2.1
      have a3 := Nat.le_of_ble_eq_true hz.2.2
      obtain ⟨xx, t1, rfl, hv, has1⟩ := eRs_cons has
      cases eRs_nil has1
      have hv : xx = .int (Int32.ofNat w) := hv
      subst hv
      have hts := X.2.2.2.2.1
      have hRc := X.2.2.2.2.2.2.2.1
      have hown := X.2.2.2.1
      rw [hmi] at hown
      have S : CallFix p m c cc nL s args Tb1 (eCN 7) := ⟨X.1, X.2.1, X.2.2.1, hown, hts⟩
      have hce : ce ≤ R.cells := by rw [hRc.1]; exact Nat.le_trans (Nat.le_add_right _ _) hce
      have hsl : sl ≤ R.slots := by rw [hRc.2.1]; exact Nat.le_trans (Nat.le_add_right _ _) hsl
      refine k_callS (n := 1) (asx := [.int (Int32.ofNat w)]) (m_cok l base w a1) ⟨rfl, rfl⟩ (v_HF base) S (tbT 42 (by decide +kernel) rfl) (tbT 2 (by decide +kernel) rfl) (tbT 40 (by decide +kernel) rfl) (tbT 41 (by decide +kernel) rfl) ⟨by decide +kernel, by decide +kernel, by decide +kernel⟩ ⟨by rw [hRc.2.2.1]; exact a2, by rw [hRc.2.2.2]; exact a3⟩ X.2.2.2.2.2.1.2.2 hw.2.2.2.1 rfl hl.1 hcat ⟨hce, hsl⟩ hd.1 (fun y hy => ?_)
      obtain ⟨z, rfl⟩ := hy
      exact K H locs (.long z) hw ⟨z, rfl⟩
  · cases hq
