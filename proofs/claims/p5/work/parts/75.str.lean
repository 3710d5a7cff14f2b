/-! THE TEXTS OF THE CLASS: what the JDK's String answers of a literal, and codeOfKeyword. -/
def RJ0 : String := "java/lang/String"
def RJ1 : String := "java/lang/StringLatin1"
def RJ3 : String := "jdk/internal/util/Preconditions"
abbrev cJ0_length_8abf5 : ByteArray := prog_22_method_54_code
def yJ0_length_8abf5 : MethodName := ⟨RJ0, "length", "()I"⟩
abbrev cJ0_charAt_5068e : ByteArray := prog_22_method_56_code
def yJ0_charAt_5068e : MethodName := ⟨RJ0, "charAt", "(I)C"⟩
abbrev cJ0_coder_7d493 : ByteArray := prog_22_method_152_code
def yJ0_coder_7d493 : MethodName := ⟨RJ0, "coder", "()B"⟩
abbrev cJ0_isLatin1_aae02 : ByteArray := prog_22_method_154_code
def yJ0_isLatin1_aae02 : MethodName := ⟨RJ0, "isLatin1", "()Z"⟩
abbrev cJ1_charAt_3b067 : ByteArray := prog_23_method_2_code
def yJ1_charAt_3b067 : MethodName := ⟨RJ1, "charAt", "([BI)C"⟩
abbrev cJ0_checkIndex_df160 : ByteArray := prog_22_method_155_code
def yJ0_checkIndex_df160 : MethodName := ⟨RJ0, "checkIndex", "(II)V"⟩
abbrev cJ3_checkIndex_8e157 : ByteArray := prog_31_method_11_code
def yJ3_checkIndex_8e157 : MethodName := ⟨RJ3, "checkIndex", "(IILjava/util/function/BiFunction;)I"⟩
abbrev cX7_codeOfKeyword : ByteArray := prog_9_method_2_code
def yX7_codeOfKeyword : MethodName := ⟨RX7, "codeOfKeyword", "(I)J"⟩
def kPc (F : State → Prop) (asx : List Value) : Array Value → State → Prop := fun v U => v = asx.toArray ∧ F U
def kQc (P : Option Value → Prop) : Array Value → State → Outcome → State → Prop := fun _ st o t => ∃ x, o = .returned x ∧ P x ∧ t.heap = st.heap
def kNo : Addr → Prop := fun _ => False
theorem k_blind {base : Nat} {F : State → Prop} (hF : eNFw base F) {asx : List Value} : FrameBlind (kPc F asx) := fun _ U _ _ q => ⟨q.1, hF.2 U _ q.2 rfl rfl⟩
section KS
variable {p : Program} {l : Launch} {e : Env} {R : Room} {s : State} {m : MethodId} {args : Array Value} {below : List Frame} {meth : Method} {c : Code} {H : Heap} {locs : List Loc} {ce sl : Nat} {Q : State → Prop} {base : Nat} {cc : ByteArray} {nL pc : Nat} {lsA : Array Slot} {own : String} {F : State → Prop} {P : Option Value → Prop}
theorem k_back {a : Array Value} {st0 rx : List Value} (hr : va_Run p l e R s m args below meth c H locs ce sl 0 0 (F0 m pc lsA st0) rx (kQc P a) kNo) (K : ∀ x, P x → W p l e R s m args below meth c H locs ce sl Q (F0 m (pc + 3) lsA (x.toList ++ rx))) : W p l e R s m args below meth c H locs ce sl Q (F0 m pc lsA st0) := by
  intro T hT X
  obtain ⟨v, st₀, t, T', L, h0, X', hL, e1, e2, ⟨x, hv, hP, hh⟩, st⟩ := hr T hT X
  cases hv
  obtain ⟨t2, a1, b1⟩ := K v hP T' (by rw [e1, hh, h0]) (Stand.forget X' (fun q h => (hL q h).elim))
  exact ⟨t2, st t2 a1, b1⟩
theorem k_callS {y : MethodName} {cc2 : ByteArray} {maxL2 n idx : Nat} {ret : Option FieldType} {rm2 : Room} {asx rx : List Value} (hM : Met l y (Cond.code y cc2 maxL2 ret :: Tb1) rm2 (kPc F asx) (kQc P) 0 0 kNo) (hrm : rm2.cells = 0 ∧ rm2.slots = 0) (hF : eNFw base F)
    (S : CallFix p m c cc nL s args Tb1 own) (hcode : Cond.code y cc2 maxL2 ret ∈ Tb1) (hini : Cond.initialized y.cls ∈ Tb1) (hlink : Cond.methodLink own idx y ∈ Tb1) (hstat : Cond.static y ∈ Tb1) (hpar : y.cls ≠ "java/lang/invoke/MethodHandle" ∧ y.cls ≠ "java/lang/invoke/VarHandle" ∧ (parseMethodDescriptor y.desc).map (fun d => d.parameters.length) = some n)
    (hRR : rm2.frames + 1 ≤ R.frames ∧ 8 + (maxL2 + 11) + rm2.locals ≤ R.locals) (hFs : F s) (hS : va_S (fun q => base ≤ q) s.heap H locs) (hlen : asx.length = n) (hsz : lsA.size = nL) (hcat : (rx.map fun v => v.category).sum ≤ 8) (hf : ce ≤ R.cells ∧ sl ≤ R.slots) (hd : decode cc pc = .ok (.invokestatic idx, 3))
    (K : ∀ x, P x → W p l e R s m args below meth c H locs ce sl Q (F0 m (pc + 3) lsA (x.toList ++ rx))) : W p l e R s m args below meth c H locs ce sl Q (F0 m pc lsA (asx.reverse ++ rx)) := by
  have hG : GoodIn Tb1 (Cond.code y cc2 maxL2 ret :: Tb1) := e_goodIn tb_good (fun w z => (List.mem_cons.mp z).elim (fun z => by rw [z]; exact hcode) (fun z => z))
  have hts := S.2.2.2.2
  refine k_back (a := asx.toArray) (rx := rx) ?_ K
  exact va_runS (n := n) S hM ⟨callB_of n hts hG rfl hrm.1 hrm.2 (hts _ hini) (hts _ hlink) hpar hRR, hts _ hstat⟩ ⟨k_blind hF, fun U hU hW => ⟨rfl, hF.1 s U hFs hW (by rw [hU]; exact hS.1) (by rw [hU]; exact hS.2.1)⟩⟩ rfl hlen hsz rfl (lv_room hcat) hd hf
theorem k_callV {y : MethodName} {cc2 : ByteArray} {maxL2 n idx a : Nat} {ret : Option FieldType} {rm2 : Room} {As rx : List Value} (hM : Met l y (Cond.code y cc2 maxL2 ret :: Tb1) rm2 (kPc F (.ref a :: As)) (kQc P) 0 0 kNo) (hrm : rm2.cells = 0 ∧ rm2.slots = 0) (hF : eNFw base F)
    (S : CallFix p m c cc nL s args Tb1 own) (hcode : Cond.code y cc2 maxL2 ret ∈ Tb1) (hini : Cond.initialized y.cls ∈ Tb1) (hlink : Cond.methodLink own idx y ∈ Tb1) (hinst : Cond.instanceMethod y ∈ Tb1) (hsel : Cond.selects y.cls y y ∈ Tb1) (hpar : y.cls ≠ "java/lang/invoke/MethodHandle" ∧ y.cls ≠ "java/lang/invoke/VarHandle" ∧ (parseMethodDescriptor y.desc).map (fun d => d.parameters.length) = some n)
    (hRR : rm2.frames + 1 ≤ R.frames ∧ 8 + (maxL2 + 11) + rm2.locals ≤ R.locals) (hFs : F s) (hS : va_S (fun q => base ≤ q) s.heap H locs) (hO : va_O y.cls a (fun q => base ≤ q) s s.heap) (hlen : As.length = n) (hsz : lsA.size = nL) (hcat : (rx.map fun v => v.category).sum ≤ 8) (hf : ce ≤ R.cells ∧ sl ≤ R.slots) (hd : decode cc pc = .ok (.invokevirtual idx, 3))
    (K : ∀ x, P x → W p l e R s m args below meth c H locs ce sl Q (F0 m (pc + 3) lsA (x.toList ++ rx))) : W p l e R s m args below meth c H locs ce sl Q (F0 m pc lsA (As.reverse ++ .ref a :: rx)) := by
  have hG : GoodIn Tb1 (Cond.code y cc2 maxL2 ret :: Tb1) := e_goodIn tb_good (fun w z => (List.mem_cons.mp z).elim (fun z => by rw [z]; exact hcode) (fun z => z))
  have hts := S.2.2.2.2
  obtain ⟨cell, g1, g2, g3, -⟩ := hO.kept hS.2.1
  refine k_back (a := (Value.ref a :: As).toArray) (rx := rx) ?_ K
  exact va_runV (n := n) (C := y.cls) S hM ⟨callB_of n hts hG rfl hrm.1 hrm.2 (hts _ hini) (hts _ hlink) hpar hRR, hts _ hinst, hts _ hsel⟩ ⟨k_blind hF, ⟨cell, g1, g2, g3⟩, fun U hU hW => ⟨rfl, hF.1 s U hFs hW (by rw [hU]; exact hS.1) (by rw [hU]; exact hS.2.1)⟩⟩ rfl hlen hsz rfl (lv_room hcat) hd hf
end KS
/-- a method's contract out of its walk -/
theorem k_met {l : Launch} {y : MethodName} {cc : ByteArray} {maxL : Nat} {ret : Option FieldType} {rm : Room} {asx : List Value} {F : State → Prop} {P : Option Value → Prop} (hy : plainName y.cls = true) (hn : (asx.map fun v => v.category).sum ≤ maxL)
    (body : ∀ (p : Program) (e : Env) (s : State) (m : MethodId) (below : List Frame) (meth : Method) (c : Code) (lsA : Array Slot), CallFix p m c cc maxL s asx.toArray Tb1 y.cls → meth.sig.returnType = ret → meth.locks = false → F s → lv_has lsA maxL (lv_args 0 asx) →
      W p l e rm s m asx.toArray below meth c s.heap [] 0 0 (MQ below (kQc P) asx.toArray s 0 0 kNo) (F0 m 0 lsA [])) : Met l y (Cond.code y cc maxL ret :: Tb1) rm (kPc F asx) (kQc P) 0 0 kNo := by
  refine Met.ofW (cc := cc) (maxL := maxL) (ret := ret) hy rfl ?_
  intro p e s m args below meth c s₁ B hml hv
  obtain ⟨rfl, hF⟩ := hv
  have hts := atoms_spec (ws := Cond.code y cc maxL ret :: Tb1) B.pre
  have hl := lv_entry asx (n := maxL) (by rw [lg_len]; exact hn)
  rw [lg_entry_eq]
  generalize (lg_sl asx ++ List.replicate (maxL - (lg_sl asx).length) Slot.unset).toArray = lsA at hl ⊢
  exact body p e s m below meth c lsA ⟨B.exec, B.bytes, hml, findClass_of_methodNamed B.named, fun w hw => hts w (List.mem_cons_of_mem _ hw)⟩ B.returns B.notSynchronized hF hl
/-- a literal at a: its bytes at av, n of them -/
def kF (base a av n : Nat) (f : Nat → Int32) : State → Prop := fun U => va_O RJ0 a (fun q => base ≤ q) U U.heap ∧ va_OF "java/lang/String" "coder" "B" (.int 0) a (fun q => base ≤ q) U U.heap ∧ va_OF "java/lang/String" "value" "[B" (.ref av) a (fun q => base ≤ q) U U.heap ∧ va_T .byte av n (fun j => .int (f j)) (fun q => base ≤ q) U U.heap
  ∧ va_Z "java/lang/String" "COMPACT_STRINGS" "Z" (.int 1) (fun q => base ≤ q) U U.heap ∧ va_Zq "jdk/internal/util/Preconditions" "SIOOBE_FORMATTER" "Ljava/util/function/BiFunction;" (fun q => base ≤ q) U U.heap
theorem kF_ok {base a av n : Nat} {f : Nat → Int32} : eNFw base (kF base a av n f) := by
  refine ⟨fun s U h hW hz hk => ?_, fun s U h hv hh => ?_⟩
  · obtain ⟨h1, h2, h3, h4, h5, h6⟩ := h
    exact ⟨(h1.kept hk).moved hW.alike, (h2.kept hk).moved hW.alike, (h3.kept hk).moved hW.alike, (h4.kept hk).moved hW.alike, (h5.kept hk).moved hW.alike, (h6.kept hk).moved hW.alike⟩
  · obtain ⟨h1, h2, h3, h4, h5, h6⟩ := h
    have hal : s.vm.Alike U.vm := by rw [hv]; exact Vm.Alike.refl _
    have hk : ∀ q : Nat, q < s.heap.size → ¬ base ≤ q → U.heap[q]? = s.heap[q]? := fun q _ _ => by rw [hh]
    exact ⟨(h1.kept hk).moved hal, (h2.kept hk).moved hal, (h3.kept hk).moved hal, (h4.kept hk).moved hal, (h5.kept hk).moved hal, (h6.kept hk).moved hal⟩
def rm00 (f n : Nat) : Room := { frames := f, cells := 0, slots := 0, locals := n }
theorem k_no {locs : List Loc} (h : locs = []) : ∀ q ∈ locs, kNo q.base := fun q hq => by rw [h] at hq; cases hq
theorem m_coder (l : Launch) (base a av n : Nat) (f : Nat → Int32) : Met l yJ0_coder_7d493 (Cond.code yJ0_coder_7d493 cJ0_coder_7d493 1 (some .byte) :: Tb1) (rm00 0 0) (kPc (kF base a av n f) [.ref a]) (kQc (fun x => x = some (.int 0))) 0 0 kNo := by
  refine k_met (by decide) (Nat.le_refl _) ?_
  intro p e s m below meth c lsA ⟨hx, hb, hml, hown, hts⟩ hr hlocks hF hl
  have hl : lv_has lsA 1 [(0, .ref a)] := hl
  have hS : va_S (fun q => base ≤ q) s.heap s.heap [] := va_S.rf
  refine va_gets (v := .int 1) hx hb hF.2.2.2.2.1 hS hown (hts _ (tbT 54 (by decide +kernel) rfl)) (fun _ z => z) (by decide +kernel : decode cJ0_coder_7d493 0 = .ok (.getstatic 38, 3)) ?_
  refine lv_if_eq (tgt := 13) hx hb (by decide +kernel : decode cJ0_coder_7d493 3 = .ok (.ifCond .eq 10, 3)) (by decide) (fun z => absurd z (by decide)) (fun _ => ?_)
  refine lv_aload_n hx hb (by decide +kernel : decode cJ0_coder_7d493 6 = .ok (.aload_n 0, 1)) rfl (lv_at hl 0 rfl) ?_
  refine vk_getf (v := .int 0) hx hb hF.2.1 hS hown (hts _ (tbT 2073 (by decide +kernel) rfl)) (fun _ z => z) (by decide +kernel : decode cJ0_coder_7d493 7 = .ok (.getfield 15, 3)) ?_
  refine lv_goto (tgt := 14) hx hb (by decide +kernel : decode cJ0_coder_7d493 10 = .ok (.goto 4, 3)) (by decide) ?_
  exact W.zret (ty := .byte) hx hb hr rfl (fun t ht _ => ⟨_, rfl, rfl, ht⟩) (k_no rfl) (by decide +kernel : decode cJ0_coder_7d493 14 = .ok (.ireturn, 1))
theorem m_isLatin1 (l : Launch) (base a av n : Nat) (f : Nat → Int32) : Met l yJ0_isLatin1_aae02 (Cond.code yJ0_isLatin1_aae02 cJ0_isLatin1_aae02 1 (some .boolean) :: Tb1) (rm00 0 0) (kPc (kF base a av n f) [.ref a]) (kQc (fun x => x = some (.int 1))) 0 0 kNo := by
  refine k_met (by decide) (Nat.le_refl _) ?_
  intro p e s m below meth c lsA ⟨hx, hb, hml, hown, hts⟩ hr hlocks hF hl
  have hl : lv_has lsA 1 [(0, .ref a)] := hl
  have hS : va_S (fun q => base ≤ q) s.heap s.heap [] := va_S.rf
  refine va_gets (v := .int 1) hx hb hF.2.2.2.2.1 hS hown (hts _ (tbT 54 (by decide +kernel) rfl)) (fun _ z => z) (by decide +kernel : decode cJ0_isLatin1_aae02 0 = .ok (.getstatic 38, 3)) ?_
  refine lv_if_eq (tgt := 17) hx hb (by decide +kernel : decode cJ0_isLatin1_aae02 3 = .ok (.ifCond .eq 14, 3)) (by decide) (fun z => absurd z (by decide)) (fun _ => ?_)
  refine lv_aload_n hx hb (by decide +kernel : decode cJ0_isLatin1_aae02 6 = .ok (.aload_n 0, 1)) rfl (lv_at hl 0 rfl) ?_
  refine vk_getf (v := .int 0) hx hb hF.2.1 hS hown (hts _ (tbT 2073 (by decide +kernel) rfl)) (fun _ z => z) (by decide +kernel : decode cJ0_isLatin1_aae02 7 = .ok (.getfield 15, 3)) ?_
  refine lv_if_ne (tgt := 17) hx hb (by decide +kernel : decode cJ0_isLatin1_aae02 10 = .ok (.ifCond .ne 7, 3)) (by decide) (fun z => absurd rfl z) (fun _ => ?_)
  refine lv_iconst (v := 1) hx hb (by decide +kernel : decode cJ0_isLatin1_aae02 13 = .ok (.iconst 1, 1)) (by decide) ?_
  refine lv_goto (tgt := 18) hx hb (by decide +kernel : decode cJ0_isLatin1_aae02 14 = .ok (.goto 4, 3)) (by decide) ?_
  exact W.zret (ty := .boolean) hx hb hr rfl (fun t ht _ => ⟨_, rfl, rfl, ht⟩) (k_no rfl) (by decide +kernel : decode cJ0_isLatin1_aae02 18 = .ok (.ireturn, 1))
theorem m_length (l : Launch) (base a av n : Nat) (hn : n ≤ 1000) (f : Nat → Int32) : Met l yJ0_length_8abf5 (Cond.code yJ0_length_8abf5 cJ0_length_8abf5 1 (some .int) :: Tb1) (rm00 1 20) (kPc (kF base a av n f) [.ref a]) (kQc (fun x => x = some (.int (Int32.ofNat n)))) 0 0 kNo := by
  refine k_met (by decide) (Nat.le_refl _) ?_
  intro p e s m below meth c lsA ⟨hx, hb, hml, hown, hts⟩ hr hlocks hF hl
  have hl : lv_has lsA 1 [(0, .ref a)] := hl
  have hS : va_S (fun q => base ≤ q) s.heap s.heap [] := va_S.rf
  refine lv_aload_n hx hb (by decide +kernel : decode cJ0_length_8abf5 0 = .ok (.aload_n 0, 1)) rfl (lv_at hl 0 rfl) ?_
  refine vk_getf (v := .ref av) hx hb hF.2.2.1 hS hown (hts _ (tbT 2072 (by decide +kernel) rfl)) (fun _ z => z) (by decide +kernel : decode cJ0_length_8abf5 1 = .ok (.getfield 9, 3)) ?_
  refine va_tlen hx hb hF.2.2.2.1 hS rfl (by decide +kernel : decode cJ0_length_8abf5 4 = .ok (.arraylength, 1)) ?_
  refine lv_aload_n hx hb (by decide +kernel : decode cJ0_length_8abf5 5 = .ok (.aload_n 0, 1)) rfl (lv_at hl 0 rfl) ?_
  refine k_callV (As := []) (m_coder l base a av n f) ⟨rfl, rfl⟩ kF_ok ⟨hx, hb, hml, hown, hts⟩ (tbT 53 (by decide +kernel) rfl) (tbT 3 (by decide +kernel) rfl) (tbT 50 (by decide +kernel) rfl) (tbT 51 (by decide +kernel) rfl) (tbT 52 (by decide +kernel) rfl) (by decide +kernel) ⟨Nat.le_refl _, Nat.le_refl _⟩ hF hS hF.1 rfl hl.1 (Nat.le_of_ble_eq_true rfl) ⟨Nat.zero_le _, Nat.zero_le _⟩ (by decide +kernel : decode cJ0_length_8abf5 6 = .ok (.invokevirtual 335, 3)) (fun x hx2 => ?_)
  subst hx2
  refine lv_ishr hx hb (by decide +kernel : decode cJ0_length_8abf5 9 = .ok (.ishr, 1)) ?_
  have e0 : Int32.ofNat n >>> ((0 : Int32) &&& 31) = Int32.ofNat n := by
    have h := e_shr n 0 (by omega)
    have h2 : fshr n 0 = n := by
      unfold fshr
      cases hz : Nat.ble 2147483648 n with
      | true => have := Nat.le_of_ble_eq_true hz; omega
      | false => rfl
    rw [h2] at h
    exact h
  rw [e0]
  exact W.iret hx hb hr (fun t ht _ => ⟨_, rfl, rfl, ht⟩) (k_no rfl) (by decide +kernel : decode cJ0_length_8abf5 10 = .ok (.ireturn, 1))
theorem m_pcheck (l : Launch) (base : Nat) (k n : Nat) (hk : k < n) (hn : n ≤ 1000) (v : Value) (hv : v = .null ∨ ∃ t, v = .ref t) : Met l yJ3_checkIndex_8e157 (Cond.code yJ3_checkIndex_8e157 cJ3_checkIndex_8e157 3 (some .int) :: Tb1) (rm00 0 0) (kPc (fun _ => True) [.int (Int32.ofNat k), .int (Int32.ofNat n), v]) (kQc (fun x => ∃ z : Int32, x = some (.int z))) 0 0 kNo := by
  refine k_met (by decide) (by rcases hv with rfl | ⟨t, rfl⟩ <;> exact Nat.le_refl _) ?_
  intro p e s m below meth c lsA ⟨hx, hb, hml, hown, hts⟩ hr hlocks hF hl
  have hl : lv_has lsA 3 [(0, .int (Int32.ofNat k)), (1, .int (Int32.ofNat n)), (2, v)] := by rcases hv with rfl | ⟨t, rfl⟩ <;> exact hl
  refine lv_iload_n hx hb (by decide +kernel : decode cJ3_checkIndex_8e157 0 = .ok (.iload_n 0, 1)) rfl (lv_at hl 0 rfl) ?_
  refine lv_if_lt (tgt := 9) hx hb (by decide +kernel : decode cJ3_checkIndex_8e157 1 = .ok (.ifCond .lt 8, 3)) (by decide) (fun z => absurd z (e_pos (by omega))) (fun _ => ?_)
  refine lv_iload_n hx hb (by decide +kernel : decode cJ3_checkIndex_8e157 4 = .ok (.iload_n 0, 1)) rfl (lv_at hl 0 rfl) ?_
  refine lv_iload_n hx hb (by decide +kernel : decode cJ3_checkIndex_8e157 5 = .ok (.iload_n 1, 1)) rfl (lv_at hl 1 rfl) ?_
  refine lv_icmp_lt (tgt := 16) hx hb (by decide +kernel : decode cJ3_checkIndex_8e157 6 = .ok (.if_icmp .lt 10, 3)) (by decide) (fun _ => ?_) (fun z => absurd (nI_lt (a := k) (b := n) hk (by omega)) z)
  refine lv_iload_n hx hb (by decide +kernel : decode cJ3_checkIndex_8e157 16 = .ok (.iload_n 0, 1)) rfl (lv_at hl 0 rfl) ?_
  exact W.iret hx hb hr (fun t ht _ => ⟨_, rfl, ⟨_, rfl⟩, ht⟩) (k_no rfl) (by decide +kernel : decode cJ3_checkIndex_8e157 17 = .ok (.ireturn, 1))
theorem kT_ok {base : Nat} : eNFw base (fun _ => True) := ⟨fun _ _ _ _ _ _ => trivial, fun _ _ _ _ _ => trivial⟩
theorem m_check (l : Launch) (base a av n : Nat) (f : Nat → Int32) (k : Nat) (hk : k < n) (hn : n ≤ 1000) : Met l yJ0_checkIndex_df160 (Cond.code yJ0_checkIndex_df160 cJ0_checkIndex_df160 2 none :: Tb1) (rm00 1 22) (kPc (kF base a av n f) [.int (Int32.ofNat k), .int (Int32.ofNat n)]) (kQc (fun x => x = none)) 0 0 kNo := by
  refine k_met (by decide) (Nat.le_refl _) ?_
  intro p e s m below meth c lsA ⟨hx, hb, hml, hown, hts⟩ hr hlocks hF hl
  have hl : lv_has lsA 2 [(0, .int (Int32.ofNat k)), (1, .int (Int32.ofNat n))] := hl
  have hS : va_S (fun q => base ≤ q) s.heap s.heap [] := va_S.rf
  refine lv_iload_n hx hb (by decide +kernel : decode cJ0_checkIndex_df160 0 = .ok (.iload_n 0, 1)) rfl (lv_at hl 0 rfl) ?_
  refine lv_iload_n hx hb (by decide +kernel : decode cJ0_checkIndex_df160 1 = .ok (.iload_n 1, 1)) rfl (lv_at hl 1 rfl) ?_
  obtain ⟨v, hv, hZ⟩ : ∃ v : Value, (v = .null ∨ ∃ t, v = .ref t) ∧ va_Z "jdk/internal/util/Preconditions" "SIOOBE_FORMATTER" "Ljava/util/function/BiFunction;" v (fun q => base ≤ q) s s.heap := by
    rcases hF.2.2.2.2.2 with z | ⟨t, z⟩
    · exact ⟨_, Or.inl rfl, z⟩
    · exact ⟨_, Or.inr ⟨t, rfl⟩, z⟩
  refine va_gets (v := v) hx hb hZ hS hown (hts _ (tbT 70 (by decide +kernel) rfl)) (fun _ z => z) (by decide +kernel : decode cJ0_checkIndex_df160 2 = .ok (.getstatic 1053, 3)) ?_
  refine k_callS (n := 3) (asx := [.int (Int32.ofNat k), .int (Int32.ofNat n), v]) (rx := []) (m_pcheck l base k n hk hn v hv) ⟨rfl, rfl⟩ (kT_ok (base := base)) ⟨hx, hb, hml, hown, hts⟩ (tbT 74 (by decide +kernel) rfl) (tbT 5 (by decide +kernel) rfl) (tbT 72 (by decide +kernel) rfl) (tbT 73 (by decide +kernel) rfl) (by decide +kernel) ⟨Nat.le_refl _, Nat.le_refl _⟩ trivial hS rfl hl.1 (Nat.zero_le _) ⟨Nat.zero_le _, Nat.zero_le _⟩ (by decide +kernel : decode cJ0_checkIndex_df160 5 = .ok (.invokestatic 1059, 3)) (fun x hx2 => ?_)
  obtain ⟨z, rfl⟩ := hx2
  refine lv_pop hx hb (by decide +kernel : decode cJ0_checkIndex_df160 8 = .ok (.pop, 1)) rfl ?_
  exact W.vret hx hb hr (fun t ht _ => ⟨_, rfl, rfl, ht⟩) (k_no rfl) (by decide +kernel : decode cJ0_checkIndex_df160 9 = .ok (.return_, 1))
def kCh (x : Option Value) : Prop := ∃ z : Int32, x = some (.int z) ∧ narrow .char (.int z) = .int z
theorem m_lcharAt (l : Launch) (base a av n : Nat) (f : Nat → Int32) (k : Nat) (hk : k < n) (hn : n ≤ 1000) : Met l yJ1_charAt_3b067 (Cond.code yJ1_charAt_3b067 cJ1_charAt_3b067 2 (some .char) :: Tb1) (rm00 2 43) (kPc (kF base a av n f) [.ref av, .int (Int32.ofNat k)]) (kQc kCh) 0 0 kNo := by
  refine k_met (by decide) (Nat.le_refl _) ?_
  intro p e s m below meth c lsA ⟨hx, hb, hml, hown, hts⟩ hr hlocks hF hl
  have hl : lv_has lsA 2 [(0, .ref av), (1, .int (Int32.ofNat k))] := hl
  have hS : va_S (fun q => base ≤ q) s.heap s.heap [] := va_S.rf
  refine lv_iload_n hx hb (by decide +kernel : decode cJ1_charAt_3b067 0 = .ok (.iload_n 1, 1)) rfl (lv_at hl 1 rfl) ?_
  refine lv_aload_n hx hb (by decide +kernel : decode cJ1_charAt_3b067 1 = .ok (.aload_n 0, 1)) rfl (lv_at hl 0 rfl) ?_
  refine va_tlen hx hb hF.2.2.2.1 hS rfl (by decide +kernel : decode cJ1_charAt_3b067 2 = .ok (.arraylength, 1)) ?_
  refine k_callS (n := 2) (asx := [.int (Int32.ofNat k), .int (Int32.ofNat n)]) (rx := []) (m_check l base a av n f k hk hn) ⟨rfl, rfl⟩ kF_ok ⟨hx, hb, hml, hown, hts⟩ (tbT 69 (by decide +kernel) rfl) (tbT 3 (by decide +kernel) rfl) (tbT 67 (by decide +kernel) rfl) (tbT 68 (by decide +kernel) rfl) (by decide +kernel) ⟨Nat.le_refl _, Nat.le_refl _⟩ hF hS rfl hl.1 (Nat.zero_le _) ⟨Nat.zero_le _, Nat.zero_le _⟩ (by decide +kernel : decode cJ1_charAt_3b067 3 = .ok (.invokestatic 9, 3)) (fun x hx2 => ?_)
  subst hx2
  refine lv_aload_n hx hb (by decide +kernel : decode cJ1_charAt_3b067 6 = .ok (.aload_n 0, 1)) rfl (lv_at hl 0 rfl) ?_
  refine lv_iload_n hx hb (by decide +kernel : decode cJ1_charAt_3b067 7 = .ok (.iload_n 1, 1)) rfl (lv_at hl 1 rfl) ?_
  refine va_tb hx hb hF.2.2.2.1 hS (e_in (i := k) hk (by omega)) rfl (by decide +kernel : decode cJ1_charAt_3b067 8 = .ok (.baload, 1)) ?_
  refine lv_sipush (v := 255) hx hb (by decide +kernel : decode cJ1_charAt_3b067 9 = .ok (.sipush 255, 3)) (by decide) ?_
  refine lv_iand hx hb (by decide +kernel : decode cJ1_charAt_3b067 12 = .ok (.iand, 1)) ?_
  refine lv_i2c hx hb (by decide +kernel : decode cJ1_charAt_3b067 13 = .ok (.i2c, 1)) rfl ?_
  exact W.zret (ty := .char) hx hb hr (pk_nc _) (fun t ht _ => ⟨_, rfl, ⟨_, rfl, pk_nc _⟩, ht⟩) (k_no rfl) (by decide +kernel : decode cJ1_charAt_3b067 14 = .ok (.ireturn, 1))
theorem m_charAt (l : Launch) (base a av n : Nat) (f : Nat → Int32) (k : Nat) (hk : k < n) (hn : n ≤ 1000) : Met l yJ0_charAt_5068e (Cond.code yJ0_charAt_5068e cJ0_charAt_5068e 2 (some .char) :: Tb1) (rm00 3 64) (kPc (kF base a av n f) [.ref a, .int (Int32.ofNat k)]) (kQc kCh) 0 0 kNo := by
  refine k_met (by decide) (Nat.le_refl _) ?_
  intro p e s m below meth c lsA ⟨hx, hb, hml, hown, hts⟩ hr hlocks hF hl
  have hl : lv_has lsA 2 [(0, .ref a), (1, .int (Int32.ofNat k))] := hl
  have hS : va_S (fun q => base ≤ q) s.heap s.heap [] := va_S.rf
  refine lv_aload_n hx hb (by decide +kernel : decode cJ0_charAt_5068e 0 = .ok (.aload_n 0, 1)) rfl (lv_at hl 0 rfl) ?_
  refine k_callV (As := []) (rx := []) (m_isLatin1 l base a av n f) ⟨rfl, rfl⟩ kF_ok ⟨hx, hb, hml, hown, hts⟩ (tbT 63 (by decide +kernel) rfl) (tbT 3 (by decide +kernel) rfl) (tbT 60 (by decide +kernel) rfl) (tbT 61 (by decide +kernel) rfl) (tbT 62 (by decide +kernel) rfl) (by decide +kernel) ⟨Nat.le_of_ble_eq_true rfl, Nat.le_of_ble_eq_true rfl⟩ hF hS hF.1 rfl hl.1 (Nat.zero_le _) ⟨Nat.zero_le _, Nat.zero_le _⟩ (by decide +kernel : decode cJ0_charAt_5068e 1 = .ok (.invokevirtual 492, 3)) (fun x hx2 => ?_)
  subst hx2
  refine lv_if_eq (tgt := 16) hx hb (by decide +kernel : decode cJ0_charAt_5068e 4 = .ok (.ifCond .eq 12, 3)) (by decide) (fun z => absurd z (by decide)) (fun _ => ?_)
  refine lv_aload_n hx hb (by decide +kernel : decode cJ0_charAt_5068e 7 = .ok (.aload_n 0, 1)) rfl (lv_at hl 0 rfl) ?_
  refine vk_getf (v := .ref av) hx hb hF.2.2.1 hS hown (hts _ (tbT 2072 (by decide +kernel) rfl)) (fun _ z => z) (by decide +kernel : decode cJ0_charAt_5068e 8 = .ok (.getfield 9, 3)) ?_
  refine lv_iload_n hx hb (by decide +kernel : decode cJ0_charAt_5068e 11 = .ok (.iload_n 1, 1)) rfl (lv_at hl 1 rfl) ?_
  refine k_callS (n := 2) (asx := [.ref av, .int (Int32.ofNat k)]) (rx := []) (m_lcharAt l base a av n f k hk hn) ⟨rfl, rfl⟩ kF_ok ⟨hx, hb, hml, hown, hts⟩ (tbT 66 (by decide +kernel) rfl) (tbT 4 (by decide +kernel) rfl) (tbT 64 (by decide +kernel) rfl) (tbT 65 (by decide +kernel) rfl) (by decide +kernel) ⟨Nat.le_refl _, Nat.le_refl _⟩ hF hS rfl hl.1 (Nat.zero_le _) ⟨Nat.zero_le _, Nat.zero_le _⟩ (by decide +kernel : decode cJ0_charAt_5068e 12 = .ok (.invokestatic 495, 3)) (fun x hx2 => ?_)
  obtain ⟨z, rfl, hz⟩ := hx2
  exact W.zret (ty := .char) hx hb hr hz (fun t ht _ => ⟨_, rfl, ⟨_, rfl, hz⟩, ht⟩) (k_no rfl) (by decide +kernel : decode cJ0_charAt_5068e 15 = .ok (.ireturn, 1))
def kLg (x : Option Value) : Prop := ∃ z : Int64, x = some (.long z)
theorem m_codeWith (l : Launch) (z : Int64) (q : Int32) : Met l yX7_codeWith (Cond.code yX7_codeWith cX7_codeWith 3 (some .long) :: Tb1) (rm00 0 0) (kPc (fun _ => True) [.long z, .int q]) (kQc kLg) 0 0 kNo := by
  refine k_met (by decide) (Nat.le_refl _) ?_
  intro p e s m below meth c lsA ⟨hx, hb, hml, hown, hts⟩ hr hlocks hF hl
  have hl : lv_has lsA 3 [(0, .long z), (2, .int q)] := hl
  refine lv_lload_n hx hb (by decide +kernel : decode cX7_codeWith 0 = .ok (.lload_n 0, 1)) rfl (lv_at hl 0 rfl) ?_
  refine lv_ldc2 (v := 27) hx hb hown (hts _ (tbT 97 (by decide +kernel) rfl)) (by decide +kernel : decode cX7_codeWith 1 = .ok (.ldc2_w 43, 3)) ?_
  refine lv_lmul hx hb (by decide +kernel : decode cX7_codeWith 4 = .ok (.lmul, 1)) ?_
  refine lv_iload_n hx hb (by decide +kernel : decode cX7_codeWith 5 = .ok (.iload_n 2, 1)) rfl (lv_at hl 1 rfl) ?_
  refine lv_bipush (v := 97) hx hb (by decide +kernel : decode cX7_codeWith 6 = .ok (.bipush 97, 2)) (by decide) ?_
  refine lv_isub hx hb (by decide +kernel : decode cX7_codeWith 8 = .ok (.isub, 1)) ?_
  refine lv_iconst (v := 1) hx hb (by decide +kernel : decode cX7_codeWith 9 = .ok (.iconst 1, 1)) (by decide) ?_
  refine lv_iadd hx hb (by decide +kernel : decode cX7_codeWith 10 = .ok (.iadd, 1)) ?_
  refine lv_i2l hx hb (by decide +kernel : decode cX7_codeWith 11 = .ok (.i2l, 1)) rfl ?_
  refine lv_ladd hx hb (by decide +kernel : decode cX7_codeWith 12 = .ok (.ladd, 1)) ?_
  exact W.lret hx hb hr (fun t ht _ => ⟨_, rfl, ⟨_, rfl⟩, ht⟩) (k_no rfl) (by decide +kernel : decode cX7_codeWith 13 = .ok (.lreturn, 1))
