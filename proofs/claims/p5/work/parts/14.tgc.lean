/-! THE STEPS, on: calls. -/
def gRk (kd : Nat) (ret : Option FieldType) : Prop := (kd = 0 ∧ ret = none) ∨ (kd = 1 ∧ ret = some .int) ∨ (kd = 2 ∧ ret = some .boolean) ∨ (kd = 3 ∧ ret = some .long) ∨ (kd = 4 ∧ ∃ rt, ret = some rt ∧ ((∃ n, rt = .object n) ∨ ∃ t, rt = .array t))
def gMok (Tb : List Cond) (CN : Nat → String) (q : eM × Nat) (y : MethodName) (cc : ByteArray) (ret : Option FieldType) : Prop :=
  Cond.code y cc q.2 ret ∈ Tb ∧ Cond.initialized y.cls ∈ Tb ∧ plainFor y = true ∧ y.cls = CN q.1.1 ∧ (y.cls ≠ "java/lang/invoke/MethodHandle" ∧ y.cls ≠ "java/lang/invoke/VarHandle") ∧ (∀ t ∈ q.1.2.2.2.2.2.2, gDk cc q.2 t) ∧ gRk q.1.2.2.2.2.2.1 ret
theorem gRk_20 {kd : Nat} {ret : Option FieldType} (h : gRk kd ret) : ¬ kd = 20 := by
  rcases h with ⟨z, -⟩ | ⟨z, -⟩ | ⟨z, -⟩ | ⟨z, -⟩ | ⟨z, -⟩ <;> omega
def gQc (base : Nat) (D : va_G) (cl : List vw_C) (tys : List (ClassId × FieldType)) (K : gK) : Array Value → State → Outcome → State → Prop := fun _ st o t =>
  (∃ (ret : Option Value) (ws2 : va_W), K ret ws2 ∧ va_K D cl tys t ∧ va_P D cl ws2 t.heap ∧ va_D (fun q => base ≤ q) ws2 ∧ o = .returned ret) ∧ va_F (fun q => base ≤ q) st t
section G3
variable {b base LS : Nat} {xs : Nat → Int32} {D : va_G} {cl : List vw_C} {tys : List (ClassId × FieldType)} {Tb : List Cond} {NF : State → Prop} {l : Launch} {CN : Nat → String}
theorem g_met {q : eM × Nat} {y : MethodName} {cc : ByteArray} {ret : Option FieldType} (ok : gMok Tb CN q y cc ret) {ws : va_W} {asx : List Value} {K : gK} (hc : (asx.map fun v => v.category).sum ≤ q.2) (h : gG b base LS xs D cl tys Tb NF l CN q.1 0 (lv_args 0 asx) [] ws 0 0 K) :
    Met l y (Cond.code y cc q.2 ret :: Tb) (eRoom q.1) (ePc base D cl NF ws tys asx) (gQc base D cl tys K) q.1.2.1 q.1.2.2.1 (fun a => base ≤ a) := by
  obtain ⟨o1, o2, o3, o4, o5, o6, o8⟩ := ok
  refine e_ofWF (cc := cc) (maxL := q.2) (ret := ret) o3 rfl ?_
  intro p e s m args below meth c s₁ B hml hv
  obtain ⟨rfl, hnf, hbase, hK, hP, hD⟩ := hv
  have hx := B.exec
  have hb := B.bytes
  have hr := B.returns
  have hts := atoms_spec (ws := Cond.code y cc q.2 ret :: Tb) B.pre
  have hown : s.vm.findClass y.cls = some m.cls := findClass_of_methodNamed B.named
  have hlocks := B.notSynchronized
  have X : gCx b base LS xs Tb NF CN p (headSpec (Cond.code y cc q.2 ret :: Tb) (eRoom q.1)).room s m asx.toArray meth c q.1 cc q.2 :=
    ⟨hx, hb, hml, by rw [← o4]; exact hown, fun w hw => hts w (List.mem_cons_of_mem _ hw), hnf, hbase, ⟨rfl, rfl, rfl, rfl⟩, o6, fun z => absurd z (gRk_20 o8)⟩
  have hl := lv_entry asx (n := q.2) (by rw [lg_len]; exact hc)
  rw [lg_entry_eq]
  generalize (lg_sl asx ++ List.replicate (q.2 - (lg_sl asx).length) Slot.unset).toArray = lsA at hl ⊢
  refine h p e _ s m _ below meth c _ cc q.2 X ?_ s.heap [] lsA ⟨hK, hP, hD, va_S.rf⟩ hl
  intro rv ws2 hk H locs hw2 i pc lsB stA hret hdec ce sl hce hsl
  refine W.widen hce hsl ?_
  have hqq : ∀ t : State, t.heap = H → s.WarmedH t.vm → gQc base D cl tys K asx.toArray s (.returned rv) t := by
    intro t ht hW
    exact ⟨⟨rv, ws2, hk, va_K.moved hW.alike hw2.1, by rw [ht]; exact hw2.2.1, hw2.2.2.1, rfl⟩, hw2.2.2.2.F ht⟩
  have hf : ∀ z ∈ locs, base ≤ z.base := hw2.2.2.2.2.2
  cases rv with
  | none =>
    obtain ⟨hkd, rfl, rfl⟩ := hret
    have hr0 : ret = none := by
      rcases o8 with ⟨z2, z3⟩ | ⟨z2, -⟩ | ⟨z2, -⟩ | ⟨z2, -⟩ | ⟨z2, -⟩
      · exact z3
      all_goals omega
    exact W.vret hx hb (by rw [hr, hr0]) hqq hf hdec
  | some x =>
    obtain ⟨rfl, hkind⟩ := hret
    rcases hkind with ⟨rfl, z, rfl, hk1⟩ | ⟨rfl, hk4, a, rfl⟩ | ⟨rfl, hk3, z, rfl⟩
    · rcases hk1 with hk1 | ⟨hk1, hz⟩
      · have hr0 : ret = some .int := by
          rcases o8 with ⟨z2, z3⟩ | ⟨z2, z3⟩ | ⟨z2, -⟩ | ⟨z2, -⟩ | ⟨z2, -⟩
          · omega
          · exact z3
          all_goals omega
        exact W.iret hx hb (by rw [hr, hr0]) hqq hf hdec
      · have hr0 : ret = some .boolean := by
          rcases o8 with ⟨z2, z3⟩ | ⟨z2, z3⟩ | ⟨z2, z3⟩ | ⟨z2, -⟩ | ⟨z2, -⟩
          · omega
          · omega
          · exact z3
          all_goals omega
        exact W.zret (ty := .boolean) hx hb (by rw [hr, hr0]) (by
          rcases hz with rfl | rfl
          · rfl
          · rfl) hqq hf hdec
    · obtain ⟨rt, hr0, hrt⟩ : ∃ rt, ret = some rt ∧ ((∃ n, rt = .object n) ∨ ∃ t, rt = .array t) := by
        rcases o8 with ⟨z2, z3⟩ | ⟨z2, z3⟩ | ⟨z2, z3⟩ | ⟨z2, z3⟩ | ⟨z2, z3⟩
        · omega
        · omega
        · omega
        · omega
        · exact z3
      exact W.aret hx hb (by rw [hr, hr0]) hrt (Or.inr ⟨a, rfl⟩) hqq hf hdec
    · have hr0 : ret = some .long := by
        rcases o8 with ⟨z2, z3⟩ | ⟨z2, z3⟩ | ⟨z2, z3⟩ | ⟨z2, z3⟩ | ⟨z2, z3⟩
        · omega
        · omega
        · omega
        · exact z3
        · omega
      exact W.lret hx hb (by rw [hr, hr0]) hqq hf hdec
/-- what the room of a call must be -/
def gRoom (mi m2 : eM) (maxL ce sl : Nat) (asx rx : List Value) : Prop := m2.2.2.2.1 + 1 ≤ mi.2.2.2.1 ∧ 8 + (maxL + 11) + m2.2.2.2.2.1 ≤ mi.2.2.2.2.1 ∧ ce + m2.2.1 ≤ mi.2.1 ∧ sl + m2.2.2.1 ≤ mi.2.2.1 ∧ (rx.map fun v => v.category).sum ≤ 8 ∧ (asx.map fun v => v.category).sum ≤ maxL
theorem g_back {mi : eM} {pc : Nat} {ce sl mc ms : Nat} {K : gK} {p : Program} {e : Env} {R : Room} {s : State} {m : MethodId} {args : Array Value} {below : List Frame} {meth : Method} {c : Code} {Q : State → Prop} {cc : ByteArray} {nL : Nat}
    (X : gCx b base LS xs Tb NF CN p R s m args meth c mi cc nL) (hR : gRH base D cl tys l p e R s m args below meth c Q mi cc K)
    {H : Heap} {locs : List Loc} {ws : va_W} {lsA : Array Slot} {lv : List (Nat × Value)} {st0 rx : List Value} {a : Array Value} (hw : gWd base D cl tys s H locs ws) (hl : lv_has lsA nL lv)
    (hr : va_Run p l e R s m args below meth c H locs ce sl mc ms (F0 m pc lsA st0) rx (gQc base D cl tys (fun ret ws2 => gG b base LS xs D cl tys Tb NF l CN mi (pc + 3) lv (ret.toList ++ rx) ws2 (ce + mc) (sl + ms) K) a) (fun x => base ≤ x)) :
    W p l e R s m args below meth c H locs ce sl Q (F0 m pc lsA st0) := by
  intro T hT XT
  obtain ⟨v, st₀, t, T', L, h0, X', hL, e1, e2, ⟨⟨ret, ws2, hk, hK2, hP2, hD2, hret⟩, hz, hkp⟩, st⟩ := hr T hT XT
  rw [h0] at hz hkp
  have hS := hw.2.2.2
  have hw2 : gWd base D cl tys s T'.heap (locs ++ L) ws2 := by
    refine ⟨va_K.moved (by rw [← e2]; exact X'.warmed.alike.symm) hK2, by rw [e1]; exact hP2, hD2, ⟨Nat.le_trans hS.1 (by rw [e1]; exact hz), fun q h1 h2 => ?_, fun q hq => ?_⟩⟩
    · rw [e1, hkp q (Nat.lt_of_lt_of_le h1 hS.1) h2]
      exact hS.2.1 q h1 h2
    · rcases List.mem_append.mp hq with z | z
      · exact hS.2.2 q z
      · exact hL q z
  cases hret
  obtain ⟨t2, a1, b1⟩ := hk p e R s m args below meth c Q cc nL X hR T'.heap (locs ++ L) lsA hw2 hl T' rfl X'
  exact ⟨t2, st t2 a1, b1⟩
theorem g_pre (hN : eNFw base NF) {p : Program} {R : Room} {s : State} {m : MethodId} {args : Array Value} {meth : Method} {c : Code} {mi : eM} {cc : ByteArray} {nL : Nat} (X : gCx b base LS xs Tb NF CN p R s m args meth c mi cc nL)
    {H : Heap} {locs : List Loc} {ws : va_W} (hw : gWd base D cl tys s H locs ws) {asx : List Value} : ∀ U : State, U.heap = H → s.WarmedH U.vm → ePc base D cl NF ws tys asx asx.toArray U := fun U hU hW => by
  refine ⟨rfl, hN.1 s U X.2.2.2.2.2.1 hW (by rw [hU]; exact hw.2.2.2.1) (by rw [hU]; exact hw.2.2.2.2.1), ?_, va_K.moved hW.alike hw.1, by rw [hU]; exact hw.2.1, hw.2.2.1⟩
  rw [hU]
  exact Nat.le_trans X.2.2.2.2.2.2.1 hw.2.2.2.1
theorem g_call (hTg : ∀ w ∈ Tb, goodWord w = true) (hN : eNFw base NF) {q : eM × Nat} {y : MethodName} {cc2 : ByteArray} {ret : Option FieldType} (ok : gMok Tb CN q y cc2 ret) {mi : eM} {idx kd n : Nat} (lk : eLk Tb NF CN mi.1 idx kd n y) (hcls : (kd = 1 ∨ kd = 4) → ∃ T N, cl[q.1.1]? = some (CN q.1.1, T, N)) {i : Instr}
    (hop : (i = .invokestatic idx ∧ (kd = 0 ∨ kd = 3)) ∨ (i = .invokevirtual idx ∧ (kd = 1 ∨ kd = 4))) {pc : Nat} {lv : List (Nat × Value)} {st asx rx : List Value} {ws : va_W} {ce sl : Nat} {K : gK} (hm : (pc, i, 3) ∈ mi.2.2.2.2.2.2) (hroom : gRoom mi q.1 q.2 ce sl asx rx) (hsp : st = asx.reverse ++ rx) (hlen : asx.length = n)
    (hrecv : (kd = 1 ∨ kd = 4) → ∃ (o a : Nat) (fs asx2 : List Value), asx = .ref a :: asx2 ∧ ws[o]? = some (a, (.inr (q.1.1, fs) : va_E)))
    (h : gG b base LS xs D cl tys Tb NF l CN q.1 0 (lv_args 0 asx) [] ws 0 0 (fun ret ws2 => gG b base LS xs D cl tys Tb NF l CN mi (pc + 3) lv (ret.toList ++ rx) ws2 (ce + q.1.2.1) (sl + q.1.2.2.1) K)) : gG b base LS xs D cl tys Tb NF l CN mi pc lv st ws ce sl K := by
  intro p e R s m args below meth c Q cc nL X hR H locs lsA hw hl
  have hd := X.2.2.2.2.2.2.2.2.1 _ hm
  obtain ⟨r1, r2, r3, r4, r5, r6⟩ := hroom
  have hM := g_met ok r6 h
  obtain ⟨o1, o2, o3, o4, o5, o6, o8⟩ := ok
  obtain ⟨hpar, hlk⟩ := lk
  have hRc := X.2.2.2.2.2.2.2.1
  have hts := X.2.2.2.2.1
  have hG : GoodIn Tb (Cond.code y cc2 q.2 ret :: Tb) := e_goodIn hTg (fun w z => (List.mem_cons.mp z).elim (fun z => by rw [z]; exact o1) (fun z => z))
  have S : CallFix p m c cc nL s args Tb (CN mi.1) := ⟨X.1, X.2.1, X.2.2.1, X.2.2.2.1, hts⟩
  have hRR : (eRoom q.1).frames + 1 ≤ R.frames ∧ 8 + (q.2 + 11) + (eRoom q.1).locals ≤ R.locals := ⟨by rw [hRc.2.2.1]; exact r1, by rw [hRc.2.2.2]; exact r2⟩
  have hff : ce + q.1.2.1 ≤ R.cells ∧ sl + q.1.2.2.1 ≤ R.slots := ⟨by rw [hRc.1]; exact r3, by rw [hRc.2.1]; exact r4⟩
  have hWw : ∀ st1 : List Value, 2 * (F0 m pc lsA st1).monitorRoom + (rx.map fun v => v.category).sum ≤ 8 := fun st1 => lv_room r5
  refine g_back X hR hw hl (rx := rx) (mc := q.1.2.1) (ms := q.1.2.2.1) (a := asx.toArray) ?_
  rcases hop with ⟨rfl, hkd⟩ | ⟨rfl, hkd⟩
  · rcases hlk with ⟨rfl, l1, l2⟩ | ⟨rfl, -⟩ | ⟨rfl, -⟩ | ⟨rfl, ⟨host, l1⟩, l2⟩ | ⟨rfl, -⟩ | ⟨rfl, -⟩
    · exact va_runS (n := n) S hM ⟨callB_of n hts hG rfl rfl rfl (hts _ o2) (hts _ l1) ⟨o5.1, o5.2, hpar⟩ hRR, hts _ l2⟩ ⟨e_blind hN, g_pre hN X hw⟩ rfl hlen hl.1 hsp (hWw _) hd.1.1 hff
    · omega
    · omega
    · exact va_runSN (n := n) S hM ⟨va_cnB n hts hG rfl rfl rfl (l1 s X.2.2.2.2.2.1) (hts _ o2) ⟨o5.1, o5.2, hpar⟩ hRR, hts _ l2, trivial⟩ ⟨e_blind hN, g_pre hN X hw⟩ rfl hlen hl.1 hsp (hWw _) hd.1.1 hff
    · omega
    · omega
  · obtain ⟨o, a, fs, asx2, rfl, he⟩ := hrecv hkd
    obtain ⟨T, N, hcl2⟩ := hcls hkd
    have hln : asx2.length = n - 1 := by rw [List.length_cons] at hlen; omega
    have hsp2 : st = asx2.reverse ++ .ref a :: rx := by rw [hsp, List.reverse_cons, List.append_assoc]; rfl
    rcases hlk with ⟨rfl, -⟩ | ⟨rfl, l1, l2, l3⟩ | ⟨rfl, -⟩ | ⟨rfl, -⟩ | ⟨rfl, ⟨host, l1⟩, l2, l3⟩ | ⟨rfl, -⟩
    · omega
    · exact va_runV (n := n - 1) (C := CN q.1.1) S hM ⟨callB_of (n - 1) hts hG rfl rfl rfl (hts _ o2) (hts _ l1) ⟨o5.1, o5.2, hpar⟩ hRR, hts _ l2, by rw [← o4]; exact hts _ l3⟩ ⟨e_blind hN, va_recv hw.1 hw.2.1 hcl2 he, g_pre hN X hw⟩ rfl hln hl.1 hsp2 (hWw _) hd.1.1 hff
    · omega
    · omega
    · exact va_runVN (n := n - 1) (C := CN q.1.1) S hM ⟨va_cnB (n - 1) hts hG rfl rfl rfl (l1 s X.2.2.2.2.2.1) (hts _ o2) ⟨o5.1, o5.2, hpar⟩ hRR, hts _ l2, by rw [← o4]; exact hts _ l3⟩ ⟨e_blind hN, va_recv hw.1 hw.2.1 hcl2 he, g_pre hN X hw⟩ rfl hln hl.1 hsp2 (hWw _) hd.1.1 hff
    · omega
/-- System.arraycopy of ints, from 0 to 0 -/
theorem g_copyi {mi : eM} {pc : Nat} {lv : List (Nat × Value)} {st : List Value} {ws : va_W} {ce sl : Nat} {K : gK} {CL : eFL} (hO : eOok Tb CN CL) {idx x n : Nat} (hcl : CL mi.1 idx = some (7, x, n)) (hm : (pc, .invokestatic idx, 3) ∈ mi.2.2.2.2.2.2)
    {o1 o2 a1 a2 t1 t2 n1 n2 : Nat} {cA cB : ClassId} {f g : Nat → Int32} (he1 : ws[o1]? = some (a1, .inl (cA, n1, .inl f))) (he2 : ws[o2]? = some (a2, .inl (cB, n2, .inl g))) (ht1 : tys[t1]? = some (cA, .int)) (ht2 : tys[t2]? = some (cB, .int)) {z : Int32} (hz : ¬ z < 0) (h4 : z.toNatClampNeg ≤ n1) (h5 : z.toNatClampNeg ≤ n2)
    (b1 : 1 ≤ mi.2.2.2.1) (b2 : (st.map fun v => v.category).sum + 100 ≤ mi.2.2.2.2.1)
    (h : gG b base LS xs D cl tys Tb NF l CN mi (pc + 3) lv st (ws.set o2 (a2, .inl (cB, n2, .inl (va_cpy f g 0 0 z.toNatClampNeg)))) ce sl K) : gG b base LS xs D cl tys Tb NF l CN mi pc lv (.int z :: .int 0 :: .ref a2 :: .int 0 :: .ref a1 :: st) ws ce sl K := by
  intro p e R s m args below meth c Q cc nL X hR H locs lsA hw hl
  have hd := X.2.2.2.2.2.2.2.2.1 _ hm
  have hRc := X.2.2.2.2.2.2.2.1
  have hts := X.2.2.2.2.1
  have d1 : 1 ≤ R.frames := by rw [hRc.2.2.1]; exact b1
  have d2 : (st.map fun v => v.category).sum + (nativeFrameWords "java/lang/System" "arraycopy" 5 + 11) ≤ R.locals := by
    rw [hRc.2.2.2]
    have := e_nfw
    omega
  have c0 : (0 : Int32).toNatClampNeg = 0 := rfl
  exact va_copyi (ty := .int) (sp := 0) (dp := 0) (n := z) X.1 X.2.1 (by rw [X.2.2.1]; exact hl.1.symm) X.2.2.2.1 (hts _ (hO.2.2.2.1 _ _ _ _ hcl)) (hts _ hO.2.2.2.2.1) (hts _ hO.2.2.2.2.2.1) (hts _ hO.2.2.2.2.2.2) hw.1 hw.2.1 hw.2.2.1 hw.2.2.2 o1 o2 t1 t2 he1 he2 ht1 ht2 rfl (by decide) (by decide) hz (by rw [c0]; omega) (by rw [c0]; omega) (fun _ _ => rfl) d1 d2 hd.1.1 (fun H1 locs1 q1 q2 q3 => h p e R s m args below meth c Q cc nL X hR H1 locs1 lsA ⟨hw.1, q1, q2, q3⟩ hl)
theorem g_copyl {mi : eM} {pc : Nat} {lv : List (Nat × Value)} {st : List Value} {ws : va_W} {ce sl : Nat} {K : gK} {CL : eFL} (hO : eOok Tb CN CL) {idx x n : Nat} (hcl : CL mi.1 idx = some (7, x, n)) (hm : (pc, .invokestatic idx, 3) ∈ mi.2.2.2.2.2.2)
    {o1 o2 a1 a2 t1 t2 n1 n2 : Nat} {cA cB : ClassId} {f g : Nat → Int64} (he1 : ws[o1]? = some (a1, .inl (cA, n1, .inr (.inl f)))) (he2 : ws[o2]? = some (a2, .inl (cB, n2, .inr (.inl g)))) (ht1 : tys[t1]? = some (cA, .long)) (ht2 : tys[t2]? = some (cB, .long)) {z : Int32} (hz : ¬ z < 0) (h4 : z.toNatClampNeg ≤ n1) (h5 : z.toNatClampNeg ≤ n2)
    (b1 : 1 ≤ mi.2.2.2.1) (b2 : (st.map fun v => v.category).sum + 100 ≤ mi.2.2.2.2.1)
    (h : gG b base LS xs D cl tys Tb NF l CN mi (pc + 3) lv st (ws.set o2 (a2, .inl (cB, n2, .inr (.inl (va_cpy f g 0 0 z.toNatClampNeg))))) ce sl K) : gG b base LS xs D cl tys Tb NF l CN mi pc lv (.int z :: .int 0 :: .ref a2 :: .int 0 :: .ref a1 :: st) ws ce sl K := by
  intro p e R s m args below meth c Q cc nL X hR H locs lsA hw hl
  have hd := X.2.2.2.2.2.2.2.2.1 _ hm
  have hRc := X.2.2.2.2.2.2.2.1
  have hts := X.2.2.2.2.1
  have d1 : 1 ≤ R.frames := by rw [hRc.2.2.1]; exact b1
  have d2 : (st.map fun v => v.category).sum + (nativeFrameWords "java/lang/System" "arraycopy" 5 + 11) ≤ R.locals := by
    rw [hRc.2.2.2]
    have := e_nfw
    omega
  have c0 : (0 : Int32).toNatClampNeg = 0 := rfl
  exact va_copyl (ty := .long) (sp := 0) (dp := 0) (n := z) X.1 X.2.1 (by rw [X.2.2.1]; exact hl.1.symm) X.2.2.2.1 (hts _ (hO.2.2.2.1 _ _ _ _ hcl)) (hts _ hO.2.2.2.2.1) (hts _ hO.2.2.2.2.2.1) (hts _ hO.2.2.2.2.2.2) hw.1 hw.2.1 hw.2.2.1 hw.2.2.2 o1 o2 t1 t2 he1 he2 ht1 ht2 rfl (by decide) (by decide) hz (by rw [c0]; omega) (by rw [c0]; omega) (fun _ _ => rfl) d1 d2 hd.1.1 (fun H1 locs1 q1 q2 q3 => h p e R s m args below meth c Q cc nL X hR H1 locs1 lsA ⟨hw.1, q1, q2, q3⟩ hl)
end G3
