/-! THE WALKER IS RIGHT: where it says true, the machine comes to the end. First what 'right' is. -/
/-- a local that is written is one of the method's, and a branch goes to a place of the code -/
def est (pc : Nat) (i : Instr) (n : Nat) : Bool := match i with
  | .if_icmp _ off => decide (0 ≤ (pc : Int) + off)
  | .ifCond _ off => decide (0 ≤ (pc : Int) + off)
  | .istore j => Nat.blt j n
  | .istore_n j => Nat.blt j.val n
  | .astore j => Nat.blt j n
  | .astore_n j => Nat.blt j.val n
  | .iinc j _ => Nat.blt j n
  | _ => true
/-- an instruction of its usual length -/
def elen (i : Instr) (len : Nat) : Bool := match i with
  | .iload _ => Nat.beq len 2
  | .iload_n _ => Nat.beq len 1
  | .aload _ => Nat.beq len 2
  | .aload_n _ => Nat.beq len 1
  | .istore _ => Nat.beq len 2
  | .istore_n _ => Nat.beq len 1
  | .astore _ => Nat.beq len 2
  | .astore_n _ => Nat.beq len 1
  | .iconst _ => Nat.beq len 1
  | .bipush n => Nat.beq len 2 && decide (-128 ≤ n ∧ n < 128)
  | .sipush n => Nat.beq len 3 && decide (-32768 ≤ n ∧ n < 32768)
  | .ldc _ => Nat.beq len 2
  | .ldc_w _ => Nat.beq len 3
  | .ldc2_w _ => Nat.beq len 3
  | .iinc _ _ => Nat.beq len 3
  | .goto _ => Nat.beq len 3
  | .ifCond _ _ => Nat.beq len 3
  | .if_icmp _ _ => Nat.beq len 3
  | .tableswitch _ _ _ _ => true
  | .getfield _ => Nat.beq len 3
  | .putfield _ => Nat.beq len 3
  | .new _ => Nat.beq len 3
  | .newarray _ => Nat.beq len 2
  | .anewarray _ => Nat.beq len 3
  | .invokestatic _ => Nat.beq len 3
  | .invokevirtual _ => Nat.beq len 3
  | .invokespecial _ => Nat.beq len 3
  | _ => Nat.beq len 1
def eDk (cc : ByteArray) (nL : Nat) (q : eI) : Prop := decode cc q.1 = .ok (q.2.1, q.2.2) ∧ est q.1 q.2.1 nL = true ∧ elen q.2.1 q.2.2 = true
section EDEF
variable (ρ : Nat → Int32) (b base : Nat) (D : va_G) (cl : List vw_C) (Tb : List Cond) (NF : State → Prop) (l : Launch) (CN : Nat → String)
def eWd (s : State) (H : Heap) (locs : List Loc) (hp : eH) (nx : Nat) (ws : va_W) (tys : List (ClassId × FieldType)) : Prop := va_K D cl tys s ∧ va_P D cl ws H ∧ va_D (fun q => base ≤ q) ws ∧ va_S (fun q => base ≤ q) s.heap H locs ∧ eMt ρ b cl hp nx ws tys
def eScr (s : State) : Prop := ∃ (L : Nat) (xs : Nat → Int32), va_X b L xs s s.heap ∧ b < s.heap.size ∧ b < base ∧ L ≤ 3072 ∧ ρ 6 = Int32.ofNat L ∧ ∀ j, j < L → j < 6 → ρ j = xs j
def eCx (p : Program) (R : Room) (s : State) (m : MethodId) (args : Array Value) (meth : Method) (c : Code) (mi : eM) (cc : ByteArray) (nL : Nat) : Prop :=
  p.tables.exec = Jvm.exec ∧ c.code = cc ∧ c.maxLocals = nL ∧ s.vm.findClass (CN mi.1) = some m.cls ∧ (∀ w ∈ Tb, w.before args s = true) ∧ NF s ∧ base ≤ s.heap.size
  ∧ (R.cells = mi.2.1 ∧ R.slots = mi.2.2.1 ∧ R.frames = mi.2.2.2.1 ∧ R.locals = mi.2.2.2.2.1) ∧ (∀ q ∈ mi.2.2.2.2.2.2, eDk cc nL q) ∧ (mi.2.2.2.2.2.1 = 10 → meth.name = "<init>") ∧ (mi.2.2.2.2.2.1 = 20 → eScr ρ b base s)
def eRet (ad : List Nat) (kd : Nat) (ret : Option eV) (i : Instr) (stA : List Value) : Prop := match ret with
  | none => (kd = 0 ∨ kd = 10) ∧ i = .return_ ∧ stA = []
  | some v => ∃ x, stA = [x] ∧ eRl ρ b ad v x ∧ ((i = .ireturn ∧ eint v = true ∧ (kd = 1 ∨ ((kd = 2 ∨ kd = 20) ∧ ∃ n, v = .inl n ∧ n ≤ 1))) ∨ (i = .areturn ∧ kd = 4 ∧ eref v = true))
def eRH (p : Program) (e : Env) (R : Room) (s : State) (m : MethodId) (args : Array Value) (below : List Frame) (meth : Method) (c : Code) (Q : State → Prop) (mi : eM) (cc : ByteArray) (ad0 : List Nat) (k : eK) : Prop :=
  ∀ (ret : Option eV) (hp : eH) (nx : Nat) (cs : eC), k ret hp nx cs = true → eSat ρ cs → ∀ (H : Heap) (locs : List Loc) (ws : va_W) (tys : List (ClassId × FieldType)), eWd ρ b base D cl s H locs hp nx ws tys → (∀ (o a : Nat), ad0[o]? = some a → (ead ws)[o]? = some a) →
    ∀ (i : Instr) (pc : Nat) (lsA : Array Slot) (stA : List Value), eRet ρ b (ead ws) mi.2.2.2.2.2.1 ret i stA → decode cc pc = .ok (i, 1) → ∀ (ce sl : Nat), ce ≤ mi.2.1 → sl ≤ mi.2.2.1 → W p l e R s m args below meth c H locs ce sl Q (F0 m pc lsA stA)
def eGl (mi : eM) (pc : Nat) (cd : List eI) (ls : List (Nat × eV)) (st : List eV) (hp : eH) (nx ce sl : Nat) (cs : eC) (k : eK) : Prop :=
  ∀ (p : Program) (e : Env) (R : Room) (s : State) (m : MethodId) (args : Array Value) (below : List Frame) (meth : Method) (c : Code) (Q : State → Prop) (cc : ByteArray) (nL : Nat) (ad0 : List Nat),
    eCx ρ b base Tb NF CN p R s m args meth c mi cc nL → eRH ρ b base D cl l p e R s m args below meth c Q mi cc ad0 k →
    ∀ (H : Heap) (locs : List Loc) (ws : va_W) (tys : List (ClassId × FieldType)) (lsA : Array Slot) (lv : List (Nat × Value)) (stA : List Value),
      (∀ q ∈ cd, eDk cc nL q) → eSat ρ cs → eWd ρ b base D cl s H locs hp nx ws tys → (∀ (o a : Nat), ad0[o]? = some a → (ead ws)[o]? = some a) → lv_has lsA nL lv → eLs ρ b (ead ws) ls lv → eRs ρ b (ead ws) st stA →
      W p l e R s m args below meth c H locs ce sl Q (F0 m pc lsA stA)
def eSn (ih : eR) : Prop := ∀ (mi : eM) (pc : Nat) (cd : List eI) (ls : List (Nat × eV)) (st : List eV) (hp : eH) (nx ce sl : Nat) (cs : eC) (k : eK), ih mi pc cd ls st hp nx ce sl cs k = true → eGl ρ b base D cl Tb NF l CN mi pc cd ls st hp nx ce sl cs k
/-- a handler that is right for its instruction -/
def eStp (h : eHd) (i : Instr) (len : Nat) : Prop := ∀ (ih : eR), eSn ρ b base D cl Tb NF l CN ih → ∀ (mi : eM) (pc : Nat) (cd : List eI) (ls : List (Nat × eV)) (st : List eV) (hp : eH) (nx ce sl : Nat) (cs : eC) (k : eK), h ih mi pc cd ls st hp nx ce sl cs k = true →
  ∀ (p : Program) (e : Env) (R : Room) (s : State) (m : MethodId) (args : Array Value) (below : List Frame) (meth : Method) (c : Code) (Q : State → Prop) (cc : ByteArray) (nL : Nat) (ad0 : List Nat),
    eCx ρ b base Tb NF CN p R s m args meth c mi cc nL → eRH ρ b base D cl l p e R s m args below meth c Q mi cc ad0 k →
    ∀ (H : Heap) (locs : List Loc) (ws : va_W) (tys : List (ClassId × FieldType)) (lsA : Array Slot) (lv : List (Nat × Value)) (stA : List Value),
      eDk cc nL (pc, i, len) → (∀ q ∈ cd, eDk cc nL q) → eSat ρ cs → eWd ρ b base D cl s H locs hp nx ws tys → (∀ (o a : Nat), ad0[o]? = some a → (ead ws)[o]? = some a) → lv_has lsA nL lv → eLs ρ b (ead ws) ls lv → eRs ρ b (ead ws) st stA →
      W p l e R s m args below meth c H locs ce sl Q (F0 m pc lsA stA)
end EDEF
section ES1
variable {ρ : Nat → Int32} {b base : Nat} {D : va_G} {cl : List vw_C} {Tb : List Cond} {NF : State → Prop} {l : Launch} {CN : Nat → String}
/-- from the walker's next state to the machine's -/
theorem eNx {ih : eR} (IH : eSn ρ b base D cl Tb NF l CN ih) {mi : eM} {pc : Nat} {cd : List eI} {ls : List (Nat × eV)} {st : List eV} {hp : eH} {nx ce sl : Nat} {cs : eC} {k : eK} (h : ih mi pc cd ls st hp nx ce sl cs k = true)
    {p : Program} {e : Env} {R : Room} {s : State} {m : MethodId} {args : Array Value} {below : List Frame} {meth : Method} {c : Code} {Q : State → Prop} {cc : ByteArray} {nL : Nat} {ad0 : List Nat}
    (X : eCx ρ b base Tb NF CN p R s m args meth c mi cc nL) (hR : eRH ρ b base D cl l p e R s m args below meth c Q mi cc ad0 k)
    {H : Heap} {locs : List Loc} {ws : va_W} {tys : List (ClassId × FieldType)} {lsA : Array Slot} {lv : List (Nat × Value)} {stA : List Value}
    (hcd : ∀ q ∈ cd, eDk cc nL q) (hs : eSat ρ cs) (hw : eWd ρ b base D cl s H locs hp nx ws tys) (had : ∀ (o a : Nat), ad0[o]? = some a → (ead ws)[o]? = some a) (hl : lv_has lsA nL lv) (hls : eLs ρ b (ead ws) ls lv) (hst : eRs ρ b (ead ws) st stA) :
    W p l e R s m args below meth c H locs ce sl Q (F0 m pc lsA stA) := IH mi pc cd ls st hp nx ce sl cs k h p e R s m args below meth c Q cc nL ad0 X hR H locs ws tys lsA lv stA hcd hs hw had hl hls hst
theorem s_Load {j len : Nat} {i : Instr} (hi : (i = .iload j ∧ len = 2) ∨ ∃ f : Fin 4, f.val = j ∧ i = .iload_n f ∧ len = 1) : eStp ρ b base D cl Tb NF l CN (hLoad len j) i len := by
  intro ih IH mi pc cd ls st hp nx ce sl cs k h p e R s m args below meth c Q cc nL ad0 X hR H locs ws tys lsA lv stA hd hcd hs hw had hl hls hst
  unfold hLoad at h
  cases hv : el ls j with
  | none => rw [hv] at h; cases h
  | some v =>
    rw [hv] at h
    obtain ⟨h1, h⟩ := e_cond h e_ff
    obtain ⟨kx, x, hk, hr⟩ := el_ok hls hv
    obtain ⟨w, hw1, hw2⟩ := evar_ok hs hr h
    obtain ⟨z, rfl⟩ := eRl_int hr h1
    have hst2 : eRs ρ b (ead ws) (w :: st) (.int z :: stA) := ⟨hw2, hst⟩
    rcases hi with ⟨rfl, rfl⟩ | ⟨f, hf, rfl, rfl⟩
    · exact lv_iload X.1 X.2.1 hd.1 (lv_at hl kx hk) (eNx IH hw1 X hR hcd hs hw had hl hls hst2)
    · exact lv_iload_n X.1 X.2.1 hd.1 hf (lv_at hl kx hk) (eNx IH hw1 X hR hcd hs hw had hl hls hst2)
theorem s_Loadr {j len : Nat} {i : Instr} (hi : (i = .aload j ∧ len = 2) ∨ ∃ f : Fin 4, f.val = j ∧ i = .aload_n f ∧ len = 1) : eStp ρ b base D cl Tb NF l CN (hLoadr len j) i len := by
  intro ih IH mi pc cd ls st hp nx ce sl cs k h p e R s m args below meth c Q cc nL ad0 X hR H locs ws tys lsA lv stA hd hcd hs hw had hl hls hst
  unfold hLoadr at h
  cases hv : el ls j with
  | none => rw [hv] at h; cases h
  | some v =>
    rw [hv] at h
    obtain ⟨h1, h⟩ := e_cond h e_ff
    obtain ⟨kx, x, hk, hr⟩ := el_ok hls hv
    have hx : ∃ a, x = .ref a := by
      rw [Bool.or_eq_true] at h1
      rcases h1 with h1 | h1
      · obtain ⟨o, a, -, -, q⟩ := eRl_ref hr h1
        exact ⟨a, q⟩
      · rcases v with n | j | o | n
        · cases h1
        · cases h1
        · cases h1
        · match n, h1, hr with
          | 0, h1, _ => cases h1
          | 1, h1, _ => cases h1
          | 2, h1, _ => cases h1
          | _ + 3, _, hr => exact ⟨b, hr⟩
    obtain ⟨a, rfl⟩ := hx
    have hst2 : eRs ρ b (ead ws) (v :: st) (.ref a :: stA) := ⟨hr, hst⟩
    rcases hi with ⟨rfl, rfl⟩ | ⟨f, hf, rfl, rfl⟩
    · exact lv_aload X.1 X.2.1 hd.1 (lv_at hl kx hk) (eNx IH h X hR hcd hs hw had hl hls hst2)
    · exact lv_aload_n X.1 X.2.1 hd.1 hf (lv_at hl kx hk) (eNx IH h X hR hcd hs hw had hl hls hst2)
theorem s_Store {j len : Nat} {i : Instr} (hi : (i = .istore j ∧ len = 2) ∨ ∃ f : Fin 4, f.val = j ∧ i = .istore_n f ∧ len = 1) : eStp ρ b base D cl Tb NF l CN (hStore len j false) i len := by
  intro ih IH mi pc cd ls st hp nx ce sl cs k h p e R s m args below meth c Q cc nL ad0 X hR H locs ws tys lsA lv stA hd hcd hs hw had hl hls hst
  cases st with
  | nil => cases h
  | cons v r =>
    obtain ⟨h1, h⟩ := e_cond h e_ff
    have h1 : eint v = true := h1
    obtain ⟨x, t, rfl, hv, hr⟩ := eRs_cons hst
    obtain ⟨z, rfl⟩ := eRl_int hv h1
    obtain ⟨t2, h2, h3⟩ := elf_ok hls h
    rcases hi with ⟨rfl, rfl⟩ | ⟨f, hf, rfl, rfl⟩
    · exact lv_istore X.1 X.2.1 hd.1 hl (Nat.le_of_ble_eq_true hd.2.1) rfl (fun lsB hlB => eNx IH h2 X hR hcd hs hw had hlB ⟨⟨rfl, hv⟩, h3⟩ hr)
    · subst hf
      exact lv_istore_n X.1 X.2.1 hd.1 rfl hl (Nat.le_of_ble_eq_true hd.2.1) rfl (fun lsB hlB => eNx IH h2 X hR hcd hs hw had hlB ⟨⟨rfl, hv⟩, h3⟩ hr)
theorem s_Storer {j len : Nat} {i : Instr} (hi : (i = .astore j ∧ len = 2) ∨ ∃ f : Fin 4, f.val = j ∧ i = .astore_n f ∧ len = 1) : eStp ρ b base D cl Tb NF l CN (hStore len j true) i len := by
  intro ih IH mi pc cd ls st hp nx ce sl cs k h p e R s m args below meth c Q cc nL ad0 X hR H locs ws tys lsA lv stA hd hcd hs hw had hl hls hst
  cases st with
  | nil => cases h
  | cons v r =>
    obtain ⟨h1, h⟩ := e_cond h e_ff
    have h1 : eref v = true := h1
    obtain ⟨x, t, rfl, hv, hr⟩ := eRs_cons hst
    obtain ⟨o, a, hvo, hoa, rfl⟩ := eRl_ref hv h1
    obtain ⟨t2, h2, h3⟩ := elf_ok hls h
    rcases hi with ⟨rfl, rfl⟩ | ⟨f, hf, rfl, rfl⟩
    · exact lv_astore X.1 X.2.1 hd.1 hl (Nat.le_of_ble_eq_true hd.2.1) rfl (fun lsB hlB => eNx IH h2 X hR hcd hs hw had hlB ⟨⟨rfl, hv⟩, h3⟩ hr)
    · subst hf
      exact lv_astore_n X.1 X.2.1 hd.1 rfl hl (Nat.le_of_ble_eq_true hd.2.1) rfl (fun lsB hlB => eNx IH h2 X hR hcd hs hw had hlB ⟨⟨rfl, hv⟩, h3⟩ hr)
theorem s_iconst {n : Int} : eStp ρ b base D cl Tb NF l CN (hPush 1 (eun n)) (.iconst n) 1 := by
  intro ih IH mi pc cd ls st hp nx ce sl cs k h p e R s m args below meth c Q cc nL ad0 X hR H locs ws tys lsA lv stA hd hcd hs hw had hl hls hst
  have hst2 : eRs ρ b (ead ws) (.inl (eun n) :: st) (.int (Int32.ofNat (eun n)) :: stA) := ⟨rfl, hst⟩
  exact lv_iconst X.1 X.2.1 hd.1 (e_un n) (eNx IH h X hR hcd hs hw had hl hls hst2)
theorem s_bipush {n : Int} (hn : -128 ≤ n ∧ n < 128) : eStp ρ b base D cl Tb NF l CN (hPush 2 (eun n)) (.bipush n) 2 := by
  intro ih IH mi pc cd ls st hp nx ce sl cs k h p e R s m args below meth c Q cc nL ad0 X hR H locs ws tys lsA lv stA hd hcd hs hw had hl hls hst
  have hst2 : eRs ρ b (ead ws) (.inl (eun n) :: st) (.int (Int32.ofNat (eun n)) :: stA) := ⟨rfl, hst⟩
  have e1 : (Int8.ofInt n).toInt32 = Int32.ofNat (eun n) := by
    rw [← e_un, ← Int32.toInt_inj, Int8.toInt_toInt32, Int8.toInt_ofInt_of_le (by omega) (by omega), Int32.toInt_ofInt_of_le (by omega) (by omega)]
  exact lv_bipush X.1 X.2.1 hd.1 e1 (eNx IH h X hR hcd hs hw had hl hls hst2)
theorem s_sipush {n : Int} (hn : -32768 ≤ n ∧ n < 32768) : eStp ρ b base D cl Tb NF l CN (hPush 3 (eun n)) (.sipush n) 3 := by
  intro ih IH mi pc cd ls st hp nx ce sl cs k h p e R s m args below meth c Q cc nL ad0 X hR H locs ws tys lsA lv stA hd hcd hs hw had hl hls hst
  have hst2 : eRs ρ b (ead ws) (.inl (eun n) :: st) (.int (Int32.ofNat (eun n)) :: stA) := ⟨rfl, hst⟩
  have e1 : (Int16.ofInt n).toInt32 = Int32.ofNat (eun n) := by
    rw [← e_un, ← Int32.toInt_inj, Int16.toInt_toInt32, Int16.toInt_ofInt_of_le (by omega) (by omega), Int32.toInt_ofInt_of_le (by omega) (by omega)]
  exact lv_sipush X.1 X.2.1 hd.1 e1 (eNx IH h X hR hcd hs hw had hl hls hst2)
theorem s_iinc {j : Nat} {n : Int} : eStp ρ b base D cl Tb NF l CN (hInc j n) (.iinc j n) 3 := by
  intro ih IH mi pc cd ls st hp nx ce sl cs k h p e R s m args below meth c Q cc nL ad0 X hR H locs ws tys lsA lv stA hd hcd hs hw had hl hls hst
  unfold hInc at h
  cases hv : el ls j with
  | none => rw [hv] at h; cases h
  | some v =>
    rw [hv] at h
    obtain ⟨kx, x, hk, hr⟩ := el_ok hls hv
    have hc0 : eRl ρ b (ead ws) (.inl (eun n)) (.int (Int32.ofNat (eun n))) := rfl
    obtain ⟨z1, z2, w, e1, e2, h1, h2⟩ := eadd_ok hc0 hr h
    cases e1
    subst e2
    obtain ⟨t2, h3, h4⟩ := elf_ok hls h1
    exact lv_iinc X.1 X.2.1 hd.1 hl hk (by rw [e_un, Int32.add_comm]) (Nat.le_of_ble_eq_true hd.2.1) rfl (fun lsB hlB => eNx IH h3 X hR hcd hs hw had hlB ⟨⟨rfl, h2⟩, h4⟩ hst)
/-- an instruction that makes one int of two -/
theorem s_Bin {i : Instr} {g : eV → eV → (eV → Bool) → Bool} {op : Int32 → Int32 → Int32}
    (hg : ∀ (ad : List Nat) (x y : eV) (X Y : Value) (k : eV → Bool), eRl ρ b ad x X → eRl ρ b ad y Y → g x y k = true → ∃ z1 z2 w, X = .int z1 ∧ Y = .int z2 ∧ k w = true ∧ eRl ρ b ad w (.int (op z1 z2)))
    (hrow : ∀ {p : Program} {e : Env} {R : Room} {s : State} {m : MethodId} {args : Array Value} {below : List Frame} {meth : Method} {c : Code} {Q : State → Prop} {cc : ByteArray} {H : Heap} {locs : List Loc} {ce sl pc : Nat} {lsA : Array Slot} {rest : List Value} {z1 z2 : Int32}, p.tables.exec = Jvm.exec → c.code = cc → decode cc pc = .ok (i, 1) → W p l e R s m args below meth c H locs ce sl Q (F0 m (pc + 1) lsA (.int (op z1 z2) :: rest)) → W p l e R s m args below meth c H locs ce sl Q (F0 m pc lsA (.int z2 :: .int z1 :: rest))) :
    eStp ρ b base D cl Tb NF l CN (hBin g) i 1 := by
  intro ih IH mi pc cd ls st hp nx ce sl cs k h p e R s m args below meth c Q cc nL ad0 X hR H locs ws tys lsA lv stA hd hcd hs hw had hl hls hst
  match st, h, hst with
  | y :: x :: r, h, hst =>
    obtain ⟨yA, t0, rfl, hy, hst0⟩ := eRs_cons hst
    obtain ⟨xA, t, rfl, hx, hst1⟩ := eRs_cons hst0
    have h : g x y (fun v => ih mi (pc + 1) cd ls (v :: r) hp nx ce sl cs k) = true := h
    obtain ⟨z1, z2, w, rfl, rfl, h1, h2⟩ := hg _ _ _ _ _ _ hx hy h
    have hst2 : eRs ρ b (ead ws) (w :: r) (.int (op z1 z2) :: t) := ⟨h2, hst1⟩
    exact hrow X.1 X.2.1 hd.1 (eNx IH h1 X hR hcd hs hw had hl hls hst2)
  | [_], h, _ => cases h
  | [], h, _ => cases h
theorem s_irem : eStp ρ b base D cl Tb NF l CN (hBin erem) .irem 1 := by
  intro ih IH mi pc cd ls st hp nx ce sl cs k h p e R s m args below meth c Q cc nL ad0 X hR H locs ws tys lsA lv stA hd hcd hs hw had hl hls hst
  match st, h, hst with
  | y :: x :: r, h, hst =>
    obtain ⟨yA, t0, rfl, hy, hst0⟩ := eRs_cons hst
    obtain ⟨xA, t, rfl, hx, hst1⟩ := eRs_cons hst0
    have h : erem x y (fun v => ih mi (pc + 1) cd ls (v :: r) hp nx ce sl cs k) = true := h
    obtain ⟨z1, z2, w, rfl, rfl, h1, h2, h3⟩ := erem_ok hx hy h
    have hst2 : eRs ρ b (ead ws) (w :: r) (.int (z1 - z1 / z2 * z2) :: t) := ⟨h2, hst1⟩
    exact lv_irem X.1 X.2.1 hd.1 h3 (eNx IH h1 X hR hcd hs hw had hl hls hst2)
  | [_], h, _ => cases h
  | [], h, _ => cases h
theorem s_i2b : eStp ρ b base D cl Tb NF l CN hI2b .i2b 1 := by
  intro ih IH mi pc cd ls st hp nx ce sl cs k h p e R s m args below meth c Q cc nL ad0 X hR H locs ws tys lsA lv stA hd hcd hs hw had hl hls hst
  cases st with
  | nil => cases h
  | cons x r =>
    obtain ⟨h1, h⟩ := e_cond h e_ff
    obtain ⟨xA, t, rfl, hx, hst1⟩ := eRs_cons hst
    obtain ⟨z, rfl⟩ := eRl_int hx h1
    have hst2 : eRs ρ b (ead ws) (eT :: r) (.int z.toInt8.toInt32 :: t) := ⟨eRl_any _, hst1⟩
    exact lv_i2b X.1 X.2.1 hd.1 rfl (eNx IH h X hR hcd hs hw had hl hls hst2)
theorem s_dup : eStp ρ b base D cl Tb NF l CN hDup .dup 1 := by
  intro ih IH mi pc cd ls st hp nx ce sl cs k h p e R s m args below meth c Q cc nL ad0 X hR H locs ws tys lsA lv stA hd hcd hs hw had hl hls hst
  cases st with
  | nil => cases h
  | cons x r =>
    obtain ⟨h1, h⟩ := e_cond h e_ff
    obtain ⟨xA, t, rfl, hx, hst1⟩ := eRs_cons hst
    have hst2 : eRs ρ b (ead ws) (x :: x :: r) (xA :: xA :: t) := ⟨hx, hx, hst1⟩
    exact lv_dup X.1 X.2.1 hd.1 (by rw [eRl_cat hx]; exact Nat.eq_of_beq_eq_true h1) (eNx IH h X hR hcd hs hw had hl hls hst2)
theorem s_pop : eStp ρ b base D cl Tb NF l CN hPop .pop 1 := by
  intro ih IH mi pc cd ls st hp nx ce sl cs k h p e R s m args below meth c Q cc nL ad0 X hR H locs ws tys lsA lv stA hd hcd hs hw had hl hls hst
  cases st with
  | nil => cases h
  | cons x r =>
    obtain ⟨h1, h⟩ := e_cond h e_ff
    obtain ⟨xA, t, rfl, hx, hst1⟩ := eRs_cons hst
    exact lv_pop X.1 X.2.1 hd.1 (by rw [eRl_cat hx]; exact Nat.eq_of_beq_eq_true h1) (eNx IH h X hR hcd hs hw had hl hls hst1)
theorem s_dup2 : eStp ρ b base D cl Tb NF l CN hDup2 .dup2 1 := by
  intro ih IH mi pc cd ls st hp nx ce sl cs k h p e R s m args below meth c Q cc nL ad0 X hR H locs ws tys lsA lv stA hd hcd hs hw had hl hls hst
  match st, h, hst with
  | y :: x :: r, h, hst =>
    obtain ⟨h1, h⟩ := e_cond h e_ff
    rw [Bool.and_eq_true] at h1
    obtain ⟨yA, t0, rfl, hy, hst0⟩ := eRs_cons hst
    obtain ⟨xA, t, rfl, hx, hst1⟩ := eRs_cons hst0
    have hst2 : eRs ρ b (ead ws) (y :: x :: y :: x :: r) (yA :: xA :: yA :: xA :: t) := ⟨hy, hx, hy, hx, hst1⟩
    exact lv_dup2_11 X.1 X.2.1 hd.1 (by rw [eRl_cat hy]; exact Nat.eq_of_beq_eq_true h1.1) (by rw [eRl_cat hx]; exact Nat.eq_of_beq_eq_true h1.2) (eNx IH h X hR hcd hs hw had hl hls hst2)
  | [_], h, _ => cases h
  | [], h, _ => cases h
end ES1
