/-! THE STEPS: the machine's own values, an instruction at a time. 'gG .. K': from here the method comes to its end, and there K holds of what it returns and of the world. -/
/-- a long that is written has its two locals -/
def estL (i : Instr) (n : Nat) : Bool := match i with
  | .lstore_n j => Nat.blt (j.val + 1) n
  | _ => true
def gDk (cc : ByteArray) (nL : Nat) (q : eI) : Prop := eDk cc nL q ∧ estL q.2.1 nL = true
section GD
variable (b base LS : Nat) (xs : Nat → Int32) (D : va_G) (cl : List vw_C) (tys : List (ClassId × FieldType)) (Tb : List Cond) (NF : State → Prop) (l : Launch) (CN : Nat → String)
def gWd (s : State) (H : Heap) (locs : List Loc) (ws : va_W) : Prop := va_K D cl tys s ∧ va_P D cl ws H ∧ va_D (fun q => base ≤ q) ws ∧ va_S (fun q => base ≤ q) s.heap H locs
def gScr (s : State) : Prop := va_X b LS xs s s.heap ∧ b < s.heap.size ∧ b < base ∧ LS ≤ 3072
def gCx (p : Program) (R : Room) (s : State) (m : MethodId) (args : Array Value) (meth : Method) (c : Code) (mi : eM) (cc : ByteArray) (nL : Nat) : Prop :=
  p.tables.exec = Jvm.exec ∧ c.code = cc ∧ c.maxLocals = nL ∧ s.vm.findClass (CN mi.1) = some m.cls ∧ (∀ w ∈ Tb, w.before args s = true) ∧ NF s ∧ base ≤ s.heap.size
  ∧ (R.cells = mi.2.1 ∧ R.slots = mi.2.2.1 ∧ R.frames = mi.2.2.2.1 ∧ R.locals = mi.2.2.2.2.1) ∧ (∀ q ∈ mi.2.2.2.2.2.2, gDk cc nL q) ∧ (mi.2.2.2.2.2.1 = 20 → gScr b base LS xs s)
def gRet (kd : Nat) (ret : Option Value) (i : Instr) (stA : List Value) : Prop := match ret with
  | none => kd = 0 ∧ i = .return_ ∧ stA = []
  | some x => stA = [x] ∧ ((i = .ireturn ∧ ∃ z : Int32, x = .int z ∧ (kd = 1 ∨ ((kd = 2 ∨ kd = 20) ∧ (z = 0 ∨ z = 1)))) ∨ (i = .areturn ∧ kd = 4 ∧ ∃ a : Nat, x = .ref a) ∨ (i = .lreturn ∧ kd = 3 ∧ ∃ z : Int64, x = .long z))
abbrev gK : Type := Option Value → va_W → Prop
def gRH (p : Program) (e : Env) (R : Room) (s : State) (m : MethodId) (args : Array Value) (below : List Frame) (meth : Method) (c : Code) (Q : State → Prop) (mi : eM) (cc : ByteArray) (K : gK) : Prop :=
  ∀ (ret : Option Value) (ws : va_W), K ret ws → ∀ (H : Heap) (locs : List Loc), gWd base D cl tys s H locs ws → ∀ (i : Instr) (pc : Nat) (lsA : Array Slot) (stA : List Value), gRet mi.2.2.2.2.2.1 ret i stA → decode cc pc = .ok (i, 1) → ∀ (ce sl : Nat), ce ≤ mi.2.1 → sl ≤ mi.2.2.1 → W p l e R s m args below meth c H locs ce sl Q (F0 m pc lsA stA)
def gG (mi : eM) (pc : Nat) (lv : List (Nat × Value)) (st : List Value) (ws : va_W) (ce sl : Nat) (K : gK) : Prop :=
  ∀ (p : Program) (e : Env) (R : Room) (s : State) (m : MethodId) (args : Array Value) (below : List Frame) (meth : Method) (c : Code) (Q : State → Prop) (cc : ByteArray) (nL : Nat),
    gCx b base LS xs Tb NF CN p R s m args meth c mi cc nL → gRH base D cl tys l p e R s m args below meth c Q mi cc K →
    ∀ (H : Heap) (locs : List Loc) (lsA : Array Slot), gWd base D cl tys s H locs ws → lv_has lsA nL lv → W p l e R s m args below meth c H locs ce sl Q (F0 m pc lsA st)
end GD
/-- locals: what is written at j -/
def gSt (lv : List (Nat × Value)) (j : Nat) (v : Value) : List (Nat × Value) := (j, v) :: lv.filter (fun q => !(q.1 == j) && !(q.1 + 1 == j && q.2.category == 2))
def gSt2 (lv : List (Nat × Value)) (j : Nat) (v : Value) : List (Nat × Value) := (j, v) :: lv.filter (fun q => !(q.1 == j) && (!(q.1 == j + 1) && !(q.1 + 1 == j && q.2.category == 2)))
section G1
variable {b base LS : Nat} {xs : Nat → Int32} {D : va_G} {cl : List vw_C} {tys : List (ClassId × FieldType)} {Tb : List Cond} {NF : State → Prop} {l : Launch} {CN : Nat → String} {mi : eM} {pc : Nat} {lv : List (Nat × Value)} {st : List Value} {ws : va_W} {ce sl : Nat} {K : gK}
theorem gG_mono {K2 : gK} (hk : ∀ ret ws, K ret ws → K2 ret ws) (h : gG b base LS xs D cl tys Tb NF l CN mi pc lv st ws ce sl K) : gG b base LS xs D cl tys Tb NF l CN mi pc lv st ws ce sl K2 := by
  intro p e R s m args below meth c Q cc nL X hR H locs lsA hw hl
  exact h p e R s m args below meth c Q cc nL X (fun ret ws hkk => hR ret ws (hk ret ws hkk)) H locs lsA hw hl
theorem g_iload {j len : Nat} {i : Instr} (hi : (i = .iload j ∧ len = 2) ∨ ∃ f : Fin 4, f.val = j ∧ i = .iload_n f ∧ len = 1) (hm : (pc, i, len) ∈ mi.2.2.2.2.2.2) {z : Int32} (hj : (j, Value.int z) ∈ lv) (h : gG b base LS xs D cl tys Tb NF l CN mi (pc + len) lv (.int z :: st) ws ce sl K) : gG b base LS xs D cl tys Tb NF l CN mi pc lv st ws ce sl K := by
  intro p e R s m args below meth c Q cc nL X hR H locs lsA hw hl
  have hd := X.2.2.2.2.2.2.2.2.1 _ hm
  have hk := h p e R s m args below meth c Q cc nL X hR H locs lsA hw hl
  rcases hi with ⟨rfl, rfl⟩ | ⟨f, hf, rfl, rfl⟩
  · exact lv_iload X.1 X.2.1 hd.1.1 (hl.2.2 _ hj) hk
  · exact lv_iload_n X.1 X.2.1 hd.1.1 hf (hl.2.2 _ hj) hk
theorem g_lload {f : Fin 4} (hm : (pc, .lload_n f, 1) ∈ mi.2.2.2.2.2.2) {z : Int64} (hj : (f.val, Value.long z) ∈ lv) (h : gG b base LS xs D cl tys Tb NF l CN mi (pc + 1) lv (.long z :: st) ws ce sl K) : gG b base LS xs D cl tys Tb NF l CN mi pc lv st ws ce sl K := by
  intro p e R s m args below meth c Q cc nL X hR H locs lsA hw hl
  have hd := X.2.2.2.2.2.2.2.2.1 _ hm
  exact lv_lload_n X.1 X.2.1 hd.1.1 rfl (hl.2.2 _ hj) (h p e R s m args below meth c Q cc nL X hR H locs lsA hw hl)
theorem g_aload {j len : Nat} {i : Instr} (hi : (i = .aload j ∧ len = 2) ∨ ∃ f : Fin 4, f.val = j ∧ i = .aload_n f ∧ len = 1) (hm : (pc, i, len) ∈ mi.2.2.2.2.2.2) {a : Nat} (hj : (j, Value.ref a) ∈ lv) (h : gG b base LS xs D cl tys Tb NF l CN mi (pc + len) lv (.ref a :: st) ws ce sl K) : gG b base LS xs D cl tys Tb NF l CN mi pc lv st ws ce sl K := by
  intro p e R s m args below meth c Q cc nL X hR H locs lsA hw hl
  have hd := X.2.2.2.2.2.2.2.2.1 _ hm
  have hk := h p e R s m args below meth c Q cc nL X hR H locs lsA hw hl
  rcases hi with ⟨rfl, rfl⟩ | ⟨f, hf, rfl, rfl⟩
  · exact lv_aload X.1 X.2.1 hd.1.1 (hl.2.2 _ hj) hk
  · exact lv_aload_n X.1 X.2.1 hd.1.1 hf (hl.2.2 _ hj) hk
theorem g_istore {j len : Nat} {i : Instr} (hi : (i = .istore j ∧ len = 2) ∨ ∃ f : Fin 4, f.val = j ∧ i = .istore_n f ∧ len = 1) (hm : (pc, i, len) ∈ mi.2.2.2.2.2.2) {z : Int32} (h : gG b base LS xs D cl tys Tb NF l CN mi (pc + len) (gSt lv j (.int z)) st ws ce sl K) : gG b base LS xs D cl tys Tb NF l CN mi pc lv (.int z :: st) ws ce sl K := by
  intro p e R s m args below meth c Q cc nL X hR H locs lsA hw hl
  have hd := X.2.2.2.2.2.2.2.2.1 _ hm
  rcases hi with ⟨rfl, rfl⟩ | ⟨f, hf, rfl, rfl⟩
  · exact lv_istore X.1 X.2.1 hd.1.1 hl (Nat.le_of_ble_eq_true hd.1.2.1) rfl (fun lsB hlB => h p e R s m args below meth c Q cc nL X hR H locs lsB hw hlB)
  · subst hf
    exact lv_istore_n X.1 X.2.1 hd.1.1 rfl hl (Nat.le_of_ble_eq_true hd.1.2.1) rfl (fun lsB hlB => h p e R s m args below meth c Q cc nL X hR H locs lsB hw hlB)
theorem g_astore {j len : Nat} {i : Instr} (hi : (i = .astore j ∧ len = 2) ∨ ∃ f : Fin 4, f.val = j ∧ i = .astore_n f ∧ len = 1) (hm : (pc, i, len) ∈ mi.2.2.2.2.2.2) {a : Nat} (h : gG b base LS xs D cl tys Tb NF l CN mi (pc + len) (gSt lv j (.ref a)) st ws ce sl K) : gG b base LS xs D cl tys Tb NF l CN mi pc lv (.ref a :: st) ws ce sl K := by
  intro p e R s m args below meth c Q cc nL X hR H locs lsA hw hl
  have hd := X.2.2.2.2.2.2.2.2.1 _ hm
  rcases hi with ⟨rfl, rfl⟩ | ⟨f, hf, rfl, rfl⟩
  · exact lv_astore X.1 X.2.1 hd.1.1 hl (Nat.le_of_ble_eq_true hd.1.2.1) rfl (fun lsB hlB => h p e R s m args below meth c Q cc nL X hR H locs lsB hw hlB)
  · subst hf
    exact lv_astore_n X.1 X.2.1 hd.1.1 rfl hl (Nat.le_of_ble_eq_true hd.1.2.1) rfl (fun lsB hlB => h p e R s m args below meth c Q cc nL X hR H locs lsB hw hlB)
theorem g_lstore {f : Fin 4} (hm : (pc, .lstore_n f, 1) ∈ mi.2.2.2.2.2.2) {z : Int64} (h : gG b base LS xs D cl tys Tb NF l CN mi (pc + 1) (gSt2 lv f.val (.long z)) st ws ce sl K) : gG b base LS xs D cl tys Tb NF l CN mi pc lv (.long z :: st) ws ce sl K := by
  intro p e R s m args below meth c Q cc nL X hR H locs lsA hw hl
  have hd := X.2.2.2.2.2.2.2.2.1 _ hm
  exact lv_lstore_n X.1 X.2.1 hd.1.1 rfl hl (Nat.le_of_ble_eq_true hd.2) rfl (fun lsB hlB => h p e R s m args below meth c Q cc nL X hR H locs lsB hw hlB)
theorem g_iconst {n : Int} (hm : (pc, .iconst n, 1) ∈ mi.2.2.2.2.2.2) (h : gG b base LS xs D cl tys Tb NF l CN mi (pc + 1) lv (.int (Int32.ofInt n) :: st) ws ce sl K) : gG b base LS xs D cl tys Tb NF l CN mi pc lv st ws ce sl K := by
  intro p e R s m args below meth c Q cc nL X hR H locs lsA hw hl
  have hd := X.2.2.2.2.2.2.2.2.1 _ hm
  exact lv_iconst X.1 X.2.1 hd.1.1 rfl (h p e R s m args below meth c Q cc nL X hR H locs lsA hw hl)
theorem g_lconst {n : Fin 2} (hm : (pc, .lconst n, 1) ∈ mi.2.2.2.2.2.2) (h : ∀ z : Int64, gG b base LS xs D cl tys Tb NF l CN mi (pc + 1) lv (.long z :: st) ws ce sl K) : gG b base LS xs D cl tys Tb NF l CN mi pc lv st ws ce sl K := by
  intro p e R s m args below meth c Q cc nL X hR H locs lsA hw hl
  have hd := X.2.2.2.2.2.2.2.2.1 _ hm
  exact lv_lconst X.1 X.2.1 hd.1.1 rfl (h _ p e R s m args below meth c Q cc nL X hR H locs lsA hw hl)
theorem g_bipush {n : Int} (hm : (pc, .bipush n, 2) ∈ mi.2.2.2.2.2.2) (h : gG b base LS xs D cl tys Tb NF l CN mi (pc + 2) lv (.int (Int32.ofInt n) :: st) ws ce sl K) : gG b base LS xs D cl tys Tb NF l CN mi pc lv st ws ce sl K := by
  intro p e R s m args below meth c Q cc nL X hR H locs lsA hw hl
  have hd := X.2.2.2.2.2.2.2.2.1 _ hm
  have h0 : (Nat.beq 2 2 && decide (-128 ≤ n ∧ n < 128)) = true := hd.1.2.2
  have hn : -128 ≤ n ∧ n < 128 := of_decide_eq_true h0
  have e1 : (Int8.ofInt n).toInt32 = Int32.ofInt n := by
    rw [← Int32.toInt_inj, Int8.toInt_toInt32, Int8.toInt_ofInt_of_le (by omega) (by omega), Int32.toInt_ofInt_of_le (by omega) (by omega)]
  exact lv_bipush X.1 X.2.1 hd.1.1 e1 (h p e R s m args below meth c Q cc nL X hR H locs lsA hw hl)
theorem g_sipush {n : Int} (hm : (pc, .sipush n, 3) ∈ mi.2.2.2.2.2.2) (h : gG b base LS xs D cl tys Tb NF l CN mi (pc + 3) lv (.int (Int32.ofInt n) :: st) ws ce sl K) : gG b base LS xs D cl tys Tb NF l CN mi pc lv st ws ce sl K := by
  intro p e R s m args below meth c Q cc nL X hR H locs lsA hw hl
  have hd := X.2.2.2.2.2.2.2.2.1 _ hm
  have h0 : (Nat.beq 3 3 && decide (-32768 ≤ n ∧ n < 32768)) = true := hd.1.2.2
  have hn : -32768 ≤ n ∧ n < 32768 := of_decide_eq_true h0
  have e1 : (Int16.ofInt n).toInt32 = Int32.ofInt n := by
    rw [← Int32.toInt_inj, Int16.toInt_toInt32, Int16.toInt_ofInt_of_le (by omega) (by omega), Int32.toInt_ofInt_of_le (by omega) (by omega)]
  exact lv_sipush X.1 X.2.1 hd.1.1 e1 (h p e R s m args below meth c Q cc nL X hR H locs lsA hw hl)
theorem g_iinc {j : Nat} {n : Int} (hm : (pc, .iinc j n, 3) ∈ mi.2.2.2.2.2.2) {z : Int32} (hj : (j, Value.int z) ∈ lv) (h : gG b base LS xs D cl tys Tb NF l CN mi (pc + 3) (gSt lv j (.int (z + Int32.ofInt n))) st ws ce sl K) : gG b base LS xs D cl tys Tb NF l CN mi pc lv st ws ce sl K := by
  intro p e R s m args below meth c Q cc nL X hR H locs lsA hw hl
  have hd := X.2.2.2.2.2.2.2.2.1 _ hm
  obtain ⟨k, hk⟩ := List.mem_iff_getElem?.mp hj
  exact lv_iinc X.1 X.2.1 hd.1.1 hl hk rfl (Nat.le_of_ble_eq_true hd.1.2.1) rfl (fun lsB hlB => h p e R s m args below meth c Q cc nL X hR H locs lsB hw hlB)
/-- an instruction that makes one int of two -/
theorem g_bin {i : Instr} {op : Int32 → Int32 → Int32}
    (hrow : ∀ {p : Program} {e : Env} {R : Room} {s : State} {m : MethodId} {args : Array Value} {below : List Frame} {meth : Method} {c : Code} {Q : State → Prop} {cc : ByteArray} {H : Heap} {locs : List Loc} {ce sl pc : Nat} {lsA : Array Slot} {rest : List Value} {z1 z2 : Int32}, p.tables.exec = Jvm.exec → c.code = cc → decode cc pc = .ok (i, 1) → W p l e R s m args below meth c H locs ce sl Q (F0 m (pc + 1) lsA (.int (op z1 z2) :: rest)) → W p l e R s m args below meth c H locs ce sl Q (F0 m pc lsA (.int z2 :: .int z1 :: rest)))
    (hm : (pc, i, 1) ∈ mi.2.2.2.2.2.2) {z1 z2 : Int32} (h : gG b base LS xs D cl tys Tb NF l CN mi (pc + 1) lv (.int (op z1 z2) :: st) ws ce sl K) : gG b base LS xs D cl tys Tb NF l CN mi pc lv (.int z2 :: .int z1 :: st) ws ce sl K := by
  intro p e R s m args below meth c Q cc nL X hR H locs lsA hw hl
  have hd := X.2.2.2.2.2.2.2.2.1 _ hm
  exact hrow X.1 X.2.1 hd.1.1 (h p e R s m args below meth c Q cc nL X hR H locs lsA hw hl)
theorem g_iadd (hm : (pc, .iadd, 1) ∈ mi.2.2.2.2.2.2) {z1 z2 : Int32} (h : gG b base LS xs D cl tys Tb NF l CN mi (pc + 1) lv (.int (z1 + z2) :: st) ws ce sl K) : gG b base LS xs D cl tys Tb NF l CN mi pc lv (.int z2 :: .int z1 :: st) ws ce sl K := g_bin (op := fun x y => x + y) (fun a b c d => lv_iadd a b c d) hm h
theorem g_isub (hm : (pc, .isub, 1) ∈ mi.2.2.2.2.2.2) {z1 z2 : Int32} (h : gG b base LS xs D cl tys Tb NF l CN mi (pc + 1) lv (.int (z1 - z2) :: st) ws ce sl K) : gG b base LS xs D cl tys Tb NF l CN mi pc lv (.int z2 :: .int z1 :: st) ws ce sl K := g_bin (op := fun x y => x - y) (fun a b c d => lv_isub a b c d) hm h
theorem g_imul (hm : (pc, .imul, 1) ∈ mi.2.2.2.2.2.2) {z1 z2 : Int32} (h : gG b base LS xs D cl tys Tb NF l CN mi (pc + 1) lv (.int (z1 * z2) :: st) ws ce sl K) : gG b base LS xs D cl tys Tb NF l CN mi pc lv (.int z2 :: .int z1 :: st) ws ce sl K := g_bin (op := fun x y => x * y) (fun a b c d => lv_imul a b c d) hm h
theorem g_iand (hm : (pc, .iand, 1) ∈ mi.2.2.2.2.2.2) {z1 z2 : Int32} (h : gG b base LS xs D cl tys Tb NF l CN mi (pc + 1) lv (.int (z1 &&& z2) :: st) ws ce sl K) : gG b base LS xs D cl tys Tb NF l CN mi pc lv (.int z2 :: .int z1 :: st) ws ce sl K := g_bin (op := fun x y => x &&& y) (fun a b c d => lv_iand a b c d) hm h
theorem g_ior (hm : (pc, .ior, 1) ∈ mi.2.2.2.2.2.2) {z1 z2 : Int32} (h : gG b base LS xs D cl tys Tb NF l CN mi (pc + 1) lv (.int (z1 ||| z2) :: st) ws ce sl K) : gG b base LS xs D cl tys Tb NF l CN mi pc lv (.int z2 :: .int z1 :: st) ws ce sl K := g_bin (op := fun x y => x ||| y) (fun a b c d => lv_ior a b c d) hm h
theorem g_ixor (hm : (pc, .ixor, 1) ∈ mi.2.2.2.2.2.2) {z1 z2 : Int32} (h : gG b base LS xs D cl tys Tb NF l CN mi (pc + 1) lv (.int (z1 ^^^ z2) :: st) ws ce sl K) : gG b base LS xs D cl tys Tb NF l CN mi pc lv (.int z2 :: .int z1 :: st) ws ce sl K := g_bin (op := fun x y => x ^^^ y) (fun a b c d => lv_ixor a b c d) hm h
theorem g_ishl (hm : (pc, .ishl, 1) ∈ mi.2.2.2.2.2.2) {z1 z2 : Int32} (h : gG b base LS xs D cl tys Tb NF l CN mi (pc + 1) lv (.int (z1 <<< (z2 &&& 31)) :: st) ws ce sl K) : gG b base LS xs D cl tys Tb NF l CN mi pc lv (.int z2 :: .int z1 :: st) ws ce sl K := g_bin (op := fun x y => x <<< (y &&& 31)) (fun a b c d => lv_ishl a b c d) hm h
theorem g_ishr (hm : (pc, .ishr, 1) ∈ mi.2.2.2.2.2.2) {z1 z2 : Int32} (h : gG b base LS xs D cl tys Tb NF l CN mi (pc + 1) lv (.int (z1 >>> (z2 &&& 31)) :: st) ws ce sl K) : gG b base LS xs D cl tys Tb NF l CN mi pc lv (.int z2 :: .int z1 :: st) ws ce sl K := g_bin (op := fun x y => x >>> (y &&& 31)) (fun a b c d => lv_ishr a b c d) hm h
theorem g_iushr (hm : (pc, .iushr, 1) ∈ mi.2.2.2.2.2.2) {z1 z2 : Int32} (h : gG b base LS xs D cl tys Tb NF l CN mi (pc + 1) lv (.int (z1.toUInt32 >>> (z2.toUInt32 &&& Int32.toUInt32 31)).toInt32 :: st) ws ce sl K) : gG b base LS xs D cl tys Tb NF l CN mi pc lv (.int z2 :: .int z1 :: st) ws ce sl K := g_bin (op := fun x y => (x.toUInt32 >>> (y.toUInt32 &&& Int32.toUInt32 31)).toInt32) (fun a b c d => lv_iushr a b c rfl d) hm h
theorem g_irem (hm : (pc, .irem, 1) ∈ mi.2.2.2.2.2.2) {z1 z2 : Int32} (hn : ¬ z2 = 0) (h : gG b base LS xs D cl tys Tb NF l CN mi (pc + 1) lv (.int (z1 - z1 / z2 * z2) :: st) ws ce sl K) : gG b base LS xs D cl tys Tb NF l CN mi pc lv (.int z2 :: .int z1 :: st) ws ce sl K := by
  intro p e R s m args below meth c Q cc nL X hR H locs lsA hw hl
  have hd := X.2.2.2.2.2.2.2.2.1 _ hm
  exact lv_irem X.1 X.2.1 hd.1.1 hn (h p e R s m args below meth c Q cc nL X hR H locs lsA hw hl)
theorem g_idiv (hm : (pc, .idiv, 1) ∈ mi.2.2.2.2.2.2) {z1 z2 : Int32} (hn : ¬ z2 = 0) (h : gG b base LS xs D cl tys Tb NF l CN mi (pc + 1) lv (.int (z1 / z2) :: st) ws ce sl K) : gG b base LS xs D cl tys Tb NF l CN mi pc lv (.int z2 :: .int z1 :: st) ws ce sl K := by
  intro p e R s m args below meth c Q cc nL X hR H locs lsA hw hl
  have hd := X.2.2.2.2.2.2.2.2.1 _ hm
  exact lv_idiv X.1 X.2.1 hd.1.1 hn (h p e R s m args below meth c Q cc nL X hR H locs lsA hw hl)
theorem g_ineg (hm : (pc, .ineg, 1) ∈ mi.2.2.2.2.2.2) {z1 : Int32} (h : ∀ z : Int32, gG b base LS xs D cl tys Tb NF l CN mi (pc + 1) lv (.int z :: st) ws ce sl K) : gG b base LS xs D cl tys Tb NF l CN mi pc lv (.int z1 :: st) ws ce sl K := by
  intro p e R s m args below meth c Q cc nL X hR H locs lsA hw hl
  have hd := X.2.2.2.2.2.2.2.2.1 _ hm
  exact lv_ineg X.1 X.2.1 hd.1.1 (h _ p e R s m args below meth c Q cc nL X hR H locs lsA hw hl)
theorem g_i2b (hm : (pc, .i2b, 1) ∈ mi.2.2.2.2.2.2) {z1 : Int32} (h : gG b base LS xs D cl tys Tb NF l CN mi (pc + 1) lv (.int z1.toInt8.toInt32 :: st) ws ce sl K) : gG b base LS xs D cl tys Tb NF l CN mi pc lv (.int z1 :: st) ws ce sl K := by
  intro p e R s m args below meth c Q cc nL X hR H locs lsA hw hl
  have hd := X.2.2.2.2.2.2.2.2.1 _ hm
  exact lv_i2b X.1 X.2.1 hd.1.1 rfl (h p e R s m args below meth c Q cc nL X hR H locs lsA hw hl)
/-- longs: any -/
theorem g_i2l (hm : (pc, .i2l, 1) ∈ mi.2.2.2.2.2.2) {z1 : Int32} (h : ∀ z : Int64, gG b base LS xs D cl tys Tb NF l CN mi (pc + 1) lv (.long z :: st) ws ce sl K) : gG b base LS xs D cl tys Tb NF l CN mi pc lv (.int z1 :: st) ws ce sl K := by
  intro p e R s m args below meth c Q cc nL X hR H locs lsA hw hl
  have hd := X.2.2.2.2.2.2.2.2.1 _ hm
  exact lv_i2l X.1 X.2.1 hd.1.1 rfl (h _ p e R s m args below meth c Q cc nL X hR H locs lsA hw hl)
theorem g_ladd (hm : (pc, .ladd, 1) ∈ mi.2.2.2.2.2.2) {z1 z2 : Int64} (h : ∀ z : Int64, gG b base LS xs D cl tys Tb NF l CN mi (pc + 1) lv (.long z :: st) ws ce sl K) : gG b base LS xs D cl tys Tb NF l CN mi pc lv (.long z2 :: .long z1 :: st) ws ce sl K := by
  intro p e R s m args below meth c Q cc nL X hR H locs lsA hw hl
  have hd := X.2.2.2.2.2.2.2.2.1 _ hm
  exact lv_ladd X.1 X.2.1 hd.1.1 (h _ p e R s m args below meth c Q cc nL X hR H locs lsA hw hl)
theorem g_lmul (hm : (pc, .lmul, 1) ∈ mi.2.2.2.2.2.2) {z1 z2 : Int64} (h : ∀ z : Int64, gG b base LS xs D cl tys Tb NF l CN mi (pc + 1) lv (.long z :: st) ws ce sl K) : gG b base LS xs D cl tys Tb NF l CN mi pc lv (.long z2 :: .long z1 :: st) ws ce sl K := by
  intro p e R s m args below meth c Q cc nL X hR H locs lsA hw hl
  have hd := X.2.2.2.2.2.2.2.2.1 _ hm
  exact lv_lmul X.1 X.2.1 hd.1.1 (h _ p e R s m args below meth c Q cc nL X hR H locs lsA hw hl)
theorem g_lor (hm : (pc, .lor, 1) ∈ mi.2.2.2.2.2.2) {z1 z2 : Int64} (h : ∀ z : Int64, gG b base LS xs D cl tys Tb NF l CN mi (pc + 1) lv (.long z :: st) ws ce sl K) : gG b base LS xs D cl tys Tb NF l CN mi pc lv (.long z2 :: .long z1 :: st) ws ce sl K := by
  intro p e R s m args below meth c Q cc nL X hR H locs lsA hw hl
  have hd := X.2.2.2.2.2.2.2.2.1 _ hm
  exact lv_lor X.1 X.2.1 hd.1.1 (h _ p e R s m args below meth c Q cc nL X hR H locs lsA hw hl)
theorem g_lshl (hm : (pc, .lshl, 1) ∈ mi.2.2.2.2.2.2) {z1 : Int64} {z2 : Int32} (h : ∀ z : Int64, gG b base LS xs D cl tys Tb NF l CN mi (pc + 1) lv (.long z :: st) ws ce sl K) : gG b base LS xs D cl tys Tb NF l CN mi pc lv (.int z2 :: .long z1 :: st) ws ce sl K := by
  intro p e R s m args below meth c Q cc nL X hR H locs lsA hw hl
  have hd := X.2.2.2.2.2.2.2.2.1 _ hm
  exact lv_lshl X.1 X.2.1 hd.1.1 rfl (h _ p e R s m args below meth c Q cc nL X hR H locs lsA hw hl)
theorem g_lcmp (hm : (pc, .lcmp, 1) ∈ mi.2.2.2.2.2.2) {z1 z2 : Int64} (h : ∀ z : Int32, gG b base LS xs D cl tys Tb NF l CN mi (pc + 1) lv (.int z :: st) ws ce sl K) : gG b base LS xs D cl tys Tb NF l CN mi pc lv (.long z2 :: .long z1 :: st) ws ce sl K := by
  intro p e R s m args below meth c Q cc nL X hR H locs lsA hw hl
  have hd := X.2.2.2.2.2.2.2.2.1 _ hm
  exact W.lcmp X.1 X.2.1 hd.1.1 (h _ p e R s m args below meth c Q cc nL X hR H locs lsA hw hl)
theorem g_dup (hm : (pc, .dup, 1) ∈ mi.2.2.2.2.2.2) {x : Value} (hx : x.category = 1) (h : gG b base LS xs D cl tys Tb NF l CN mi (pc + 1) lv (x :: x :: st) ws ce sl K) : gG b base LS xs D cl tys Tb NF l CN mi pc lv (x :: st) ws ce sl K := by
  intro p e R s m args below meth c Q cc nL X hR H locs lsA hw hl
  have hd := X.2.2.2.2.2.2.2.2.1 _ hm
  exact lv_dup X.1 X.2.1 hd.1.1 hx (h p e R s m args below meth c Q cc nL X hR H locs lsA hw hl)
theorem g_pop (hm : (pc, .pop, 1) ∈ mi.2.2.2.2.2.2) {x : Value} (hx : x.category = 1) (h : gG b base LS xs D cl tys Tb NF l CN mi (pc + 1) lv st ws ce sl K) : gG b base LS xs D cl tys Tb NF l CN mi pc lv (x :: st) ws ce sl K := by
  intro p e R s m args below meth c Q cc nL X hR H locs lsA hw hl
  have hd := X.2.2.2.2.2.2.2.2.1 _ hm
  exact lv_pop X.1 X.2.1 hd.1.1 hx (h p e R s m args below meth c Q cc nL X hR H locs lsA hw hl)
theorem g_dup2 (hm : (pc, .dup2, 1) ∈ mi.2.2.2.2.2.2) {x y : Value} (hy : y.category = 1) (hx : x.category = 1) (h : gG b base LS xs D cl tys Tb NF l CN mi (pc + 1) lv (y :: x :: y :: x :: st) ws ce sl K) : gG b base LS xs D cl tys Tb NF l CN mi pc lv (y :: x :: st) ws ce sl K := by
  intro p e R s m args below meth c Q cc nL X hR H locs lsA hw hl
  have hd := X.2.2.2.2.2.2.2.2.1 _ hm
  exact lv_dup2_11 X.1 X.2.1 hd.1.1 hy hx (h p e R s m args below meth c Q cc nL X hR H locs lsA hw hl)
theorem g_dupx1 (hm : (pc, .dup_x1, 1) ∈ mi.2.2.2.2.2.2) {x y : Value} (hy : y.category = 1) (hx : x.category = 1) (h : gG b base LS xs D cl tys Tb NF l CN mi (pc + 1) lv (y :: x :: y :: st) ws ce sl K) : gG b base LS xs D cl tys Tb NF l CN mi pc lv (y :: x :: st) ws ce sl K := by
  intro p e R s m args below meth c Q cc nL X hR H locs lsA hw hl
  have hd := X.2.2.2.2.2.2.2.2.1 _ hm
  exact lv_dup_x1 X.1 X.2.1 hd.1.1 hy hx (h p e R s m args below meth c Q cc nL X hR H locs lsA hw hl)
end G1
