theorem lg_len : ∀ vs : List Value, (lg_sl vs).length = (vs.map fun v => v.category).sum
  | [] => rfl
  | v :: vs => by
    have h := lg_len vs
    unfold lg_sl at h ⊢
    rw [List.flatMap_cons, List.length_append, h, List.map_cons, List.sum_cons]
    rcases lv_cat v with q | q
    · rw [q]; rfl
    · rw [q]; rfl
def eRk (kd : Nat) (ret : Option FieldType) : Prop := (kd = 0 ∧ ret = none) ∨ (kd = 10 ∧ ret = none) ∨ (kd = 1 ∧ ret = some .int) ∨ (kd = 2 ∧ ret = some .boolean) ∨ (kd = 4 ∧ ∃ rt, ret = some rt ∧ ((∃ n, rt = .object n) ∨ ∃ t, rt = .array t))
def eMok (Tb : List Cond) (CN : Nat → String) (q : eM × Nat) (y : MethodName) (cc : ByteArray) (ret : Option FieldType) : Prop :=
  Cond.code y cc q.2 ret ∈ Tb ∧ Cond.initialized y.cls ∈ Tb ∧ plainFor y = true ∧ y.cls = CN q.1.1 ∧ (y.cls ≠ "java/lang/invoke/MethodHandle" ∧ y.cls ≠ "java/lang/invoke/VarHandle") ∧ (∀ t ∈ q.1.2.2.2.2.2.2, eDk cc q.2 t) ∧ (q.1.2.2.2.2.2.1 = 10 → y.name = "<init>") ∧ eRk q.1.2.2.2.2.2.1 ret
def eNFw (base : Nat) (NF : State → Prop) : Prop := (∀ (s U : State), NF s → s.WarmedH U.vm → s.heap.size ≤ U.heap.size → (∀ q : Nat, q < s.heap.size → ¬ base ≤ q → U.heap[q]? = s.heap[q]?) → NF U) ∧ ∀ (s U : State), NF s → s.vm = U.vm → s.heap = U.heap → NF U
def eRoom (mi : eM) : Room := { frames := mi.2.2.2.1, cells := mi.2.1, slots := mi.2.2.1, locals := mi.2.2.2.2.1 }
theorem e_ofWF {l : Launch} {y : MethodName} {ws ws' : List Cond} {rm : Room} {Pc : Array Value → State → Prop} {Qc : Array Value → State → Outcome → State → Prop} {mc ms : Nat} {free : Addr → Prop} {cc : ByteArray} {maxL : Nat} {ret : Option FieldType}
    (hy : plainFor y = true) (hw : ws = Cond.code y cc maxL ret :: ws')
    (body : ∀ p e s m args below meth c s₁, BodyLoose p l y (headSpec ws rm) cc maxL ret e s m args below meth c s₁ → c.maxLocals = maxL → Pc args s →
      W p l e (headSpec ws rm).room s m args below meth c s.heap [] 0 0 (MQ below Qc args s mc ms free) (entryFrame m args maxL)) : Met l y ws rm Pc Qc mc ms free := by
  refine MetFree.of_bodySF (code := cc) (maxLocals := maxL) (ret := ret) hy ?_ ?_
  · intro args s m h hn
    obtain ⟨meth, c, h1, h2, h3, h4, h5, h6, -, -⟩ := Cond.code_spec hn (atoms_spec (ws := ws) h _ (by rw [hw]; exact List.mem_cons_self))
    exact ⟨meth, c, h1, h2, h3, h4, h5, h6⟩
  · intro p e s m args below meth c s₁ B hml hP _
    have hh0 : s₁.heap = s.heap := by rw [B.state]; rfl
    obtain ⟨t, a1, o, b1, b2, b3⟩ := body p e s m args below meth c s₁ B hml hP s₁ hh0 (Stand.of_body B)
    exact ⟨t, o, a1, b1, b2, ⟨b3.1, b3.2⟩⟩
section ES6
variable {ρ : Nat → Int32} {b base : Nat} {D : va_G} {cl : List vw_C} {Tb : List Cond} {NF : State → Prop} {l : Launch} {CN : Nat → String}
def ePc (base : Nat) (D : va_G) (cl : List vw_C) (NF : State → Prop) (ws : va_W) (tys : List (ClassId × FieldType)) (asx : List Value) : Array Value → State → Prop := fun v U => v = asx.toArray ∧ NF U ∧ base ≤ U.heap.size ∧ va_K D cl tys U ∧ va_P D cl ws U.heap ∧ va_D (fun q => base ≤ q) ws
def eQc (ρ : Nat → Int32) (b base : Nat) (D : va_G) (cl : List vw_C) (ws : va_W) (k : eK) : Array Value → State → Outcome → State → Prop := fun _ st o t =>
  (∃ (ret : Option eV) (hp2 : eH) (nx2 : Nat) (cs2 : eC) (ws2 : va_W) (tys2 : List (ClassId × FieldType)), k ret hp2 nx2 cs2 = true ∧ eSat ρ cs2 ∧ (∀ (o a : Nat), (ead ws)[o]? = some a → (ead ws2)[o]? = some a) ∧ va_K D cl tys2 t ∧ va_P D cl ws2 t.heap ∧ va_D (fun q => base ≤ q) ws2 ∧ eMt ρ b cl hp2 nx2 ws2 tys2
    ∧ ((ret = none ∧ o = .returned none) ∨ ∃ v x, ret = some v ∧ eRl ρ b (ead ws2) v x ∧ o = .returned (some x))) ∧ va_F (fun q => base ≤ q) st t
theorem e_met {ih : eR} (IH : eSn ρ b base D cl Tb NF l CN ih) {q : eM × Nat} {y : MethodName} {cc : ByteArray} {ret : Option FieldType} (ok : eMok Tb CN q y cc ret) {as : List eV} {hp : eH} {nx : Nat} {cs : eC} {k : eK} (h : ih q.1 0 q.1.2.2.2.2.2.2 (eargs as 0) [] hp nx 0 0 cs k = true) (hc : ecats as ≤ q.2) (hs : eSat ρ cs)
    {ws : va_W} {tys : List (ClassId × FieldType)} {asx : List Value} (hm : eMt ρ b cl hp nx ws tys) (has : eRs ρ b (ead ws) as asx) :
    Met l y (Cond.code y cc q.2 ret :: Tb) (eRoom q.1) (ePc base D cl NF ws tys asx) (eQc ρ b base D cl ws k) q.1.2.1 q.1.2.2.1 (fun a => base ≤ a) := by
  obtain ⟨o1, o2, o3, o4, o5, o6, o7, o8⟩ := ok
  refine e_ofWF (cc := cc) (maxL := q.2) (ret := ret) o3 rfl ?_
  intro p e s m args below meth c s₁ B hml hv
  obtain ⟨rfl, hnf, hbase, hK, hP, hD⟩ := hv
  have hx := B.exec
  have hb := B.bytes
  have hr := B.returns
  have hts := atoms_spec (ws := Cond.code y cc q.2 ret :: Tb) B.pre
  have hown : s.vm.findClass y.cls = some m.cls := findClass_of_methodNamed B.named
  have hlocks := B.notSynchronized
  have hnm : meth.name = y.name := (name_of_methodNamed B.named B.method).1
  have X : eCx ρ b base Tb NF CN p (headSpec (Cond.code y cc q.2 ret :: Tb) (eRoom q.1)).room s m asx.toArray meth c q.1 cc q.2 :=
    ⟨hx, hb, hml, by rw [← o4]; exact hown, fun w hw => hts w (List.mem_cons_of_mem _ hw), hnf, hbase, ⟨rfl, rfl, rfl, rfl⟩, o6, fun z => hnm.trans (o7 z), fun z => by
      exfalso
      rcases o8 with ⟨z2, -⟩ | ⟨z2, -⟩ | ⟨z2, -⟩ | ⟨z2, -⟩ | ⟨z2, -⟩ <;> omega⟩
  have hl := lv_entry asx (n := q.2) (by rw [lg_len, eRs_cats has]; exact hc)
  rw [lg_entry_eq]
  generalize (lg_sl asx ++ List.replicate (q.2 - (lg_sl asx).length) Slot.unset).toArray = lsA at hl ⊢
  refine eNx IH h X (ad0 := ead ws) ?_ (H := s.heap) (locs := []) (ws := ws) (tys := tys) (lv := lv_args 0 asx) (stA := []) o6 hs ⟨hK, hP, hD, va_S.rf, hm⟩ (fun _ _ z => z) hl (eargs_ok 0 has) trivial
  intro rv hp2 nx2 cs2 hk hs2 H locs ws2 tys2 hw2 had i pc lsB stA hret hdec ce sl hce hsl
  refine W.widen hce hsl ?_
  have hq : ∀ (o : Option Value), ((rv = none ∧ o = none) ∨ ∃ v x, rv = some v ∧ eRl ρ b (ead ws2) v x ∧ o = some x) → ∀ t : State, t.heap = H → s.WarmedH t.vm → eQc ρ b base D cl ws k asx.toArray s (.returned o) t := by
    intro o ho t ht hW
    refine ⟨⟨rv, hp2, nx2, cs2, ws2, tys2, hk, hs2, had, va_K.moved hW.alike hw2.1, by rw [ht]; exact hw2.2.1, hw2.2.2.1, hw2.2.2.2.2, ?_⟩, hw2.2.2.2.1.F ht⟩
    rcases ho with ⟨z1, rfl⟩ | ⟨v, x, z1, z2, rfl⟩
    · exact Or.inl ⟨z1, rfl⟩
    · exact Or.inr ⟨v, x, z1, z2, rfl⟩
  have hf : ∀ z ∈ locs, base ≤ z.base := hw2.2.2.2.1.2.2
  cases rv with
  | none =>
    obtain ⟨hkd, rfl, rfl⟩ := hret
    have hr0 : ret = none := by
      rcases o8 with ⟨z2, z3⟩ | ⟨z2, z3⟩ | ⟨z2, -⟩ | ⟨z2, -⟩ | ⟨z2, -⟩
      · exact z3
      · exact z3
      all_goals omega
    exact W.vret hx hb (by rw [hr, hr0]) (hq none (Or.inl ⟨rfl, rfl⟩)) hf hdec
  | some v =>
    obtain ⟨x, rfl, hvx, hkind⟩ := hret
    have hqq := hq (some x) (Or.inr ⟨v, x, rfl, hvx, rfl⟩)
    rcases hkind with ⟨rfl, hint, hk1⟩ | ⟨rfl, hk4, href⟩
    · obtain ⟨z, rfl⟩ := eRl_int hvx hint
      rcases hk1 with hk1 | ⟨hk1, n, rfl, hn⟩
      · have hr0 : ret = some .int := by
          rcases o8 with ⟨z2, z3⟩ | ⟨z2, z3⟩ | ⟨z2, z3⟩ | ⟨z2, -⟩ | ⟨z2, -⟩
          · omega
          · omega
          · exact z3
          all_goals omega
        exact W.iret hx hb (by rw [hr, hr0]) hqq hf hdec
      · have hr0 : ret = some .boolean := by
          rcases o8 with ⟨z2, z3⟩ | ⟨z2, z3⟩ | ⟨z2, z3⟩ | ⟨z2, z3⟩ | ⟨z2, -⟩
          · omega
          · omega
          · omega
          · exact z3
          · omega
        have hz : Value.int z = .int (Int32.ofNat n) := hvx
        have hz : z = Int32.ofNat n := by injection hz
        exact W.zret (ty := .boolean) hx hb (by rw [hr, hr0]) (by
          rcases (show n = 0 ∨ n = 1 by omega) with rfl | rfl
          · rw [hz]; rfl
          · rw [hz]; rfl) hqq hf hdec
    · obtain ⟨o, a, -, -, rfl⟩ := eRl_ref hvx href
      obtain ⟨rt, hr0, hrt⟩ : ∃ rt, ret = some rt ∧ ((∃ n, rt = .object n) ∨ ∃ t, rt = .array t) := by
        rcases o8 with ⟨z2, z3⟩ | ⟨z2, z3⟩ | ⟨z2, z3⟩ | ⟨z2, z3⟩ | ⟨z2, z3⟩
        · omega
        · omega
        · omega
        · omega
        · exact z3
      exact W.aret hx hb (by rw [hr, hr0]) hrt (Or.inr ⟨a, rfl⟩) hqq hf hdec
/-- behind a call -/
theorem e_back {ih : eR} (IH : eSn ρ b base D cl Tb NF l CN ih) {mi : eM} {pc : Nat} {cd : List eI} {ls : List (Nat × eV)} {r : List eV} {hp : eH} {nx ce sl mc ms : Nat} {k : eK}
    {p : Program} {e : Env} {R : Room} {s : State} {m : MethodId} {args : Array Value} {below : List Frame} {meth : Method} {c : Code} {Q : State → Prop} {cc : ByteArray} {nL : Nat} {ad0 : List Nat}
    (X : eCx ρ b base Tb NF CN p R s m args meth c mi cc nL) (hR : eRH ρ b base D cl l p e R s m args below meth c Q mi cc ad0 k)
    {H : Heap} {locs : List Loc} {ws : va_W} {tys : List (ClassId × FieldType)} {lsA : Array Slot} {lv : List (Nat × Value)} {st0 rx : List Value} {a : Array Value}
    (hcd : ∀ q ∈ cd, eDk cc nL q) (hw : eWd ρ b base D cl s H locs hp nx ws tys) (had : ∀ (o a : Nat), ad0[o]? = some a → (ead ws)[o]? = some a) (hl : lv_has lsA nL lv) (hls : eLs ρ b (ead ws) ls lv) (hst : eRs ρ b (ead ws) r rx)
    (hr : va_Run p l e R s m args below meth c H locs ce sl mc ms (F0 m pc lsA st0) rx (eQc ρ b base D cl ws (fun ret hp nx cs => ef (ce + mc) (fun ce => ef (sl + ms) (fun sl => match ret with
        | some v => ih mi (pc + 3) cd ls (v :: r) hp nx ce sl cs k
        | none => ih mi (pc + 3) cd ls r hp nx ce sl cs k))) a) (fun x => base ≤ x)) :
    W p l e R s m args below meth c H locs ce sl Q (F0 m pc lsA st0) := by
  intro T hT XT
  obtain ⟨v, st₀, t, T', L, h0, X', hL, e1, e2, ⟨⟨ret, hp2, nx2, cs2, ws2, tys2, hk, hs2, hext, hK2, hP2, hD2, hm2, hret⟩, hz, hkp⟩, st⟩ := hr T hT XT
  rw [h0] at hz hkp
  have hS := hw.2.2.2.1
  have hw2 : eWd ρ b base D cl s T'.heap (locs ++ L) hp2 nx2 ws2 tys2 := by
    refine ⟨va_K.moved (by rw [← e2]; exact X'.warmed.alike.symm) hK2, by rw [e1]; exact hP2, hD2, ⟨Nat.le_trans hS.1 (by rw [e1]; exact hz), fun q h1 h2 => ?_, fun q hq => ?_⟩, hm2⟩
    · rw [e1, hkp q (Nat.lt_of_lt_of_le h1 hS.1) h2]
      exact hS.2.1 q h1 h2
    · rcases List.mem_append.mp hq with z | z
      · exact hS.2.2 q z
      · exact hL q z
  have had2 : ∀ (o a : Nat), ad0[o]? = some a → (ead ws2)[o]? = some a := fun o a z => hext o a (had o a z)
  have K : W p l e R s m args below meth c T'.heap (locs ++ L) (ce + mc) (sl + ms) Q (F0 m (pc + 3) lsA (v.toList ++ rx)) := by
    rcases hret with ⟨rfl, ho⟩ | ⟨v2, x, rfl, hvx, ho⟩
    · cases ho
      have hk3 : ef (ce + mc) (fun ce => ef (sl + ms) (fun sl => ih mi (pc + 3) cd ls r hp2 nx2 ce sl cs2 k)) = true := hk
      rw [ef_eq, ef_eq] at hk3
      exact eNx IH hk3 X hR hcd hs2 hw2 had2 hl (eLs_more hext hls) (eRs_more hext hst)
    · cases ho
      have hst2 : eRs ρ b (ead ws2) (v2 :: r) (x :: rx) := ⟨hvx, eRs_more hext hst⟩
      have hk3 : ef (ce + mc) (fun ce => ef (sl + ms) (fun sl => ih mi (pc + 3) cd ls (v2 :: r) hp2 nx2 ce sl cs2 k)) = true := hk
      rw [ef_eq, ef_eq] at hk3
      exact eNx IH hk3 X hR hcd hs2 hw2 had2 hl (eLs_more hext hls) hst2
  obtain ⟨t2, a1, b1⟩ := K T' rfl X'
  exact ⟨t2, st t2 a1, b1⟩
end ES6
