/-- what a call's row of the table must be -/
def eLk (Tb : List Cond) (NF : State → Prop) (CN : Nat → String) (o idx kd n : Nat) (y : MethodName) : Prop :=
  (parseMethodDescriptor y.desc).map (fun d => d.parameters.length) = some (bif Nat.beq kd 0 || Nat.beq kd 3 then n else n - 1) ∧
  ((kd = 0 ∧ Cond.methodLink (CN o) idx y ∈ Tb ∧ Cond.static y ∈ Tb) ∨ (kd = 1 ∧ Cond.methodLink (CN o) idx y ∈ Tb ∧ Cond.instanceMethod y ∈ Tb ∧ Cond.selects y.cls y y ∈ Tb) ∨ (kd = 2 ∧ Cond.methodLink (CN o) idx y ∈ Tb ∧ Cond.instanceMethod y ∈ Tb ∧ y.name = "<init>")
  ∨ (kd = 3 ∧ (∃ host, ∀ s : State, NF s → va_Nw (.methodLinkNest (CN o) idx y host) s) ∧ Cond.static y ∈ Tb) ∨ (kd = 4 ∧ (∃ host, ∀ s : State, NF s → va_Nw (.methodLinkNest (CN o) idx y host) s) ∧ Cond.instanceMethod y ∈ Tb ∧ Cond.selects y.cls y y ∈ Tb) ∨ (kd = 5 ∧ (∃ host, ∀ s : State, NF s → va_Nw (.methodLinkNest (CN o) idx y host) s) ∧ Cond.instanceMethod y ∈ Tb ∧ y.name = "<init>"))
def eCok (cl : List vw_C) (Tb : List Cond) (NF : State → Prop) (CN : Nat → String) (CL : eFL) (MT : Nat → Option (eM × Nat)) : Prop := ∀ (o idx kd mno n : Nat), CL o idx = some (kd, mno, n) → kd ≤ 5 → ∀ q, MT mno = some q → ∃ (y : MethodName) (cc : ByteArray) (ret : Option FieldType), eMok Tb CN q y cc ret ∧ eLk Tb NF CN o idx kd n y ∧ ((kd = 1 ∨ kd = 4) → ∃ T N, cl[q.1.1]? = some (CN q.1.1, T, N))
def eOok (Tb : List Cond) (CN : Nat → String) (CL : eFL) : Prop := (∀ (o idx x n : Nat), CL o idx = some (6, x, n) → Cond.methodLink (CN o) idx objectInit ∈ Tb) ∧ Cond.instanceMethod objectInit ∈ Tb ∧ Cond.code objectInit ⟨#[0xb1]⟩ 1 none ∈ Tb
  ∧ (∀ (o idx x n : Nat), CL o idx = some (7, x, n) → Cond.methodLink (CN o) idx arraycopyName ∈ Tb) ∧ Cond.native arraycopyName ∈ Tb ∧ Cond.static arraycopyName ∈ Tb ∧ Cond.initialized "java/lang/System" ∈ Tb
section ES7
variable {ρ : Nat → Int32} {b base : Nat} {D : va_G} {cl : List vw_C} {Tb : List Cond} {NF : State → Prop} {l : Launch} {CN : Nat → String}
theorem e_goodIn (hTg : ∀ w ∈ Tb, goodWord w = true) {ws : List Cond} (h : ∀ w ∈ ws, w ∈ Tb) : GoodIn Tb ws := fun w hw => ⟨h w hw, good_of_word (hTg w (h w hw))⟩
theorem e_blind (hN : eNFw base NF) {ws : va_W} {tys : List (ClassId × FieldType)} {asx : List Value} : FrameBlind (ePc base D cl NF ws tys asx) := fun a U g mk q => by
  obtain ⟨q1, q2, q3, q4, q5, q6⟩ := q
  exact ⟨q1, hN.2 U _ q2 rfl rfl, q3, va_K.moved (u := U) (U := U.calling g mk a) (Vm.Alike.refl U.vm) q4, q5, q6⟩
theorem e_pre (hN : eNFw base NF) {p : Program} {R : Room} {s : State} {m : MethodId} {args : Array Value} {meth : Method} {c : Code} {mi : eM} {cc : ByteArray} {nL : Nat} (X : eCx ρ b base Tb NF CN p R s m args meth c mi cc nL)
    {H : Heap} {locs : List Loc} {hp : eH} {nx : Nat} {ws : va_W} {tys : List (ClassId × FieldType)} (hw : eWd ρ b base D cl s H locs hp nx ws tys) {asx : List Value} : ∀ U : State, U.heap = H → s.WarmedH U.vm → ePc base D cl NF ws tys asx asx.toArray U := fun U hU hW => by
  refine ⟨rfl, hN.1 s U X.2.2.2.2.2.1 hW (by rw [hU]; exact hw.2.2.2.1.1) (by rw [hU]; exact hw.2.2.2.1.2.1), ?_, va_K.moved hW.alike hw.1, by rw [hU]; exact hw.2.1, hw.2.2.1⟩
  rw [hU]
  exact Nat.le_trans X.2.2.2.2.2.2.1 hw.2.2.2.1.1
theorem s_call (hTg : ∀ w ∈ Tb, goodWord w = true) (hN : eNFw base NF) {CL : eFL} {MT : Nat → Option (eM × Nat)} (hC : eCok cl Tb NF CN CL MT) {op idx kd mno n : Nat} {i : Instr}
    (hop : (op = 0 ∧ i = .invokestatic idx ∧ (kd = 0 ∨ kd = 3)) ∨ (op = 1 ∧ i = .invokevirtual idx ∧ (kd = 1 ∨ kd = 4)) ∨ (op = 2 ∧ i = .invokespecial idx ∧ (kd = 2 ∨ kd = 5)))
    {ih : eR} (IH : eSn ρ b base D cl Tb NF l CN ih) {mi : eM} {pc : Nat} {cd : List eI} {ls : List (Nat × eV)} {st : List eV} {hp : eH} {nx ce sl : Nat} {cs : eC} {k : eK} (hcl : CL mi.1 idx = some (kd, mno, n)) (h : eCall MT kd mno n ih mi pc cd ls st hp nx ce sl cs k = true)
    {p : Program} {e : Env} {R : Room} {s : State} {m : MethodId} {args : Array Value} {below : List Frame} {meth : Method} {c : Code} {Q : State → Prop} {cc : ByteArray} {nL : Nat} {ad0 : List Nat}
    (X : eCx ρ b base Tb NF CN p R s m args meth c mi cc nL) (hR : eRH ρ b base D cl l p e R s m args below meth c Q mi cc ad0 k)
    {H : Heap} {locs : List Loc} {ws : va_W} {tys : List (ClassId × FieldType)} {lsA : Array Slot} {lv : List (Nat × Value)} {stA : List Value}
    (hd : eDk cc nL (pc, i, 3)) (hcd : ∀ q ∈ cd, eDk cc nL q) (hs : eSat ρ cs) (hw : eWd ρ b base D cl s H locs hp nx ws tys) (had : ∀ (o a : Nat), ad0[o]? = some a → (ead ws)[o]? = some a) (hl : lv_has lsA nL lv) (hls : eLs ρ b (ead ws) ls lv) (hst : eRs ρ b (ead ws) st stA) :
    W p l e R s m args below meth c H locs ce sl Q (F0 m pc lsA stA) := by
  unfold eCall at h
  cases hq : MT mno with
  | none => rw [hq] at h; cases h
  | some q =>
    rw [hq] at h
    obtain ⟨as, r, asx, rx, h1, has, hr, hsp, hlen⟩ := etake_ok (acc := []) (accx := []) n hst trivial h
    rw [List.reverse_nil, List.nil_append] at hsp
    rw [List.length_nil, Nat.zero_add] at hlen
    obtain ⟨h2, h3⟩ := e_cond h1 e_ff
    rw [Bool.and_eq_true] at h2
    obtain ⟨hroom, hrecv⟩ := h2
    unfold eroom at hroom
    simp only [Bool.and_eq_true] at hroom
    obtain ⟨r1, r2, r3, r4, r5, r6⟩ := hroom
    have r1 := Nat.le_of_ble_eq_true r1
    have r2 := Nat.le_of_ble_eq_true r2
    have r3 := Nat.le_of_ble_eq_true r3
    have r4 := Nat.le_of_ble_eq_true r4
    have r5 := Nat.le_of_ble_eq_true r5
    have r6 := Nat.le_of_ble_eq_true r6
    have hk5 : kd ≤ 5 := by rcases hop with ⟨-, -, z | z⟩ | ⟨-, -, z | z⟩ | ⟨-, -, z | z⟩ <;> omega
    obtain ⟨y, cc2, ret, ok, ⟨hpar, hlk⟩, hcls⟩ := hC _ _ _ _ _ hcl hk5 q hq
    have hM := e_met IH ok h3 r6 hs hw.2.2.2.2 has
    obtain ⟨o1, o2, o3, o4, o5, o6, o7, o8⟩ := ok
    have hRc := X.2.2.2.2.2.2.2.1
    have hts := X.2.2.2.2.1
    have hG : GoodIn Tb (Cond.code y cc2 q.2 ret :: Tb) := e_goodIn hTg (fun w z => (List.mem_cons.mp z).elim (fun z => by rw [z]; exact o1) (fun z => z))
    have S : CallFix p m c cc nL s args Tb (CN mi.1) := ⟨X.1, X.2.1, X.2.2.1, X.2.2.2.1, hts⟩
    have hRR : (eRoom q.1).frames + 1 ≤ R.frames ∧ 8 + (q.2 + 11) + (eRoom q.1).locals ≤ R.locals := ⟨by rw [hRc.2.2.1]; exact r1, by rw [hRc.2.2.2]; exact r2⟩
    have hff : ce + q.1.2.1 ≤ R.cells ∧ sl + q.1.2.2.1 ≤ R.slots := ⟨by rw [hRc.1]; exact r3, by rw [hRc.2.1]; exact r4⟩
    have hcat : (rx.map fun v => v.category).sum ≤ 8 := by rw [eRs_cats hr]; exact r5
    have hWw : ∀ st1 : List Value, 2 * (F0 m pc lsA st1).monitorRoom + (rx.map fun v => v.category).sum ≤ 8 := fun st1 => lv_room hcat
    refine e_back IH X hR hcd hw had hl hls hr (mc := q.1.2.1) (ms := q.1.2.2.1) (a := asx.toArray) ?_
    rcases hlk with ⟨rfl, l1, l2⟩ | ⟨rfl, l1, l2, l3⟩ | ⟨rfl, l1, l2, l3⟩ | ⟨rfl, ⟨host, l1⟩, l2⟩ | ⟨rfl, ⟨host, l1⟩, l2, l3⟩ | ⟨rfl, ⟨host, l1⟩, l2, l3⟩
    · rcases hop with ⟨-, rfl, -⟩ | ⟨-, -, z | z⟩ | ⟨-, -, z | z⟩
      · exact va_runS (n := n) S hM ⟨callB_of n hts hG rfl rfl rfl (hts _ o2) (hts _ l1) ⟨o5.1, o5.2, hpar⟩ hRR, hts _ l2⟩ ⟨e_blind hN, e_pre hN X hw⟩ rfl hlen hl.1 hsp (hWw _) hd.1 hff
      all_goals omega
    · rcases hop with ⟨-, -, z | z⟩ | ⟨-, rfl, -⟩ | ⟨-, -, z | z⟩
      · omega
      · omega
      · cases as with
        | nil => rw [erecv] at hrecv; simp at hrecv
        | cons v as2 =>
          obtain ⟨x, asx2, rfl, hv, has2⟩ := eRs_cons has
          have hrecv : (bif Nat.ble 10 q.1.2.2.2.2.2.1 then false else (match ecl hp v with
            | some c => Nat.beq c q.1.1
            | none => false)) = true := hrecv
          have hrv : ∃ (o a : Nat) (fs : List Value), x = .ref a ∧ ws[o]? = some (a, (.inr (q.1.1, fs) : va_E)) := by
            cases hz : Nat.ble 10 q.1.2.2.2.2.2.1 with
            | true => rw [hz] at hrecv; cases hrecv
            | false =>
              rw [hz, cond_false] at hrecv
              rcases v with n | j | o | n
              · cases hrecv
              · cases hrecv
              · obtain ⟨a, ha, rfl⟩ := hv
                unfold ecl at hrecv
                dsimp only at hrecv
                cases hob : hg hp o with
                | none => rw [hob] at hrecv; cases hrecv
                | some ob =>
                  rw [hob] at hrecv
                  rcases ob with ob | ob
                  · have he := Nat.eq_of_beq_eq_true hrecv
                    obtain ⟨ee, h8, fs, rfl, -⟩ := eMt_at hw.2.2.2.2 ha hob
                    exact ⟨o, a, fs, rfl, by rw [h8, he]⟩
                  · cases hrecv
              · cases hrecv
          obtain ⟨o, a, fs, rfl, he⟩ := hrv
          obtain ⟨T, N, hcl2⟩ := hcls (Or.inl rfl)
          have hln : asx2.length = n - 1 := by rw [List.length_cons] at hlen; omega
          have hsp2 : stA = asx2.reverse ++ .ref a :: rx := by rw [hsp, List.reverse_cons, List.append_assoc]; rfl
          exact va_runV (n := n - 1) (C := CN q.1.1) S hM ⟨callB_of (n - 1) hts hG rfl rfl rfl (hts _ o2) (hts _ l1) ⟨o5.1, o5.2, hpar⟩ hRR, hts _ l2, by rw [← o4]; exact hts _ l3⟩ ⟨e_blind hN, va_recv hw.1 hw.2.1 hcl2 he, e_pre hN X hw⟩ rfl hln hl.1 hsp2 (hWw _) hd.1 hff
      · omega
      · omega
    · rcases hop with ⟨-, -, z | z⟩ | ⟨-, -, z | z⟩ | ⟨-, rfl, -⟩
      · omega
      · omega
      · omega
      · omega
      · cases as with
        | nil => rw [erecv] at hrecv; simp at hrecv
        | cons v as2 =>
          obtain ⟨x, asx2, rfl, hv, has2⟩ := eRs_cons has
          have hrecv : (Nat.beq q.1.2.2.2.2.2.1 10 && eref v) = true := hrecv
          rw [Bool.and_eq_true] at hrecv
          have hk10 := Nat.eq_of_beq_eq_true hrecv.1
          obtain ⟨o, a, -, -, rfl⟩ := eRl_ref hv hrecv.2
          have hln : asx2.length = n - 1 := by rw [List.length_cons] at hlen; omega
          have hsp2 : stA = asx2.reverse ++ .ref a :: rx := by rw [hsp, List.reverse_cons, List.append_assoc]; rfl
          have hr0 : ret = none := by
            rcases o8 with ⟨z2, z3⟩ | ⟨z2, z3⟩ | ⟨z2, z3⟩ | ⟨z2, z3⟩ | ⟨z2, z3⟩
            · exact z3
            · exact z3
            all_goals omega
          subst hr0
          exact va_runI (n := n - 1) S hM ⟨callB_of (n - 1) hts hG rfl rfl rfl (hts _ o2) (hts _ l1) ⟨o5.1, o5.2, hpar⟩ hRR, l3, hts _ l2⟩ ⟨e_blind hN, e_pre hN X hw⟩ rfl hln hl.1 hsp2 (hWw _) hd.1 hff
    · rcases hop with ⟨-, rfl, -⟩ | ⟨-, -, z | z⟩ | ⟨-, -, z | z⟩
      · exact va_runSN (n := n) S hM ⟨va_cnB n hts hG rfl rfl rfl (l1 s X.2.2.2.2.2.1) (hts _ o2) ⟨o5.1, o5.2, hpar⟩ hRR, hts _ l2, trivial⟩ ⟨e_blind hN, e_pre hN X hw⟩ rfl hlen hl.1 hsp (hWw _) hd.1 hff
      all_goals omega
    · rcases hop with ⟨-, -, z | z⟩ | ⟨-, rfl, -⟩ | ⟨-, -, z | z⟩
      · omega
      · omega
      · cases as with
        | nil => rw [erecv] at hrecv; simp at hrecv
        | cons v as2 =>
          obtain ⟨x, asx2, rfl, hv, has2⟩ := eRs_cons has
          have hrecv : (bif Nat.ble 10 q.1.2.2.2.2.2.1 then false else (match ecl hp v with
            | some c => Nat.beq c q.1.1
            | none => false)) = true := hrecv
          have hrv : ∃ (o a : Nat) (fs : List Value), x = .ref a ∧ ws[o]? = some (a, (.inr (q.1.1, fs) : va_E)) := by
            cases hz : Nat.ble 10 q.1.2.2.2.2.2.1 with
            | true => rw [hz] at hrecv; cases hrecv
            | false =>
              rw [hz, cond_false] at hrecv
              rcases v with n | j | o | n
              · cases hrecv
              · cases hrecv
              · obtain ⟨a, ha, rfl⟩ := hv
                unfold ecl at hrecv
                dsimp only at hrecv
                cases hob : hg hp o with
                | none => rw [hob] at hrecv; cases hrecv
                | some ob =>
                  rw [hob] at hrecv
                  rcases ob with ob | ob
                  · have he := Nat.eq_of_beq_eq_true hrecv
                    obtain ⟨ee, h8, fs, rfl, -⟩ := eMt_at hw.2.2.2.2 ha hob
                    exact ⟨o, a, fs, rfl, by rw [h8, he]⟩
                  · cases hrecv
              · cases hrecv
          obtain ⟨o, a, fs, rfl, he⟩ := hrv
          obtain ⟨T, N, hcl2⟩ := hcls (Or.inr rfl)
          have hln : asx2.length = n - 1 := by rw [List.length_cons] at hlen; omega
          have hsp2 : stA = asx2.reverse ++ .ref a :: rx := by rw [hsp, List.reverse_cons, List.append_assoc]; rfl
          exact va_runVN (n := n - 1) (C := CN q.1.1) S hM ⟨va_cnB (n - 1) hts hG rfl rfl rfl (l1 s X.2.2.2.2.2.1) (hts _ o2) ⟨o5.1, o5.2, hpar⟩ hRR, hts _ l2, by rw [← o4]; exact hts _ l3⟩ ⟨e_blind hN, va_recv hw.1 hw.2.1 hcl2 he, e_pre hN X hw⟩ rfl hln hl.1 hsp2 (hWw _) hd.1 hff
      · omega
      · omega
    · rcases hop with ⟨-, -, z | z⟩ | ⟨-, -, z | z⟩ | ⟨-, rfl, -⟩
      · omega
      · omega
      · omega
      · omega
      · cases as with
        | nil => rw [erecv] at hrecv; simp at hrecv
        | cons v as2 =>
          obtain ⟨x, asx2, rfl, hv, has2⟩ := eRs_cons has
          have hrecv : (Nat.beq q.1.2.2.2.2.2.1 10 && eref v) = true := hrecv
          rw [Bool.and_eq_true] at hrecv
          have hk10 := Nat.eq_of_beq_eq_true hrecv.1
          obtain ⟨o, a, -, -, rfl⟩ := eRl_ref hv hrecv.2
          have hln : asx2.length = n - 1 := by rw [List.length_cons] at hlen; omega
          have hsp2 : stA = asx2.reverse ++ .ref a :: rx := by rw [hsp, List.reverse_cons, List.append_assoc]; rfl
          have hr0 : ret = none := by
            rcases o8 with ⟨z2, z3⟩ | ⟨z2, z3⟩ | ⟨z2, z3⟩ | ⟨z2, z3⟩ | ⟨z2, z3⟩
            · exact z3
            · exact z3
            all_goals omega
          subst hr0
          exact va_runIN (n := n - 1) S hM ⟨va_cnB (n - 1) hts hG rfl rfl rfl (l1 s X.2.2.2.2.2.1) (hts _ o2) ⟨o5.1, o5.2, hpar⟩ hRR, l3, hts _ l2⟩ ⟨e_blind hN, e_pre hN X hw⟩ rfl hln hl.1 hsp2 (hWw _) hd.1 hff
end ES7
