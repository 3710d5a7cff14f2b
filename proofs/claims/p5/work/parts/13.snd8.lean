theorem e_nfw : nativeFrameWords "java/lang/System" "arraycopy" 5 + 11 ≤ 100 := by decide +kernel
/-- what a call with a contract of its own must do -/
def eSok (ρ : Nat → Int32) (b base : Nat) (D : va_G) (cl : List vw_C) (Tb : List Cond) (NF : State → Prop) (l : Launch) (CN : Nat → String) (CL : eFL) (SP : Nat → eM → eH → List eV → Option (Nat × Nat × Nat)) : Prop := ∀ (mi : eM) (idx sn n : Nat), CL mi.1 idx = some (8, sn, n) → ∀ (hp : eH) (as : List eV) (q : Nat × Nat × Nat), SP sn mi hp as = some q →
  ∀ (p : Program) (e : Env) (R : Room) (s : State) (m : MethodId) (args : Array Value) (below : List Frame) (meth : Method) (c : Code) (Q : State → Prop) (cc : ByteArray) (nL : Nat), eCx ρ b base Tb NF CN p R s m args meth c mi cc nL →
  ∀ (H : Heap) (locs : List Loc) (nx : Nat) (ws : va_W) (tys : List (ClassId × FieldType)) (lsA : Array Slot) (lv : List (Nat × Value)) (asx rx : List Value) (pc ce sl : Nat), eDk cc nL (pc, .invokestatic idx, 3) → eWd ρ b base D cl s H locs hp nx ws tys → lv_has lsA nL lv → eRs ρ b (ead ws) as asx → asx.length = n → (rx.map fun v => v.category).sum ≤ 8 → ce + q.2.1 ≤ mi.2.1 → sl + q.2.2 ≤ mi.2.2.1 →
    (∀ (H1 : Heap) (locs1 : List Loc), eWd ρ b base D cl s H1 locs1 hp nx ws tys → W p l e R s m args below meth c H1 locs1 (ce + q.2.1) (sl + q.2.2) Q (F0 m (pc + 3) lsA (.long (Int64.ofNat q.1) :: rx))) →
    W p l e R s m args below meth c H locs ce sl Q (F0 m pc lsA (asx.reverse ++ rx))
section ES8
variable {ρ : Nat → Int32} {b base : Nat} {D : va_G} {cl : List vw_C} {Tb : List Cond} {NF : State → Prop} {l : Launch} {CN : Nat → String}
theorem s_obj {CL : eFL} (hO : eOok Tb CN CL) {idx x n : Nat}
    {ih : eR} (IH : eSn ρ b base D cl Tb NF l CN ih) {mi : eM} {pc : Nat} {cd : List eI} {ls : List (Nat × eV)} {st : List eV} {hp : eH} {nx ce sl : Nat} {cs : eC} {k : eK} (hcl : CL mi.1 idx = some (6, x, n)) (h : eObj ih mi pc cd ls st hp nx ce sl cs k = true)
    {p : Program} {e : Env} {R : Room} {s : State} {m : MethodId} {args : Array Value} {below : List Frame} {meth : Method} {c : Code} {Q : State → Prop} {cc : ByteArray} {nL : Nat} {ad0 : List Nat}
    (X : eCx ρ b base Tb NF CN p R s m args meth c mi cc nL) (hR : eRH ρ b base D cl l p e R s m args below meth c Q mi cc ad0 k)
    {H : Heap} {locs : List Loc} {ws : va_W} {tys : List (ClassId × FieldType)} {lsA : Array Slot} {lv : List (Nat × Value)} {stA : List Value}
    (hd : eDk cc nL (pc, .invokespecial idx, 3)) (hcd : ∀ q ∈ cd, eDk cc nL q) (hs : eSat ρ cs) (hw : eWd ρ b base D cl s H locs hp nx ws tys) (had : ∀ (o a : Nat), ad0[o]? = some a → (ead ws)[o]? = some a) (hl : lv_has lsA nL lv) (hls : eLs ρ b (ead ws) ls lv) (hst : eRs ρ b (ead ws) st stA) :
    W p l e R s m args below meth c H locs ce sl Q (F0 m pc lsA stA) := by
  cases st with
  | nil => cases h
  | cons v r =>
    obtain ⟨h1, h⟩ := e_cond h e_ff
    rw [Bool.and_eq_true, Bool.and_eq_true] at h1
    obtain ⟨xA, t, rfl, hv, hst1⟩ := eRs_cons hst
    obtain ⟨o, a, -, -, rfl⟩ := eRl_ref hv h1.1
    have a1 := Nat.le_of_ble_eq_true h1.2.1
    have a2 := Nat.le_of_ble_eq_true h1.2.2
    have hRc := X.2.2.2.2.2.2.2.1
    have hts := X.2.2.2.2.1
    refine W.objInit (g := F0 m pc lsA (.ref a :: t)) X.1 X.2.1 X.2.2.2.1 (hts _ (hO.1 _ _ _ _ hcl)) (hts _ hO.2.1) (hts _ hO.2.2.1) rfl (by rw [X.2.2.1]; exact hl.1) rfl hd.1 (by rw [hRc.2.2.1]; exact a1) (by rw [eRs_cats hst1, hRc.2.2.2]; show 2 * 0 + _ + 12 ≤ _; omega) ?_
    exact eNx IH h X hR hcd hs hw had hl hls hst1
theorem s_copy {CL : eFL} (hO : eOok Tb CN CL) {idx x n : Nat}
    {ih : eR} (IH : eSn ρ b base D cl Tb NF l CN ih) {mi : eM} {pc : Nat} {cd : List eI} {ls : List (Nat × eV)} {st : List eV} {hp : eH} {nx ce sl : Nat} {cs : eC} {k : eK} (hcl : CL mi.1 idx = some (7, x, n)) (h : eCopy ih mi pc cd ls st hp nx ce sl cs k = true)
    {p : Program} {e : Env} {R : Room} {s : State} {m : MethodId} {args : Array Value} {below : List Frame} {meth : Method} {c : Code} {Q : State → Prop} {cc : ByteArray} {nL : Nat} {ad0 : List Nat}
    (X : eCx ρ b base Tb NF CN p R s m args meth c mi cc nL) (hR : eRH ρ b base D cl l p e R s m args below meth c Q mi cc ad0 k)
    {H : Heap} {locs : List Loc} {ws : va_W} {tys : List (ClassId × FieldType)} {lsA : Array Slot} {lv : List (Nat × Value)} {stA : List Value}
    (hd : eDk cc nL (pc, .invokestatic idx, 3)) (hcd : ∀ q ∈ cd, eDk cc nL q) (hs : eSat ρ cs) (hw : eWd ρ b base D cl s H locs hp nx ws tys) (had : ∀ (o a : Nat), ad0[o]? = some a → (ead ws)[o]? = some a) (hl : lv_has lsA nL lv) (hls : eLs ρ b (ead ws) ls lv) (hst : eRs ρ b (ead ws) st stA) :
    W p l e R s m args below meth c H locs ce sl Q (F0 m pc lsA stA) := by
  unfold eCopy at h
  split at h
  · rename_i n0 bb aa r
    obtain ⟨nA, t1, rfl, hn, hst1⟩ := eRs_cons hst
    obtain ⟨dA, t2, rfl, hdp, hst2⟩ := eRs_cons hst1
    obtain ⟨bA, t3, rfl, ⟨ab, hab, rfl⟩, hst3⟩ := eRs_cons hst2
    obtain ⟨sA, t4, rfl, hsp, hst4⟩ := eRs_cons hst3
    obtain ⟨aA, t, rfl, ⟨aaa, haa, rfl⟩, hst5⟩ := eRs_cons hst4
    have hn : nA = .int (Int32.ofNat n0) := hn
    have hdp : dA = .int (Int32.ofNat 0) := hdp
    have hsp : sA = .int (Int32.ofNat 0) := hsp
    subst hn; subst hdp; subst hsp
    obtain ⟨h1, h⟩ := e_cond h e_ff
    rw [Bool.and_eq_true, Bool.and_eq_true] at h1
    have a1 := Nat.le_of_ble_eq_true h1.1
    have a2 := Nat.le_of_ble_eq_true h1.2.1
    have a3 := Nat.le_of_ble_eq_true h1.2.2
    have hRc := X.2.2.2.2.2.2.2.1
    have hts := X.2.2.2.2.1
    have b1 : 1 ≤ R.frames := by rw [hRc.2.2.1]; exact a1
    have b2 : (t.map fun v => v.category).sum + (nativeFrameWords "java/lang/System" "arraycopy" 5 + 11) ≤ R.locals := by
      rw [eRs_cats hst5, hRc.2.2.2]
      have := e_nfw
      omega
    have c0 : (Int32.ofNat 0).toNatClampNeg = 0 := rfl
    have cn : (Int32.ofNat n0).toNatClampNeg = n0 := e_cl a3
    split at h
    · rename_i oa hoa
      split at h
      · rename_i ob hob
        obtain ⟨h2, h⟩ := e_cond h e_ff
        rw [Bool.and_eq_true, Bool.and_eq_true, Bool.and_eq_true] at h2
        have e1 := Nat.eq_of_beq_eq_true h2.1
        have e2 := Nat.eq_of_beq_eq_true h2.2.1
        have e3 := Nat.eq_of_beq_eq_true h2.2.2.1
        have e4 := Nat.eq_of_beq_eq_true h2.2.2.2
        obtain ⟨hp2, h7, h8⟩ := hs_ok h
        obtain ⟨ea, hea, hxa⟩ := eMt_at hw.2.2.2.2 haa hoa
        obtain ⟨eb, heb, hxb⟩ := eMt_at hw.2.2.2.2 hab hob
        rcases hxa with ⟨-, cA, f, ta, rfl, hta, hca⟩ | ⟨ci, rr, cA, f, t0, hh, -⟩
        · rcases hxb with ⟨-, cB, g, tb, rfl, htb, hcb⟩ | ⟨ci, rr, cB, g, t0, hh, -⟩
          · rw [e1] at hta
            rw [e2] at htb
            refine va_copyi (ty := .int) (sp := Int32.ofNat 0) (dp := Int32.ofNat 0) (n := Int32.ofNat n0) X.1 X.2.1 (by rw [X.2.2.1]; exact hl.1.symm) X.2.2.2.1 (hts _ (hO.2.2.2.1 _ _ _ _ hcl)) (hts _ hO.2.2.2.2.1) (hts _ hO.2.2.2.2.2.1) (hts _ hO.2.2.2.2.2.2) hw.1 hw.2.1 hw.2.2.1 hw.2.2.2.1 aa bb ta tb hea heb hta htb rfl (e_pos (by omega)) (e_pos (by omega)) (e_pos a3) (by rw [c0, cn]; omega) (by rw [c0, cn]; omega) (fun _ _ => rfl) b1 b2 hd.1 (fun H1 locs1 q1 q2 q3 => ?_)
            rw [c0, cn] at q1 q2
            have hm := eMt_set (e := .inl (cB, ob.2.1, .inl (va_cpy f g 0 0 n0))) hw.2.2.2.2 heb h8 (Or.inl ⟨Nat.zero_lt_succ _, cB, _, tb, by rw [e4], htb, fun j hj => by
              obtain ⟨w, w1, w2⟩ := hca j (by rw [e3]; exact hj)
              refine ⟨w, w1, ?_⟩
              rw [pk_cpy_in (Nat.zero_le _) (by rw [Nat.zero_add]; exact hj), Nat.sub_zero, Nat.zero_add]
              exact w2⟩)
            exact eNx IH h7 X hR hcd hs ⟨hw.1, q1, q2, q3, hm⟩ (by rw [ead_set heb]; exact had) hl (by rw [ead_set heb]; exact hls) (by rw [ead_set heb]; exact hst5)
          · omega
        · omega
      · cases h
    · rename_i na hoa
      split at h
      · rename_i nb hob
        obtain ⟨h2, h⟩ := e_cond h e_ff
        rw [Bool.and_eq_true] at h2
        have e1 := Nat.le_of_ble_eq_true h2.1
        have e2 := Nat.le_of_ble_eq_true h2.2
        obtain ⟨ea, hea, cA, f, ta, rfl, hta, -⟩ := eMt_at hw.2.2.2.2 haa hoa
        obtain ⟨eb, heb, cB, g, tb, rfl, htb, -⟩ := eMt_at hw.2.2.2.2 hab hob
        refine va_copyl (ty := .long) (sp := Int32.ofNat 0) (dp := Int32.ofNat 0) (n := Int32.ofNat n0) X.1 X.2.1 (by rw [X.2.2.1]; exact hl.1.symm) X.2.2.2.1 (hts _ (hO.2.2.2.1 _ _ _ _ hcl)) (hts _ hO.2.2.2.2.1) (hts _ hO.2.2.2.2.2.1) (hts _ hO.2.2.2.2.2.2) hw.1 hw.2.1 hw.2.2.1 hw.2.2.2.1 aa bb ta tb hea heb hta htb rfl (e_pos (by omega)) (e_pos (by omega)) (e_pos a3) (by rw [c0, cn]; omega) (by rw [c0, cn]; omega) (fun _ _ => rfl) b1 b2 hd.1 (fun H1 locs1 q1 q2 q3 => ?_)
        have hm := eMt_set (x := .inr (.inr (nb, []))) (e := .inl (cB, nb, .inr (.inl (va_cpy f g (Int32.ofNat 0).toNatClampNeg (Int32.ofNat 0).toNatClampNeg (Int32.ofNat n0).toNatClampNeg)))) hw.2.2.2.2 heb (hp2 := hp) (fun j => by
          by_cases hj : j = bb
          · rw [if_pos hj, hj]; exact hob
          · rw [if_neg hj]) ⟨cB, _, tb, rfl, htb, trivial⟩
        exact eNx IH h X hR hcd hs ⟨hw.1, q1, q2, q3, hm⟩ (by rw [ead_set heb]; exact had) hl (by rw [ead_set heb]; exact hls) (by rw [ead_set heb]; exact hst5)
      · cases h
    · cases h
  · cases h
theorem s_spec {CL : eFL} {SP : Nat → eM → eH → List eV → Option (Nat × Nat × Nat)} (hS : eSok ρ b base D cl Tb NF l CN CL SP) {idx sn n : Nat}
    {ih : eR} (IH : eSn ρ b base D cl Tb NF l CN ih) {mi : eM} {pc : Nat} {cd : List eI} {ls : List (Nat × eV)} {st : List eV} {hp : eH} {nx ce sl : Nat} {cs : eC} {k : eK} (hcl : CL mi.1 idx = some (8, sn, n)) (h : eSpec SP sn n ih mi pc cd ls st hp nx ce sl cs k = true)
    {p : Program} {e : Env} {R : Room} {s : State} {m : MethodId} {args : Array Value} {below : List Frame} {meth : Method} {c : Code} {Q : State → Prop} {cc : ByteArray} {nL : Nat} {ad0 : List Nat}
    (X : eCx ρ b base Tb NF CN p R s m args meth c mi cc nL) (hR : eRH ρ b base D cl l p e R s m args below meth c Q mi cc ad0 k)
    {H : Heap} {locs : List Loc} {ws : va_W} {tys : List (ClassId × FieldType)} {lsA : Array Slot} {lv : List (Nat × Value)} {stA : List Value}
    (hd : eDk cc nL (pc, .invokestatic idx, 3)) (hcd : ∀ q ∈ cd, eDk cc nL q) (hs : eSat ρ cs) (hw : eWd ρ b base D cl s H locs hp nx ws tys) (had : ∀ (o a : Nat), ad0[o]? = some a → (ead ws)[o]? = some a) (hl : lv_has lsA nL lv) (hls : eLs ρ b (ead ws) ls lv) (hst : eRs ρ b (ead ws) st stA) :
    W p l e R s m args below meth c H locs ce sl Q (F0 m pc lsA stA) := by
  obtain ⟨as, r, asx, rx, h1, has, hr, hsp, hlen⟩ := etake_ok (acc := []) (accx := []) n hst trivial h
  rw [List.reverse_nil, List.nil_append] at hsp
  rw [List.length_nil, Nat.zero_add] at hlen
  cases hq : SP sn mi hp as with
  | none => rw [hq] at h1; cases h1
  | some q =>
    rw [hq] at h1
    obtain ⟨h2, h3⟩ := e_cond h1 e_ff
    rw [Bool.and_eq_true, Bool.and_eq_true] at h2
    rw [ef_eq, ef_eq] at h3
    rw [hsp]
    refine hS mi idx sn n hcl hp as q hq p e R s m args below meth c Q cc nL X H locs nx ws tys lsA lv asx rx pc ce sl hd hw hl has hlen (by rw [eRs_cats hr]; exact Nat.le_of_ble_eq_true h2.2.2) (Nat.le_of_ble_eq_true h2.1) (Nat.le_of_ble_eq_true h2.2.1) (fun H1 locs1 hw1 => ?_)
    exact s_lst IH h3 X hR hcd hs hw1 had hl hls hr
end ES8
