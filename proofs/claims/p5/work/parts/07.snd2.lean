section ES2
variable {ρ : Nat → Int32} {b base : Nat} {D : va_G} {cl : List vw_C} {Tb : List Cond} {NF : State → Prop} {l : Launch} {CN : Nat → String}
theorem eJm {ih : eR} (IH : eSn ρ b base D cl Tb NF l CN ih) {mi : eM} {pc : Nat} {off : Int} {ls : List (Nat × eV)} {st : List eV} {hp : eH} {nx ce sl : Nat} {cs : eC} {k : eK} (h : eJmp ih mi pc off ls st hp nx ce sl cs k = true)
    {p : Program} {e : Env} {R : Room} {s : State} {m : MethodId} {args : Array Value} {below : List Frame} {meth : Method} {c : Code} {Q : State → Prop} {cc : ByteArray} {nL : Nat} {ad0 : List Nat}
    (X : eCx ρ b base Tb NF CN p R s m args meth c mi cc nL) (hR : eRH ρ b base D cl l p e R s m args below meth c Q mi cc ad0 k)
    {H : Heap} {locs : List Loc} {ws : va_W} {tys : List (ClassId × FieldType)} {lsA : Array Slot} {lv : List (Nat × Value)} {stA : List Value}
    (hs : eSat ρ cs) (hw : eWd ρ b base D cl s H locs hp nx ws tys) (had : ∀ (o a : Nat), ad0[o]? = some a → (ead ws)[o]? = some a) (hl : lv_has lsA nL lv) (hls : eLs ρ b (ead ws) ls lv) (hst : eRs ρ b (ead ws) st stA) :
    ∃ t : Nat, (pc : Int) + off = (t : Int) ∧ W p l e R s m args below meth c H locs ce sl Q (F0 m t lsA stA) := by
  unfold eJmp at h
  split at h
  · rename_i t ht
    split at h
    · rename_i cd hcd
      rw [ef_eq] at h
      exact ⟨t, ht, eNx IH h X hR (fun q hq => X.2.2.2.2.2.2.2.2.1 q (ej_ok hcd q hq)) hs hw had hl hls hst⟩
    · cases h
  · cases h
theorem s_goto {off : Int} : eStp ρ b base D cl Tb NF l CN (hGoto off) (.goto off) 3 := by
  intro ih IH mi pc cd ls st hp nx ce sl cs k h p e R s m args below meth c Q cc nL ad0 X hR H locs ws tys lsA lv stA hd hcd hs hw had hl hls hst
  obtain ⟨t, ht, hW⟩ := eJm IH h X hR hs hw had hl hls hst
  exact lv_goto X.1 X.2.1 hd.1 ht hW
/-- a branch, by what it asks -/
theorem e_icmp {p : Program} {e : Env} {R : Room} {s : State} {m : MethodId} {args : Array Value} {below : List Frame} {meth : Method} {c : Code} {Q : State → Prop} {cc : ByteArray} {H : Heap} {locs : List Loc} {ce sl pc : Nat} {lsA : Array Slot} {rest : List Value} {x y : Int32} {off : Int} (cd : ClassFile.Cond) (hx : p.tables.exec = Jvm.exec) (hb : c.code = cc) (hd : decode cc pc = .ok (.if_icmp cd off, 3)) (hn : 0 ≤ (pc : Int) + off)
    (kt : eCd cd x y → ∃ t : Nat, (pc : Int) + off = (t : Int) ∧ W p l e R s m args below meth c H locs ce sl Q (F0 m t lsA rest)) (kf : ¬ eCd cd x y → W p l e R s m args below meth c H locs ce sl Q (F0 m (pc + 3) lsA rest)) : W p l e R s m args below meth c H locs ce sl Q (F0 m pc lsA (.int y :: .int x :: rest)) := by
  have ht : (pc : Int) + off = (((pc : Int) + off).toNat : Int) := (Int.toNat_of_nonneg hn).symm
  have kt2 : eCd cd x y → W p l e R s m args below meth c H locs ce sl Q (F0 m ((pc : Int) + off).toNat lsA rest) := fun q => by
    obtain ⟨t, h1, h2⟩ := kt q
    rw [show ((pc : Int) + off).toNat = t by omega]
    exact h2
  cases cd with
  | eq => exact lv_icmp_eq hx hb hd ht kt2 kf
  | ne => exact lv_icmp_ne hx hb hd ht kt2 (fun q => kf (fun z => z q))
  | lt => exact lv_icmp_lt hx hb hd ht kt2 kf
  | ge => exact lv_icmp_ge hx hb hd ht kt2 kf
  | gt => exact lv_icmp_gt hx hb hd ht kt2 kf
  | le => exact lv_icmp_le hx hb hd ht kt2 kf
theorem e_ifc {p : Program} {e : Env} {R : Room} {s : State} {m : MethodId} {args : Array Value} {below : List Frame} {meth : Method} {c : Code} {Q : State → Prop} {cc : ByteArray} {H : Heap} {locs : List Loc} {ce sl pc : Nat} {lsA : Array Slot} {rest : List Value} {x : Int32} {off : Int} (cd : ClassFile.Cond) (hx : p.tables.exec = Jvm.exec) (hb : c.code = cc) (hd : decode cc pc = .ok (.ifCond cd off, 3)) (hn : 0 ≤ (pc : Int) + off)
    (kt : eCd cd x 0 → ∃ t : Nat, (pc : Int) + off = (t : Int) ∧ W p l e R s m args below meth c H locs ce sl Q (F0 m t lsA rest)) (kf : ¬ eCd cd x 0 → W p l e R s m args below meth c H locs ce sl Q (F0 m (pc + 3) lsA rest)) : W p l e R s m args below meth c H locs ce sl Q (F0 m pc lsA (.int x :: rest)) := by
  have ht : (pc : Int) + off = (((pc : Int) + off).toNat : Int) := (Int.toNat_of_nonneg hn).symm
  have kt2 : eCd cd x 0 → W p l e R s m args below meth c H locs ce sl Q (F0 m ((pc : Int) + off).toNat lsA rest) := fun q => by
    obtain ⟨t, h1, h2⟩ := kt q
    rw [show ((pc : Int) + off).toNat = t by omega]
    exact h2
  cases cd with
  | eq => exact lv_if_eq hx hb hd ht kt2 kf
  | ne => exact lv_if_ne hx hb hd ht kt2 (fun q => kf (fun z => z q))
  | lt => exact lv_if_lt hx hb hd ht kt2 kf
  | ge => exact lv_if_ge hx hb hd ht kt2 kf
  | gt => exact lv_if_gt hx hb hd ht kt2 kf
  | le => exact lv_if_le hx hb hd ht kt2 kf
theorem s_icmp {cd : ClassFile.Cond} {off : Int} : eStp ρ b base D cl Tb NF l CN (hIcmp cd off) (.if_icmp cd off) 3 := by
  intro ih IH mi pc cd1 ls st hp nx ce sl cs k h p e R s m args below meth c Q cc nL ad0 X hR H locs ws tys lsA lv stA hd hcd hs hw had hl hls hst
  match st, h, hst with
  | y :: x :: r, h, hst =>
    obtain ⟨yA, t0, rfl, hy, hst0⟩ := eRs_cons hst
    obtain ⟨xA, t, rfl, hx, hst1⟩ := eRs_cons hst0
    have h : ecmp cd x y cs (fun cs => eJmp ih mi pc off ls r hp nx ce sl cs k) (fun cs => ih mi (pc + 3) cd1 ls r hp nx ce sl cs k) = true := h
    obtain ⟨z1, z2, rfl, rfl, h1, h2⟩ := ecmp_ok hs hx hy h
    refine e_icmp cd X.1 X.2.1 hd.1 (of_decide_eq_true hd.2.1) (fun q => ?_) (fun q => ?_)
    · obtain ⟨cs2, h3, h4⟩ := h1 q
      exact eJm IH h3 X hR h4 hw had hl hls hst1
    · obtain ⟨cs2, h3, h4⟩ := h2 q
      exact eNx IH h3 X hR hcd h4 hw had hl hls hst1
  | [_], h, _ => cases h
  | [], h, _ => cases h
theorem s_ifc {cd : ClassFile.Cond} {off : Int} : eStp ρ b base D cl Tb NF l CN (hIf cd off) (.ifCond cd off) 3 := by
  intro ih IH mi pc cd1 ls st hp nx ce sl cs k h p e R s m args below meth c Q cc nL ad0 X hR H locs ws tys lsA lv stA hd hcd hs hw had hl hls hst
  cases st with
  | nil => cases h
  | cons x r =>
    obtain ⟨xA, t, rfl, hx, hst1⟩ := eRs_cons hst
    have h : ecmp cd x (.inl 0) cs (fun cs => eJmp ih mi pc off ls r hp nx ce sl cs k) (fun cs => ih mi (pc + 3) cd1 ls r hp nx ce sl cs k) = true := h
    have h0 : eRl ρ b (ead ws) (.inl 0) (.int (Int32.ofNat 0)) := rfl
    obtain ⟨z1, z2, rfl, h6, h1, h2⟩ := ecmp_ok hs hx h0 h
    cases h6
    refine e_ifc cd X.1 X.2.1 hd.1 (of_decide_eq_true hd.2.1) (fun q => ?_) (fun q => ?_)
    · obtain ⟨cs2, h3, h4⟩ := h1 q
      exact eJm IH h3 X hR h4 hw had hl hls hst1
    · obtain ⟨cs2, h3, h4⟩ := h2 q
      exact eNx IH h3 X hR hcd h4 hw had hl hls hst1
theorem e_sg (n : Nat) : (Int32.ofNat n).toInt = esg n := by
  rw [e_toInt, Int.bmod_def]
  unfold esg
  split <;> split <;> omega
theorem s_switch {BK : eBk} {d lo hi : Int} {offs : Array Int} {len : Nat}
    (hBK : ∀ (mi : eM) (pc : Nat) (ls : List (Nat × eV)) (st : List eV) (hp : eH) (nx ce sl : Nat) (cs : eC) (k : eK), mi.2.2.2.2.2.1 = 20 → BK hp nx ce sl cs ls st = true → ∀ (p : Program) (e : Env) (R : Room) (s : State) (m : MethodId) (args : Array Value) (below : List Frame) (meth : Method) (c : Code) (Q : State → Prop) (cc : ByteArray) (nL : Nat) (ad0 : List Nat),
      eCx ρ b base Tb NF CN p R s m args meth c mi cc nL → eRH ρ b base D cl l p e R s m args below meth c Q mi cc ad0 k → ∀ (H : Heap) (locs : List Loc) (ws : va_W) (tys : List (ClassId × FieldType)) (lsA : Array Slot) (lv : List (Nat × Value)) (stA : List Value) (z : Int32),
      eDk cc nL (pc, .tableswitch d lo hi offs, len) → eSat ρ cs → eWd ρ b base D cl s H locs hp nx ws tys → (∀ (o a : Nat), ad0[o]? = some a → (ead ws)[o]? = some a) → lv_has lsA nL lv → eLs ρ b (ead ws) ls lv → eRs ρ b (ead ws) st stA → W p l e R s m args below meth c H locs ce sl Q (F0 m pc lsA (.int z :: stA))) :
    eStp ρ b base D cl Tb NF l CN (hSwitch BK d lo hi offs) (.tableswitch d lo hi offs) len := by
  intro ih IH mi pc cd1 ls st hp nx ce sl cs k h p e R s m args below meth c Q cc nL ad0 X hR H locs ws tys lsA lv stA hd hcd hs hw had hl hls hst
  have inn : ∀ {z : Int32} {t : List Value} {off : Int}, ¬ (z.toInt < lo ∨ hi < z.toInt) → offs.toList[(z.toInt - lo).toNat]? = some off → (∃ t0 : Nat, (pc : Int) + off = (t0 : Int) ∧ W p l e R s m args below meth c H locs ce sl Q (F0 m t0 lsA t)) → W p l e R s m args below meth c H locs ce sl Q (F0 m pc lsA (.int z :: t)) := by
    intro z t off h1 h2 h3
    obtain ⟨t0, h4, h5⟩ := h3
    exact lv_tableIn X.1 X.2.1 hd.1 (fun q => h1 (Or.inl q)) (fun q => h1 (Or.inr q)) (by rw [← Array.getElem?_toList]; exact h2) h4 h5
  have oth : ∀ {v : eV} {r : List eV} {x : Value} {t : List Value}, eRl ρ b (ead ws) v x → eRs ρ b (ead ws) r t → (bif Nat.beq mi.2.2.2.2.2.1 20 && eint v then BK hp nx ce sl cs ls r else false) = true → W p l e R s m args below meth c H locs ce sl Q (F0 m pc lsA (x :: t)) := by
    intro v r x t hv hr h
    obtain ⟨h1, h⟩ := e_cond h e_ff
    rw [Bool.and_eq_true] at h1
    obtain ⟨z, rfl⟩ := eRl_int hv h1.2
    exact hBK mi pc ls r hp nx ce sl cs k (Nat.eq_of_beq_eq_true h1.1) h p e R s m args below meth c Q cc nL ad0 X hR H locs ws tys lsA lv t z hd hs hw had hl hls hr
  match st, h, hst with
  | .inl n :: r, h, hst =>
    obtain ⟨xA, t, rfl, hx, hst1⟩ := eRs_cons hst
    have hx : xA = .int (Int32.ofNat n) := hx
    subst hx
    have h : (if esg n < lo ∨ hi < esg n then eJmp ih mi pc d ls r hp nx ce sl cs k else (match offs.toList[(esg n - lo).toNat]? with
      | some off => eJmp ih mi pc off ls r hp nx ce sl cs k
      | none => false)) = true := h
    by_cases hc : esg n < lo ∨ hi < esg n
    · rw [if_pos hc] at h
      obtain ⟨t0, h4, h5⟩ := eJm IH h X hR hs hw had hl hls hst1
      exact lv_tableOut X.1 X.2.1 hd.1 (by rw [e_sg]; exact hc) h4 h5
    · rw [if_neg hc] at h
      cases ho : offs.toList[(esg n - lo).toNat]? with
      | none => rw [ho] at h; cases h
      | some off =>
        rw [ho] at h
        exact inn (by rw [e_sg]; exact hc) (by rw [e_sg]; exact ho) (eJm IH h X hR hs hw had hl hls hst1)
  | .inr (.inl j) :: r, h, hst =>
    obtain ⟨xA, t, rfl, hx, hst1⟩ := eRs_cons hst
    have hx : xA = .int (ρ j) := hx
    subst hx
    obtain ⟨h0, h⟩ := e_cond h e_ff
    have h0 := of_decide_eq_true h0
    rw [Bool.and_eq_true, Bool.and_eq_true] at h
    obtain ⟨ha, hb2, hc2⟩ := h
    have hz := ebz_int (ρ j)
    by_cases hc : (ρ j).toInt < lo ∨ hi < (ρ j).toInt
    · have hj : ∃ cs2, eJmp ih mi pc d ls r hp nx ce sl cs2 k = true ∧ eSat ρ cs2 := by
        rcases hc with q | q
        · refine erf_ok hs hb2 (y := Int32.ofInt lo) ?_ ?_
          · have := ebz_int (Int32.ofInt lo)
            rw [Int32.toInt_ofInt_of_le (by omega) (by omega)] at this
            omega
          · show ρ j < Int32.ofInt lo
            rw [Int32.lt_iff_toInt_lt, Int32.toInt_ofInt_of_le (by omega) (by omega)]
            exact q
        · refine erf_ok hs hc2 (y := Int32.ofInt hi) ?_ ?_
          · have := ebz_int (Int32.ofInt hi)
            rw [Int32.toInt_ofInt_of_le (by omega) (by omega)] at this
            omega
          · show Int32.ofInt hi < ρ j
            rw [Int32.lt_iff_toInt_lt, Int32.toInt_ofInt_of_le (by omega) (by omega)]
            exact q
      obtain ⟨cs2, h3, h4⟩ := hj
      obtain ⟨t0, h5, h6⟩ := eJm IH h3 X hR h4 hw had hl hls hst1
      exact lv_tableOut X.1 X.2.1 hd.1 hc h5 h6
    · have hlt : ((ρ j).toInt - lo).toNat < offs.toList.length := by omega
      have ho : offs.toList[((ρ j).toInt - lo).toNat]? = some offs.toList[((ρ j).toInt - lo).toNat] := List.getElem?_eq_getElem hlt
      obtain ⟨cs2, h3, h4⟩ := esw_ok hs ha _ _ ho (by omega)
      exact inn hc ho (eJm IH h3 X hR h4 hw had hl hls hst1)
  | .inr (.inr (.inl o)) :: r, h, hst =>
    obtain ⟨xA, t, rfl, hx, hst1⟩ := eRs_cons hst
    exact oth hx hst1 h
  | .inr (.inr (.inr n)) :: r, h, hst =>
    obtain ⟨xA, t, rfl, hx, hst1⟩ := eRs_cons hst
    exact oth hx hst1 h
  | [], h, _ => cases h
end ES2
