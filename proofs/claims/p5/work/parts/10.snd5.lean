theorem e_tcn {x : Int32} {d : Nat} (h : ebz x = d + 2147483648) : x.toNatClampNeg = d := by
  have h1 := ebz_int x
  show x.toInt.toNat = d
  omega
section ES5
variable {ρ : Nat → Int32} {b base : Nat} {D : va_G} {cl : List vw_C} {Tb : List Cond} {NF : State → Prop} {l : Launch} {CN : Nat → String}
theorem s_ald {kind : Nat → Bool} {i : Instr}
    (ld : ∀ {p : Program} {e : Env} {R : Room} {s : State} {m : MethodId} {args : Array Value} {below : List Frame} {meth : Method} {c : Code} {Q : State → Prop} {cc : ByteArray} {H : Heap} {locs : List Loc} {ce sl pc : Nat} {lsA : Array Slot} {rest : List Value} {ws : va_W} {tys : List (ClassId × FieldType)} {o a : Nat} {ob : Nat × Nat × List (List eV)} {ee : va_E} {idx : Int32},
      p.tables.exec = Jvm.exec → c.code = cc → va_K D cl tys s → va_P D cl ws H → ws[o]? = some (a, ee) → eOb ρ b cl (ead ws) tys (.inr (.inl ob)) ee → kind ob.1 = true → vp_in idx ob.2.1 → decode cc pc = .ok (i, 1) →
      ∃ v x, tg 32 ob.2.2 idx.toNatClampNeg = some v ∧ eRl ρ b (ead ws) v x ∧ (W p l e R s m args below meth c H locs ce sl Q (F0 m (pc + 1) lsA (x :: rest)) → W p l e R s m args below meth c H locs ce sl Q (F0 m pc lsA (.int idx :: .ref a :: rest))))
    (hsc : kind 0 = true → i = .iaload) (hρ : ρ 7 = ρ 6 - 6) : eStp ρ b base D cl Tb NF l CN (hAld kind) i 1 := by
  intro ih IH mi pc cd ls st hp nx ce sl cs k h p e R s m args below meth c Q cc nL ad0 X hR H locs ws tys lsA lv stA hd hcd hs hw had hl hls hst
  unfold hAld at h
  split at h
  · rename_i i0 o r
    obtain ⟨iA, t0, rfl, hi, hst0⟩ := eRs_cons hst
    obtain ⟨xA, t, rfl, ⟨a, ha, rfl⟩, hst1⟩ := eRs_cons hst0
    have hi : iA = .int (Int32.ofNat i0) := hi
    subst hi
    split at h
    · rename_i ob hob
      obtain ⟨h1, h⟩ := e_cond h e_ff
      rw [Bool.and_eq_true, Bool.and_eq_true] at h1
      have a1 := Nat.le_of_ble_eq_true h1.2.1
      have a2 := Nat.le_of_ble_eq_true h1.2.2
      obtain ⟨ee, he, hx⟩ := eMt_at hw.2.2.2.2 ha hob
      obtain ⟨v, x, f1, f2, f3⟩ := ld (e := e) (R := R) (m := m) (args := args) (below := below) (meth := meth) (Q := Q) (locs := locs) (ce := ce) (sl := sl) (lsA := lsA) (rest := t) X.1 X.2.1 hw.1 hw.2.1 he hx h1.1 (e_in (i := i0) a1 a2) hd.1
      rw [e_cl (by omega)] at f1
      rw [f1] at h
      have hst2 : eRs ρ b (ead ws) (v :: r) (x :: t) := ⟨f2, hst1⟩
      exact f3 (eNx IH h X hR hcd hs hw had hl hls hst2)
    · cases h
  · rename_i j o r
    obtain ⟨iA, t0, rfl, hi, hst0⟩ := eRs_cons hst
    obtain ⟨xA, t, rfl, ⟨a, ha, rfl⟩, hst1⟩ := eRs_cons hst0
    have hi : iA = .int (ρ j) := hi
    subst hi
    split at h
    · rename_i ob hob
      obtain ⟨h1, h⟩ := e_cond h e_ff
      rw [Bool.and_eq_true] at h1
      have a2 := Nat.le_of_ble_eq_true h1.2
      rw [Bool.and_eq_true, Bool.and_eq_true] at h
      obtain ⟨g1, g2, g3⟩ := h
      have z1 : ¬ ρ j < 0 := fun q => by
        obtain ⟨_, z, -⟩ := erf_ok hs g1 (y := 0) rfl q
        cases z
      have z2 : ¬ Int32.ofNat ob.2.1 ≤ ρ j := fun q => by
        obtain ⟨_, z, -⟩ := erf_ok hs g2 (y := Int32.ofNat ob.2.1) (by rw [ebz_nat]; unfold ebi; omega) q
        cases z
      have w1 : ¬ ebz (ρ j) < 2147483648 := fun q => z1 (ebz_lt.mpr q)
      have w2 : ¬ ob.2.1 + 2147483648 ≤ ebz (ρ j) := fun q => z2 (ebz_le.mpr (by rw [ebz_nat]; unfold ebi; omega))
      obtain ⟨d, hdd⟩ : ∃ d, ebz (ρ j) = d + 2147483648 := ⟨ebz (ρ j) - 2147483648, by omega⟩
      obtain ⟨ee, he, hx⟩ := eMt_at hw.2.2.2.2 ha hob
      have hin : vp_in (ρ j) ob.2.1 := by
        rw [vp_in_iff]
        have := ebz_int (ρ j)
        omega
      obtain ⟨v, x, f1, f2, f3⟩ := ld (e := e) (R := R) (m := m) (args := args) (below := below) (meth := meth) (Q := Q) (locs := locs) (ce := ce) (sl := sl) (lsA := lsA) (rest := t) X.1 X.2.1 hw.1 hw.2.1 he hx h1.1 hin hd.1
      rw [e_tcn hdd] at f1
      obtain ⟨cs2, h3, h4⟩ := eix_ok hs _ g3 d (by omega) (by omega)
      rw [Nat.zero_add, f1] at h3
      have hst2 : eRs ρ b (ead ws) (v :: r) (x :: t) := ⟨f2, hst1⟩
      exact f3 (eNx IH h3 X hR hcd h4 hw had hl hls hst2)
    · cases h
  · rename_i i0 nn r
    obtain ⟨iA, t0, rfl, hi, hst0⟩ := eRs_cons hst
    obtain ⟨xA, t, rfl, hx, hst1⟩ := eRs_cons hst0
    have hi : iA = .int (Int32.ofNat i0) := hi
    have hx : xA = .ref b := hx
    subst hi
    subst hx
    obtain ⟨h1, h⟩ := e_cond h e_ff
    rw [Bool.and_eq_true, Bool.and_eq_true] at h1
    have hii := hsc h1.2.2
    subst hii
    have a1 := Nat.le_of_ble_eq_true h1.2.1
    obtain ⟨L, xs, g1, g2, g3, g4, g5, g6⟩ := X.2.2.2.2.2.2.2.2.2.2 (Nat.eq_of_beq_eq_true h1.1)
    rw [eg_eq] at h
    split at h
    · rename_i q hq
      obtain ⟨h2, h⟩ := e_cond h e_ff
      have a2 := Nat.le_of_ble_eq_true h2
      have hL : 6 ≤ L := by
        have := (hs 7 q hq).1
        have h7 := ebz_int (ρ 7)
        rw [hρ, g5] at h7
        have e1 : (Int32.ofNat L - 6 : Int32).toInt = (L : Int) - 6 := by
          have eL : (Int32.ofNat L).toInt = (L : Int) := Int32.toInt_ofNat_of_lt (by omega)
          have e6 : (6 : Int32).toInt = 6 := rfl
          rw [Int32.toInt_sub, eL, e6, Int.bmod_def]
          split <;> omega
        rw [e1] at h7
        rw [hρ, g5] at this
        omega
      have hr : eRl ρ b (ead ws) (.inr (.inl i0)) (.int (xs i0)) := by
        show Value.int _ = .int (ρ i0)
        rw [g6 i0 (by omega) (by omega)]
      obtain ⟨w, hw1, hw2⟩ := evar_ok hs hr h
      have hst2 : eRs ρ b (ead ws) (w :: r) (.int (xs (Int32.ofNat i0).toNatClampNeg) :: t) := by
        rw [e_cl (n := i0) (by omega)]
        exact ⟨hw2, hst1⟩
      exact va_sld X.1 X.2.1 g1 g2 (by omega) hw.2.2.2.1 (e_in (i := i0) (by omega) (by omega)) hd.1 (eNx IH hw1 X hR hcd hs hw had hl hls hst2)
    · cases h
  · cases h
theorem s_iald (hρ : ρ 7 = ρ 6 - 6) : eStp ρ b base D cl Tb NF l CN (hAld ekI) .iaload 1 := by
  refine s_ald ?_ (fun _ => rfl) hρ
  intro p e R s m args below meth c Q cc H locs ce sl pc lsA rest ws tys o a ob ee idx hx hb hK hP he hob hk hin hd
  have hk := Nat.eq_of_beq_eq_true hk
  rcases hob with ⟨-, cA, f, t0, rfl, ht, hc⟩ | ⟨ci, rr, cA, f, t0, h0, -⟩
  · rw [hk] at ht
    obtain ⟨v, q1, q2⟩ := hc _ (Nat.not_le.mp fun q => hin (Or.inr q))
    exact ⟨v, _, q1, q2, fun hW => va_iald hx hb hK hP o t0 he ht hin hd hW⟩
  · omega
theorem s_bald (hρ : ρ 7 = ρ 6 - 6) : eStp ρ b base D cl Tb NF l CN (hAld ekB) .baload 1 := by
  refine s_ald ?_ (fun h => by cases h) hρ
  intro p e R s m args below meth c Q cc H locs ce sl pc lsA rest ws tys o a ob ee idx hx hb hK hP he hob hk hin hd
  have hk : (Nat.beq ob.1 1 || Nat.beq ob.1 2) = true := hk
  rw [Bool.or_eq_true] at hk
  rcases hob with ⟨-, cA, f, t0, rfl, ht, hc⟩ | ⟨ci, rr, cA, f, t0, h0, -⟩
  · obtain ⟨v, q1, q2⟩ := hc _ (Nat.not_le.mp fun q => hin (Or.inr q))
    rcases hk with hk | hk
    · rw [Nat.eq_of_beq_eq_true hk] at ht
      exact ⟨v, _, q1, q2, fun hW => va_bald hx hb hK hP o t0 he ht hin hd hW⟩
    · rw [Nat.eq_of_beq_eq_true hk] at ht
      exact ⟨v, _, q1, q2, fun hW => va_zald hx hb hK hP o t0 he ht hin hd hW⟩
  · rcases hk with hk | hk
    · have := Nat.eq_of_beq_eq_true hk; omega
    · have := Nat.eq_of_beq_eq_true hk; omega
theorem s_aald (hρ : ρ 7 = ρ 6 - 6) : eStp ρ b base D cl Tb NF l CN (hAld ekR) .aaload 1 := by
  refine s_ald ?_ (fun h => by cases h) hρ
  intro p e R s m args below meth c Q cc H locs ce sl pc lsA rest ws tys o a ob ee idx hx hb hK hP he hob hk hin hd
  have hk := Nat.le_of_ble_eq_true hk
  rcases hob with ⟨h0, -⟩ | ⟨ci, rr, cA, f, t0, h0, hcl, rfl, ht, hc⟩
  · omega
  · obtain ⟨v, q1, q2⟩ := hc _ (Nat.not_le.mp fun q => hin (Or.inr q))
    exact ⟨v, _, q1, q2, fun hW => va_aldq hx hb hK hP o t0 he ht hin hd hW⟩
theorem s_lald : eStp ρ b base D cl Tb NF l CN hLald .laload 1 := by
  intro ih IH mi pc cd ls st hp nx ce sl cs k h p e R s m args below meth c Q cc nL ad0 X hR H locs ws tys lsA lv stA hd hcd hs hw had hl hls hst
  unfold hLald at h
  split at h
  · rename_i i0 o r
    obtain ⟨iA, t0, rfl, hi, hst0⟩ := eRs_cons hst
    obtain ⟨xA, t, rfl, ⟨a, ha, rfl⟩, hst1⟩ := eRs_cons hst0
    have hi : iA = .int (Int32.ofNat i0) := hi
    subst hi
    split at h
    · rename_i n hob
      obtain ⟨h1, h⟩ := e_cond h e_ff
      rw [Bool.and_eq_true] at h1
      have a1 := Nat.le_of_ble_eq_true h1.1
      have a2 := Nat.le_of_ble_eq_true h1.2
      obtain ⟨ee, he, cA, f, t0, rfl, ht, -⟩ := eMt_at hw.2.2.2.2 ha hob
      have hst2 : eRs ρ b (ead ws) (eL :: r) (.long (f (Int32.ofNat i0).toNatClampNeg) :: t) := ⟨⟨_, rfl⟩, hst1⟩
      exact va_lald X.1 X.2.1 hw.1 hw.2.1 o t0 he ht (e_in (i := i0) a1 a2) hd.1 (eNx IH h X hR hcd hs hw had hl hls hst2)
    · cases h
  · cases h
theorem s_last : eStp ρ b base D cl Tb NF l CN hLast .lastore 1 := by
  intro ih IH mi pc cd ls st hp nx ce sl cs k h p e R s m args below meth c Q cc nL ad0 X hR H locs ws tys lsA lv stA hd hcd hs hw had hl hls hst
  unfold hLast at h
  split at h
  · rename_i v i0 o r
    obtain ⟨vA, t1, rfl, hv, hstv⟩ := eRs_cons hst
    obtain ⟨iA, t0, rfl, hi, hst0⟩ := eRs_cons hstv
    obtain ⟨xA, t, rfl, ⟨a, ha, rfl⟩, hst1⟩ := eRs_cons hst0
    have hi : iA = .int (Int32.ofNat i0) := hi
    subst hi
    split at h
    · rename_i n hob
      obtain ⟨h1, h⟩ := e_cond h e_ff
      rw [Bool.and_eq_true, Bool.and_eq_true] at h1
      have a1 := Nat.le_of_ble_eq_true h1.2.1
      have a2 := Nat.le_of_ble_eq_true h1.2.2
      have hz : ∃ z : Int64, vA = .long z := by
        have hc := Nat.eq_of_beq_eq_true h1.1
        rcases v with n | j | o | n
        · cases hc
        · cases hc
        · cases hc
        · match n, hc, hv with
          | 0, hc, _ => cases hc
          | 1, hc, _ => cases hc
          | 2, _, hv => exact hv
          | _ + 3, hc, _ => cases hc
      obtain ⟨z, rfl⟩ := hz
      obtain ⟨ee, he, cA, f, t0, rfl, ht, -⟩ := eMt_at hw.2.2.2.2 ha hob
      refine va_last X.1 X.2.1 hw.1 hw.2.1 hw.2.2.1 hw.2.2.2.1 o t0 he ht (e_in (i := i0) a1 a2) hd.1 (fun H1 locs1 q1 q2 q3 => ?_)
      have hm : eMt ρ b cl hp nx (ws.set o (a, .inl (cA, n, .inr (.inl (vp_updL f (Int32.ofNat i0).toNatClampNeg z))))) tys := eMt_set (x := .inr (.inr (n, []))) hw.2.2.2.2 he (fun j => by
        by_cases hj : j = o
        · rw [if_pos hj, hj]; exact hob
        · rw [if_neg hj]) ⟨cA, _, t0, rfl, ht, trivial⟩
      exact eNx IH h X hR hcd hs ⟨hw.1, q1, q2, q3, hm⟩ (by rw [ead_set he]; exact had) hl (by rw [ead_set he]; exact hls) (by rw [ead_set he]; exact hst1)
    · cases h
  · cases h
theorem eKn_up {f : Nat → Int64} {i : Nat} {z : Int64} : ∀ {L : List Nat}, L.length ≤ i → eKn f L → eKn (vp_updL f i z) L
  | [], _, _ => trivial
  | v :: r, hl, h => by
    have hl : r.length + 1 ≤ i := hl
    refine ⟨?_, eKn_up (L := r) (by omega) h.2⟩
    show (if r.length = i then z else f r.length) = _
    rw [if_neg (by omega)]
    exact h.1
theorem s_lst {v len : Nat} {ih : eR} (IH : eSn ρ b base D cl Tb NF l CN ih) {mi : eM} {pc : Nat} {cd : List eI} {ls : List (Nat × eV)} {st : List eV} {hp : eH} {nx ce sl : Nat} {cs : eC} {k : eK} (h : eLst v len ih mi pc cd ls st hp nx ce sl cs k = true)
    {p : Program} {e : Env} {R : Room} {s : State} {m : MethodId} {args : Array Value} {below : List Frame} {meth : Method} {c : Code} {Q : State → Prop} {cc : ByteArray} {nL : Nat} {ad0 : List Nat}
    (X : eCx ρ b base Tb NF CN p R s m args meth c mi cc nL) (hR : eRH ρ b base D cl l p e R s m args below meth c Q mi cc ad0 k)
    {H : Heap} {locs : List Loc} {ws : va_W} {tys : List (ClassId × FieldType)} {lsA : Array Slot} {lv : List (Nat × Value)} {stA : List Value}
    (hcd : ∀ q ∈ cd, eDk cc nL q) (hs : eSat ρ cs) (hw : eWd ρ b base D cl s H locs hp nx ws tys) (had : ∀ (o a : Nat), ad0[o]? = some a → (ead ws)[o]? = some a) (hl : lv_has lsA nL lv) (hls : eLs ρ b (ead ws) ls lv) (hst : eRs ρ b (ead ws) st stA) :
    W p l e R s m args below meth c H locs ce sl Q (F0 m (pc + len) lsA (.long (Int64.ofNat v) :: stA)) := by
  unfold eLst at h
  split at h
  · rename_i pc2 r2
    obtain ⟨hpc, h⟩ := e_cond h e_ff
    have hpc := Nat.eq_of_beq_eq_true hpc
    subst hpc
    have hd := hcd _ List.mem_cons_self
    split at h
    · rename_i i0 o r xx
      obtain ⟨iA, t0, rfl, hi, hst0⟩ := eRs_cons hst
      obtain ⟨xA, t, rfl, ⟨a, ha, rfl⟩, hst1⟩ := eRs_cons hst0
      have hi : iA = .int (Int32.ofNat i0) := hi
      subst hi
      split at h
      · rename_i q hob
        obtain ⟨h1, h⟩ := e_cond h e_ff
        rw [Bool.and_eq_true, Bool.and_eq_true] at h1
        have a0 := Nat.eq_of_beq_eq_true h1.1
        have a1 : i0 < q.1 := Nat.le_of_ble_eq_true h1.2.1
        have a2 := Nat.le_of_ble_eq_true h1.2.2
        obtain ⟨hp2, h4, h5⟩ := hs_ok h
        obtain ⟨ee, he, cA, f, t0, rfl, ht, hk⟩ := eMt_at hw.2.2.2.2 ha hob
        have ei : (Int32.ofNat i0).toNatClampNeg = i0 := Int32.toNatClampNeg_ofNat_of_lt (by omega)
        refine va_last X.1 X.2.1 hw.1 hw.2.1 hw.2.2.1 hw.2.2.2.1 o t0 he ht (e_in (i := i0) a1 a2) hd.1 (fun H1 locs1 q1 q2 q3 => ?_)
        have hm := eMt_set (x := .inr (.inr (q.1, v :: q.2))) hw.2.2.2.2 he h5 ⟨cA, vp_updL f (Int32.ofNat i0).toNatClampNeg (Int64.ofNat v), t0, rfl, ht, by
          rw [ei]
          refine ⟨?_, eKn_up (by omega) hk⟩
          show (if q.2.length = i0 then Int64.ofNat v else f q.2.length) = _
          rw [if_pos a0.symm]⟩
        exact eNx IH h4 X hR (fun q hq => hcd q (List.mem_cons_of_mem _ hq)) hs ⟨hw.1, q1, q2, q3, hm⟩ (by rw [ead_set he]; exact had) hl (by rw [ead_set he]; exact hls) (by rw [ead_set he]; exact hst1)
      · cases h
    · cases h
  · cases h
theorem s_ldc2 {KL : Nat → Nat → Option Nat} (hK : eJOKx Tb CN KL) {idx : Nat} : eStp ρ b base D cl Tb NF l CN (hLong KL idx) (.ldc2_w idx) 3 := by
  intro ih IH mi pc cd ls st hp nx ce sl cs k h p e R s m args below meth c Q cc nL ad0 X hR H locs ws tys lsA lv stA hd hcd hs hw had hl hls hst
  unfold hLong at h
  cases hv : KL mi.1 idx with
  | none => rw [hv] at h; cases h
  | some n =>
    rw [hv] at h
    obtain ⟨v, hc, hn⟩ := hK _ _ _ hv
    cases n with
    | zero =>
      have hst2 : eRs ρ b (ead ws) (eL :: st) (.long v :: stA) := ⟨⟨v, rfl⟩, hst⟩
      exact lv_ldc2 X.1 X.2.1 X.2.2.2.1 (X.2.2.2.2.1 _ hc) hd.1 (eNx IH h X hR hcd hs hw had hl hls hst2)
    | succ n =>
      have hn := hn (by omega)
      subst hn
      exact lv_ldc2 X.1 X.2.1 X.2.2.2.1 (X.2.2.2.2.1 _ hc) hd.1 (s_lst IH h X hR hcd hs hw had hl hls hst)
theorem s_iast : eStp ρ b base D cl Tb NF l CN (hIast false) .iastore 1 := by
  intro ih IH mi pc cd ls st hp nx ce sl cs k h p e R s m args below meth c Q cc nL ad0 X hR H locs ws tys lsA lv stA hd hcd hs hw had hl hls hst
  unfold hIast at h
  split at h
  · rename_i v i0 o r
    obtain ⟨vA, t1, rfl, hv, hstv⟩ := eRs_cons hst
    obtain ⟨iA, t0, rfl, hi, hst0⟩ := eRs_cons hstv
    obtain ⟨xA, t, rfl, ⟨a, ha, rfl⟩, hst1⟩ := eRs_cons hst0
    have hi : iA = .int (Int32.ofNat i0) := hi
    subst hi
    split at h
    · rename_i ob hob
      obtain ⟨h1, h⟩ := e_cond h e_ff
      rw [Bool.and_eq_true, Bool.and_eq_true, Bool.and_eq_true] at h1
      obtain ⟨h0, h2, h3, h4⟩ := h1
      have h0 : ob.1 = 0 := Nat.eq_of_beq_eq_true h0
      have a1 := Nat.le_of_ble_eq_true h3
      have a2 := Nat.le_of_ble_eq_true h4
      obtain ⟨z, rfl⟩ := eRl_int hv h2
      obtain ⟨ch, h5, -, h6⟩ := ts_ok (by decide) h
      obtain ⟨hp2, h7, h8⟩ := hs_ok h5
      obtain ⟨ee, he, hx⟩ := eMt_at hw.2.2.2.2 ha hob
      rcases hx with ⟨hlt, cA, f, t0, rfl, ht, hc⟩ | ⟨ci, rr, cA, f, t0, hh, -⟩
      · have ht0 : tys[t0]? = some (cA, .int) := by rw [ht, h0]; rfl
        refine va_iast X.1 X.2.1 hw.1 hw.2.1 hw.2.2.1 hw.2.2.2.1 o t0 he ht0 (e_in (i := i0) a1 a2) hd.1 (fun H1 locs1 q1 q2 q3 => ?_)
        have hm := eMt_set (e := .inl (cA, ob.2.1, .inl (upd f (Int32.ofNat i0).toNatClampNeg z))) hw.2.2.2.2 he h8 (Or.inl ⟨hlt, cA, _, t0, rfl, ht, fun j hj => by
          rw [h6 j, e_cl (n := i0) (by omega)]
          by_cases hji : j = i0
          · rw [if_pos hji]
            refine ⟨_, rfl, ?_⟩
            rw [show upd f i0 z j = z from if_pos hji]
            exact hv
          · rw [if_neg hji]
            obtain ⟨w, w1, w2⟩ := hc j hj
            refine ⟨w, w1, ?_⟩
            rw [show upd f i0 z j = f j from if_neg hji]
            exact w2⟩)
        exact eNx IH h7 X hR hcd hs ⟨hw.1, q1, q2, q3, hm⟩ (by rw [ead_set he]; exact had) hl (by rw [ead_set he]; exact hls) (by rw [ead_set he]; exact hst1)
      · omega
    · cases h
  · cases h
theorem s_bast : eStp ρ b base D cl Tb NF l CN (hIast true) .bastore 1 := by
  intro ih IH mi pc cd ls st hp nx ce sl cs k h p e R s m args below meth c Q cc nL ad0 X hR H locs ws tys lsA lv stA hd hcd hs hw had hl hls hst
  unfold hIast at h
  split at h
  · rename_i v i0 o r
    obtain ⟨vA, t1, rfl, hv, hstv⟩ := eRs_cons hst
    obtain ⟨iA, t0, rfl, hi, hst0⟩ := eRs_cons hstv
    obtain ⟨xA, t, rfl, ⟨a, ha, rfl⟩, hst1⟩ := eRs_cons hst0
    have hi : iA = .int (Int32.ofNat i0) := hi
    subst hi
    split at h
    · rename_i ob hob
      obtain ⟨h1, h⟩ := e_cond h e_ff
      rw [Bool.and_eq_true, Bool.and_eq_true, Bool.and_eq_true] at h1
      obtain ⟨h0, h2, h3, h4⟩ := h1
      have h0 : (Nat.beq ob.1 1 || Nat.beq ob.1 2) = true := h0
      rw [Bool.or_eq_true] at h0
      have a1 := Nat.le_of_ble_eq_true h3
      have a2 := Nat.le_of_ble_eq_true h4
      obtain ⟨z, rfl⟩ := eRl_int hv h2
      obtain ⟨ch, h5, -, h6⟩ := ts_ok (by decide) h
      obtain ⟨hp2, h7, h8⟩ := hs_ok h5
      obtain ⟨ee, he, hx⟩ := eMt_at hw.2.2.2.2 ha hob
      rcases hx with ⟨hlt, cA, f, t0, rfl, ht, hc⟩ | ⟨ci, rr, cA, f, t0, hh, -⟩
      · have fin : ∀ (y : Int32) (H1 : Heap) (locs1 : List Loc), va_P D cl (ws.set o (a, .inl (cA, ob.2.1, .inl (upd f (Int32.ofNat i0).toNatClampNeg y)))) H1 → va_D (fun q => base ≤ q) (ws.set o (a, .inl (cA, ob.2.1, .inl (upd f (Int32.ofNat i0).toNatClampNeg y)))) → va_S (fun q => base ≤ q) s.heap H1 locs1 → W p l e R s m args below meth c H1 locs1 ce sl Q (F0 m (pc + 1) lsA t) := by
          intro y H1 locs1 q1 q2 q3
          have hm := eMt_set (e := .inl (cA, ob.2.1, .inl (upd f (Int32.ofNat i0).toNatClampNeg y))) hw.2.2.2.2 he h8 (Or.inl ⟨hlt, cA, _, t0, rfl, ht, fun j hj => by
            rw [h6 j, e_cl (n := i0) (by omega)]
            by_cases hji : j = i0
            · rw [if_pos hji]
              exact ⟨_, rfl, eRl_any _⟩
            · rw [if_neg hji]
              obtain ⟨w, w1, w2⟩ := hc j hj
              refine ⟨w, w1, ?_⟩
              rw [show upd f i0 y j = f j from if_neg hji]
              exact w2⟩)
          exact eNx IH h7 X hR hcd hs ⟨hw.1, q1, q2, q3, hm⟩ (by rw [ead_set he]; exact had) hl (by rw [ead_set he]; exact hls) (by rw [ead_set he]; exact hst1)
        rcases h0 with h0 | h0
        · have ht0 : tys[t0]? = some (cA, .byte) := by rw [ht, Nat.eq_of_beq_eq_true h0]; rfl
          exact va_bast X.1 X.2.1 hw.1 hw.2.1 hw.2.2.1 hw.2.2.2.1 o t0 he ht0 (e_in (i := i0) a1 a2) hd.1 (fin _)
        · have ht0 : tys[t0]? = some (cA, .boolean) := by rw [ht, Nat.eq_of_beq_eq_true h0]; rfl
          exact va_zast X.1 X.2.1 hw.1 hw.2.1 hw.2.2.1 hw.2.2.2.1 o t0 he ht0 (e_in (i := i0) a1 a2) hd.1 (fin _)
      · rcases h0 with h0 | h0
        · have := Nat.eq_of_beq_eq_true h0; omega
        · have := Nat.eq_of_beq_eq_true h0; omega
    · cases h
  · cases h
theorem s_aast : eStp ρ b base D cl Tb NF l CN hAast .aastore 1 := by
  intro ih IH mi pc cd ls st hp nx ce sl cs k h p e R s m args below meth c Q cc nL ad0 X hR H locs ws tys lsA lv stA hd hcd hs hw had hl hls hst
  unfold hAast at h
  split at h
  · rename_i q i0 o r
    obtain ⟨vA, t1, rfl, ⟨va, hva, rfl⟩, hstv⟩ := eRs_cons hst
    obtain ⟨iA, t0, rfl, hi, hst0⟩ := eRs_cons hstv
    obtain ⟨xA, t, rfl, ⟨a, ha, rfl⟩, hst1⟩ := eRs_cons hst0
    have hi : iA = .int (Int32.ofNat i0) := hi
    subst hi
    split at h
    · rename_i ob hob
      split at h
      · rename_i oq hoq
        obtain ⟨h1, h⟩ := e_cond h e_ff
        rw [Bool.and_eq_true, Bool.and_eq_true] at h1
        obtain ⟨h0, h3, h4⟩ := h1
        have h0 := Nat.eq_of_beq_eq_true h0
        have a1 := Nat.le_of_ble_eq_true h3
        have a2 := Nat.le_of_ble_eq_true h4
        obtain ⟨ch, h5, -, h6⟩ := ts_ok (by decide) h
        obtain ⟨hp2, h7, h8⟩ := hs_ok h5
        obtain ⟨eq, heq, fs, rfl, -⟩ := eMt_at hw.2.2.2.2 hva hoq
        obtain ⟨ee, he, hx⟩ := eMt_at hw.2.2.2.2 ha hob
        rcases hx with ⟨hlt, -⟩ | ⟨ci, rr, cA, f, t0, hh, hcl, rfl, ht, hc⟩
        · omega
        · have hci : ci = oq.1 := by omega
          subst hci
          refine va_astq X.1 X.2.1 hw.1 hw.2.1 hw.2.2.1 hw.2.2.2.1 o t0 q oq.1 he ht heq hcl (e_in (i := i0) a1 a2) hd.1 (fun H1 locs1 q1 q2 q3 => ?_)
          have hm := eMt_set (e := .inl (cA, ob.2.1, .inr (.inr (.inr (.inr (va_up f (Int32.ofNat i0).toNatClampNeg (some va))))))) hw.2.2.2.2 he h8 (Or.inr ⟨oq.1, rr, cA, _, t0, hh, hcl, rfl, ht, fun j hj => by
            rw [h6 j, e_cl (n := i0) (by omega)]
            by_cases hji : j = i0
            · rw [if_pos hji]
              refine ⟨_, rfl, va, hva, ?_⟩
              rw [show va_up f i0 (some va) j = some va from if_pos hji]
              rfl
            · rw [if_neg hji]
              obtain ⟨w, w1, w2⟩ := hc j hj
              refine ⟨w, w1, ?_⟩
              rw [show va_up f i0 (some va) j = f j from if_neg hji]
              exact w2⟩)
          exact eNx IH h7 X hR hcd hs ⟨hw.1, q1, q2, q3, hm⟩ (by rw [ead_set he]; exact had) hl (by rw [ead_set he]; exact hls) (by rw [ead_set he]; exact hst1)
      · cases h
    · cases h
  · cases h
theorem s_ret {kd : Nat} {i : Instr} (hi : (kd = 1 ∧ i = .ireturn) ∨ (kd = 4 ∧ i = .areturn)) : eStp ρ b base D cl Tb NF l CN (hRet kd) i 1 := by
  intro ih IH mi pc cd ls st hp nx ce sl cs k h p e R s m args below meth c Q cc nL ad0 X hR H locs ws tys lsA lv stA hd hcd hs hw had hl hls hst
  unfold hRet at h
  split at h
  · rename_i v
    obtain ⟨vA, t, rfl, hv, hst1⟩ := eRs_cons hst
    have ht := eRs_nil hst1
    subst ht
    obtain ⟨h1, h⟩ := e_cond h e_ff
    rw [Bool.and_eq_true, Bool.and_eq_true] at h1
    obtain ⟨⟨h2, h3⟩, h4⟩ := h1
    refine hR (some v) hp nx cs h hs H locs ws tys hw had i pc lsA [vA] ⟨vA, rfl, hv, ?_⟩ hd.1 ce sl (Nat.le_of_ble_eq_true h2) (Nat.le_of_ble_eq_true h3)
    rcases v with n | j | o | n
    · have h4 : (Nat.beq kd 1 && (Nat.beq mi.2.2.2.2.2.1 1 || ((Nat.beq mi.2.2.2.2.2.1 2 || Nat.beq mi.2.2.2.2.2.1 20) && Nat.ble n 1))) = true := h4
      rw [Bool.and_eq_true, Bool.or_eq_true, Bool.and_eq_true, Bool.or_eq_true] at h4
      have k1 := Nat.eq_of_beq_eq_true h4.1
      rcases hi with ⟨-, rfl⟩ | ⟨k2, -⟩
      · refine Or.inl ⟨rfl, rfl, ?_⟩
        rcases h4.2 with q | ⟨q | q, q2⟩
        · exact Or.inl (Nat.eq_of_beq_eq_true q)
        · exact Or.inr ⟨Or.inl (Nat.eq_of_beq_eq_true q), n, rfl, Nat.le_of_ble_eq_true q2⟩
        · exact Or.inr ⟨Or.inr (Nat.eq_of_beq_eq_true q), n, rfl, Nat.le_of_ble_eq_true q2⟩
      · omega
    · have h4 : (Nat.beq kd 1 && Nat.beq mi.2.2.2.2.2.1 1) = true := h4
      rw [Bool.and_eq_true] at h4
      have k1 := Nat.eq_of_beq_eq_true h4.1
      rcases hi with ⟨-, rfl⟩ | ⟨k2, -⟩
      · exact Or.inl ⟨rfl, rfl, Or.inl (Nat.eq_of_beq_eq_true h4.2)⟩
      · omega
    · have h4 : (Nat.beq kd 4 && Nat.beq mi.2.2.2.2.2.1 4) = true := h4
      rw [Bool.and_eq_true] at h4
      have k1 := Nat.eq_of_beq_eq_true h4.1
      rcases hi with ⟨k2, -⟩ | ⟨-, rfl⟩
      · omega
      · exact Or.inr ⟨rfl, Nat.eq_of_beq_eq_true h4.2, rfl⟩
    · match n, h4 with
      | 0, h4 =>
        have h4 : (Nat.beq kd 1 && Nat.beq mi.2.2.2.2.2.1 1) = true := h4
        rw [Bool.and_eq_true] at h4
        have k1 := Nat.eq_of_beq_eq_true h4.1
        rcases hi with ⟨-, rfl⟩ | ⟨k2, -⟩
        · exact Or.inl ⟨rfl, rfl, Or.inl (Nat.eq_of_beq_eq_true h4.2)⟩
        · omega
      | _ + 1, h4 => cases h4
  · cases h
theorem s_retv : eStp ρ b base D cl Tb NF l CN hRetv .return_ 1 := by
  intro ih IH mi pc cd ls st hp nx ce sl cs k h p e R s m args below meth c Q cc nL ad0 X hR H locs ws tys lsA lv stA hd hcd hs hw had hl hls hst
  unfold hRetv at h
  split at h
  · have ht := eRs_nil hst
    subst ht
    obtain ⟨h1, h⟩ := e_cond h e_ff
    rw [Bool.and_eq_true, Bool.and_eq_true, Bool.or_eq_true] at h1
    obtain ⟨⟨h2, h3⟩, h4⟩ := h1
    refine hR none hp nx cs h hs H locs ws tys hw had _ pc lsA [] ⟨?_, rfl, rfl⟩ hd.1 ce sl (Nat.le_of_ble_eq_true h2) (Nat.le_of_ble_eq_true h3)
    rcases h4 with q | q
    · exact Or.inl (Nat.eq_of_beq_eq_true q)
    · exact Or.inr (Nat.eq_of_beq_eq_true q)
  · cases h
end ES5
