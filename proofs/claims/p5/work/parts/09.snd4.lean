theorem tg_er {α : Type} {n j : Nat} (z : α) (h : j < n) : tg 32 (er (n / 32 + 1) (er 32 z)) j = some z := by
  unfold tg
  rw [eg_eq, er_eq, er_eq, List.getElem?_replicate, if_pos (by omega)]
  dsimp only
  rw [eg_eq, List.getElem?_replicate, if_pos (by omega)]
theorem e_pos {n : Nat} (h : n ≤ 100000) : ¬ Int32.ofNat n < 0 := nI_pos (n := n) (by omega)
theorem e_cl {n : Nat} (h : n ≤ 100000) : (Int32.ofNat n).toNatClampNeg = n := nI_clamp (n := n) (by omega)
theorem e_in {i n : Nat} (h : i < n) (hn : n ≤ 100000) : vp_in (Int32.ofNat i) n := nI_in (c := i) (N := n) h (by omega)
theorem e_app {tys : List (ClassId × FieldType)} {x : ClassId × FieldType} : ∀ (t : Nat) (q : ClassId × FieldType), tys[t]? = some q → (tys ++ [x])[t]? = some q := fun t q h => by
  rw [List.getElem?_append_left (List.getElem?_eq_some_iff.mp h).1]; exact h
theorem e_last {tys : List (ClassId × FieldType)} {x : ClassId × FieldType} : (tys ++ [x])[tys.length]? = some x := by
  rw [List.getElem?_append_right (Nat.le_refl _), Nat.sub_self]; rfl
section ES4
variable {ρ : Nat → Int32} {b base : Nat} {D : va_G} {cl : List vw_C} {Tb : List Cond} {NF : State → Prop} {l : Launch} {CN : Nat → String}
/-- behind the making of an array -/
theorem e_made {ih : eR} (IH : eSn ρ b base D cl Tb NF l CN ih) {mi : eM} {pc : Nat} {cd : List eI} {ls : List (Nat × eV)} {r : List eV} {hp hp2 : eH} {nx ce sl : Nat} {cs : eC} {k : eK} (h : ih mi pc cd ls (.inr (.inr (.inl nx)) :: r) hp2 (nx + 1) ce sl cs k = true)
    {p : Program} {e : Env} {R : Room} {s : State} {m : MethodId} {args : Array Value} {below : List Frame} {meth : Method} {c : Code} {Q : State → Prop} {cc : ByteArray} {nL : Nat} {ad0 : List Nat}
    (X : eCx ρ b base Tb NF CN p R s m args meth c mi cc nL) (hR : eRH ρ b base D cl l p e R s m args below meth c Q mi cc ad0 k)
    {H H1 : Heap} {locs : List Loc} {ws : va_W} {tys : List (ClassId × FieldType)} {lsA : Array Slot} {lv : List (Nat × Value)} {t : List Value} {qa : Nat} {cA : ClassId} {ty : FieldType} {a0 : vp_A} {x : eO}
    (hcd : ∀ q ∈ cd, eDk cc nL q) (hs : eSat ρ cs) (hw : eWd ρ b base D cl s H locs hp nx ws tys) (had : ∀ (o a : Nat), ad0[o]? = some a → (ead ws)[o]? = some a) (hl : lv_has lsA nL lv) (hls : eLs ρ b (ead ws) ls lv) (hst : eRs ρ b (ead ws) r t)
    (h5 : ∀ j, hg hp2 j = if j = nx then some x else hg hp j) (hx : ∀ ad : List Nat, eOb ρ b cl ad (tys ++ [(cA, ty)]) x (.inl (cA, a0))) (q0 : va_K D cl (tys ++ [(cA, ty)]) s) (q1 : va_P D cl (ws ++ [(qa, .inl (cA, a0))]) H1) (q2 : va_D (fun q => base ≤ q) (ws ++ [(qa, .inl (cA, a0))])) (q3 : va_S (fun q => base ≤ q) s.heap H1 locs) :
    W p l e R s m args below meth c H1 locs ce sl Q (F0 m pc lsA (.ref qa :: t)) := by
  have hm : eMt ρ b cl hp2 (nx + 1) (ws ++ [(qa, .inl (cA, a0))]) (tys ++ [(cA, ty)]) := eMt_push hw.2.2.2.2 e_app h5 (hx _)
  have hst2 : eRs ρ b (ead (ws ++ [(qa, .inl (cA, a0))])) (.inr (.inr (.inl nx)) :: r) (.ref qa :: t) := ⟨⟨qa, ead_at.mpr ⟨_, by rw [← hw.2.2.2.2.1, List.getElem?_append_right (Nat.le_refl _), Nat.sub_self]; rfl⟩, rfl⟩, eRs_more (fun _ _ z => ead_app z) hst⟩
  exact eNx IH h X hR hcd hs ⟨q0, q1, q2, q3, hm⟩ (fun o a z => ead_app (had o a z)) hl (eLs_more (fun _ _ z => ead_app z) hls) hst2
theorem s_newa (hA : eACk Tb) {ty : ArrayType} : eStp ρ b base D cl Tb NF l CN (hNewa ty) (.newarray ty) 2 := by
  intro ih IH mi pc cd ls st hp nx ce sl cs k h p e R s m args below meth c Q cc nL ad0 X hR H locs ws tys lsA lv stA hd hcd hs hw had hl hls hst
  unfold hNewa at h
  split at h
  · rename_i n r
    obtain ⟨xA, t, rfl, hx, hst1⟩ := eRs_cons hst
    have hx : xA = .int (Int32.ofNat n) := hx
    subst hx
    obtain ⟨h1, h⟩ := e_cond h e_ff
    rw [Bool.and_eq_true, Bool.and_eq_true] at h1
    have a1 := Nat.le_of_ble_eq_true h1.1
    have a2 := Nat.le_of_ble_eq_true h1.2.1
    have a3 := Nat.le_of_ble_eq_true h1.2.2
    have hRc := X.2.2.2.2.2.2.2.1
    have b1 : ce + 1 ≤ R.cells := by rw [hRc.1]; exact a1
    have b2 : sl + n ≤ R.slots := by rw [hRc.2.1]; exact a2
    split at h
    · rename_i ob hob
      obtain ⟨hp2, h4, h5⟩ := hs_ok h
      rw [ef_eq, ef_eq, ef_eq] at h4
      cases ty with
      | int =>
        cases hob
        exact va_newa (atype := .int) (ty := .int) (a0 := (n, .inl (fun _ => 0))) X.1 X.2.1 (X.2.2.2.2.1 _ hA.1) rfl hw.1 hw.2.1 hw.2.2.1 hw.2.2.2.1 (e_hA X) (fun _ => rfl) (e_pos a3) (e_cl a3) (by show n * 4 ≤ _; omega) b1 b2 hd.1 (fun qa cA H1 q0 q1 q2 q3 => e_made IH h4 X hR hcd hs hw had hl hls hst1 h5 (fun ad => Or.inl ⟨Nat.zero_lt_succ _, cA, _, _, rfl, e_last, fun j hj => ⟨_, tg_er _ hj, rfl⟩⟩) q0 q1 q2 q3)
      | byte =>
        cases hob
        exact va_newa (atype := .byte) (ty := .byte) (a0 := (n, .inl (fun _ => 0))) X.1 X.2.1 (X.2.2.2.2.1 _ hA.2.1) rfl hw.1 hw.2.1 hw.2.2.1 hw.2.2.2.1 (e_hA X) (fun _ => rfl) (e_pos a3) (e_cl a3) (by show n * 1 ≤ _; omega) b1 b2 hd.1 (fun qa cA H1 q0 q1 q2 q3 => e_made IH h4 X hR hcd hs hw had hl hls hst1 h5 (fun ad => Or.inl ⟨(by decide : 1 < 3), cA, _, _, rfl, e_last, fun j hj => ⟨_, tg_er _ hj, rfl⟩⟩) q0 q1 q2 q3)
      | boolean =>
        cases hob
        exact va_newa (atype := .boolean) (ty := .boolean) (a0 := (n, .inl (fun _ => 0))) X.1 X.2.1 (X.2.2.2.2.1 _ hA.2.2.1) rfl hw.1 hw.2.1 hw.2.2.1 hw.2.2.2.1 (e_hA X) (fun _ => rfl) (e_pos a3) (e_cl a3) (by show n * 1 ≤ _; omega) b1 b2 hd.1 (fun qa cA H1 q0 q1 q2 q3 => e_made IH h4 X hR hcd hs hw had hl hls hst1 h5 (fun ad => Or.inl ⟨(by decide : 2 < 3), cA, _, _, rfl, e_last, fun j hj => ⟨_, tg_er _ hj, rfl⟩⟩) q0 q1 q2 q3)
      | long =>
        cases hob
        exact va_newa (atype := .long) (ty := .long) (a0 := (n, .inr (.inl (fun _ => 0)))) X.1 X.2.1 (X.2.2.2.2.1 _ hA.2.2.2) rfl hw.1 hw.2.1 hw.2.2.1 hw.2.2.2.1 (e_hA X) (fun _ => rfl) (e_pos a3) (e_cl a3) (by show n * 8 ≤ _; omega) b1 b2 hd.1 (fun qa cA H1 q0 q1 q2 q3 => e_made IH h4 X hR hcd hs hw had hl hls hst1 h5 (fun ad => ⟨cA, _, _, rfl, e_last, trivial⟩) q0 q1 q2 q3)
      | _ => cases hob
    · cases h
  · cases h
theorem s_newq {NA : Nat → Nat → Option Nat} (hN : eAOK cl Tb NF CN NA) {idx : Nat} : eStp ρ b base D cl Tb NF l CN (hNewq NA idx) (.anewarray idx) 3 := by
  intro ih IH mi pc cd ls st hp nx ce sl cs k h p e R s m args below meth c Q cc nL ad0 X hR H locs ws tys lsA lv stA hd hcd hs hw had hl hls hst
  unfold hNewq at h
  split at h
  · rename_i n r
    obtain ⟨xA, t, rfl, hx, hst1⟩ := eRs_cons hst
    have hx : xA = .int (Int32.ofNat n) := hx
    subst hx
    split at h
    · rename_i q hq
      obtain ⟨h1, h⟩ := e_cond h e_ff
      rw [Bool.and_eq_true, Bool.and_eq_true] at h1
      have a1 := Nat.le_of_ble_eq_true h1.1
      have a2 := Nat.le_of_ble_eq_true h1.2.1
      have a3 := Nat.le_of_ble_eq_true h1.2.2
      have hRc := X.2.2.2.2.2.2.2.1
      have b1 : ce + 1 ≤ R.cells := by rw [hRc.1]; exact a1
      have b2 : sl + n ≤ R.slots := by rw [hRc.2.1]; exact a2
      obtain ⟨hp2, h4, h5⟩ := hs_ok h
      rw [ef_eq, ef_eq, ef_eq] at h4
      obtain ⟨rr, f1, f2, f3⟩ := hN _ _ _ hq
      exact va_newq X.1 X.2.1 X.2.2.2.1 (X.2.2.2.2.1 _ f2) (f3 _ X.2.2.2.2.2.1) hw.1 hw.2.1 hw.2.2.1 hw.2.2.2.1 (e_hA X) (e_pos a3) (e_cl a3) (by omega) b1 b2 hd.1 (fun qa cA H1 q0 q1 q2 q3 => e_made IH h4 X hR hcd hs hw had hl hls hst1 h5 (fun ad => Or.inr ⟨q, rr, cA, (fun _ => none), tys.length, rfl, f1, rfl, e_last, fun j hj => ⟨eN, tg_er _ hj, (rfl : va_rf none = Value.null)⟩⟩) q0 q1 q2 q3)
    · cases h
  · cases h
theorem s_alen : eStp ρ b base D cl Tb NF l CN hAlen .arraylength 1 := by
  intro ih IH mi pc cd ls st hp nx ce sl cs k h p e R s m args below meth c Q cc nL ad0 X hR H locs ws tys lsA lv stA hd hcd hs hw had hl hls hst
  unfold hAlen at h
  split at h
  · rename_i o r
    obtain ⟨xA, t, rfl, ⟨a, ha, rfl⟩, hst1⟩ := eRs_cons hst
    split at h
    · rename_i ob hob
      obtain ⟨ee, he, hx⟩ := eMt_at hw.2.2.2.2 ha hob
      have hst2 : eRs ρ b (ead ws) (.inl ob.2.1 :: r) (.int (Int32.ofNat ob.2.1) :: t) := ⟨rfl, hst1⟩
      rcases hx with ⟨-, cA, f, t0, rfl, ht, -⟩ | ⟨ci, rr, cA, f, t0, -, -, rfl, ht, -⟩
      · exact va_alen X.1 X.2.1 hw.1 hw.2.1 o t0 he ht rfl hd.1 (eNx IH h X hR hcd hs hw had hl hls hst2)
      · exact va_alen X.1 X.2.1 hw.1 hw.2.1 o t0 he ht rfl hd.1 (eNx IH h X hR hcd hs hw had hl hls hst2)
    · rename_i n hob
      obtain ⟨ee, he, cA, f, t0, rfl, ht, -⟩ := eMt_at hw.2.2.2.2 ha hob
      have hst2 : eRs ρ b (ead ws) (.inl n.1 :: r) (.int (Int32.ofNat n.1) :: t) := ⟨rfl, hst1⟩
      exact va_alen X.1 X.2.1 hw.1 hw.2.1 o t0 he ht rfl hd.1 (eNx IH h X hR hcd hs hw had hl hls hst2)
    · cases h
  · rename_i n r
    obtain ⟨xA, t, rfl, hx, hst1⟩ := eRs_cons hst
    have hx : xA = .ref b := hx
    subst hx
    obtain ⟨h1, h⟩ := e_cond h e_ff
    obtain ⟨L, xs, g1, g2, g3, g4, g5, g6⟩ := X.2.2.2.2.2.2.2.2.2.2 (Nat.eq_of_beq_eq_true h1)
    have hst2 : eRs ρ b (ead ws) (.inr (.inl 6) :: r) (.int (Int32.ofNat L) :: t) := ⟨by show Value.int _ = .int (ρ 6); rw [g5], hst1⟩
    exact va_slen X.1 X.2.1 g1 g2 (by omega) hw.2.2.2.1 hd.1 (eNx IH h X hR hcd hs hw had hl hls hst2)
  · cases h
end ES4
