section ED3
variable (cl : List vw_C) (Tb : List Cond) (NF : State → Prop) (CN : Nat → String)
def eFk (t : Nat) (ty : FieldType) : Prop := (t = 0 ∧ ty = .int) ∨ (t = 1 ∧ ty = .boolean) ∨ (t = 2 ∧ ((∃ n, ty = .object n) ∨ ∃ u, ty = .array u)) ∨ (t = 3 ∧ ty = .long)
def eFOK (FL : eFL) : Prop := ∀ (o idx : Nat) (q : Nat × Nat × Nat), FL o idx = some q → ∃ (T : u_T) (N : Nat) (ty : Nat → FieldType), cl[q.1]? = some (CN q.1, T, N) ∧ (∀ w ∈ u_ws (CN q.1) T N, w ∈ Tb) ∧ (∀ k, k < N → parseFieldDescriptor (T k).2.2.1 = some (ty k)) ∧ (∀ a, a < N → ∀ c, c < N → a ≠ c → (T a).2.1 ≠ (T c).2.1)
  ∧ q.2.1 < N ∧ Cond.fieldLink (CN o) idx (T q.2.1).1 (T q.2.1).2.1 (T q.2.1).2.2.1 ∈ Tb ∧ (T q.2.1).2.2.2 = Nat.ble 10 q.2.2 ∧ (Nat.ble 10 q.2.2 = true → Nat.blt q.2.2 20 = true → (T q.2.1).1 = CN o) ∧ eFk (q.2.2 % 10) (ty q.2.1)
def eNOK (NW : Nat → Nat → Option (Nat × Nat × List eV)) : Prop := ∀ (o idx : Nat) (q : Nat × Nat × List eV), NW o idx = some q → ∃ (T : u_T) (ty : Nat → FieldType) (fs : List Value), cl[q.1]? = some (CN q.1, T, q.2.1) ∧ (∀ w ∈ u_ws (CN q.1) T q.2.1, w ∈ Tb) ∧ (∀ k, k < q.2.1 → parseFieldDescriptor (T k).2.2.1 = some (ty k))
  ∧ Cond.classLink (CN o) idx (CN q.1) ∈ Tb ∧ Cond.instantiable (CN q.1) q.2.1 ∈ Tb ∧ Cond.initialized (CN q.1) ∈ Tb ∧ (∀ j, j < q.2.1 → defaultValue (ty j) = vp_V fs j) ∧ ∀ (ρ : Nat → Int32) (b : Nat) (ad : List Nat), eRs ρ b ad q.2.2 fs
def eAOK (NA : Nat → Nat → Option Nat) : Prop := ∀ (o idx q : Nat), NA o idx = some q → ∃ r : vw_C, cl[q]? = some r ∧ Cond.classLink (CN o) idx r.1 ∈ Tb ∧ ∀ s : State, NF s → va_AO r.1 s
def eKOK (KI : Nat → Nat → Option Nat) : Prop := ∀ (o idx n : Nat), KI o idx = some n → Cond.constant (CN o) idx (Int32.ofNat n) ∈ Tb
def eJOK (KL : Nat → Nat → Option Nat) : Prop := ∀ (o idx n : Nat), KL o idx = some n → ∃ v : Int64, Cond.constantLong (CN o) idx v ∈ Tb
def eJOKx (KL : Nat → Nat → Option Nat) : Prop := ∀ (o idx n : Nat), KL o idx = some n → ∃ v : Int64, Cond.constantLong (CN o) idx v ∈ Tb ∧ (¬ n = 0 → v = Int64.ofNat n)
def eACk : Prop := Cond.arrayClass .int ∈ Tb ∧ Cond.arrayClass .byte ∈ Tb ∧ Cond.arrayClass .boolean ∈ Tb ∧ Cond.arrayClass .long ∈ Tb
end ED3
theorem efit_ok {ρ : Nat → Int32} {b : Nat} {ad : List Nat} {t : Nat} {ty : FieldType} {v : eV} {x : Value} (h : efit t v = true) (hk : eFk (t % 10) ty) (hr : eRl ρ b ad v x) : narrow ty x = x ∧ fits ty x = true := by
  generalize hu : t % 10 = u at hk
  rcases v with n | j | o | n
  · have hr : x = .int (Int32.ofNat n) := hr
    subst hr
    have h : (Nat.beq (t % 10) 0 || (Nat.beq (t % 10) 1 && Nat.ble n 1)) = true := h
    rw [hu, Bool.or_eq_true, Bool.and_eq_true] at h
    rcases h with h | ⟨h1, h2⟩
    · have := Nat.eq_of_beq_eq_true h
      rcases hk with ⟨-, rfl⟩ | ⟨h2, -⟩ | ⟨h2, -⟩ | ⟨h2, -⟩
      · exact ⟨rfl, rfl⟩
      all_goals omega
    · have := Nat.eq_of_beq_eq_true h1
      have h3 := Nat.le_of_ble_eq_true h2
      rcases hk with ⟨h2, -⟩ | ⟨-, rfl⟩ | ⟨h2, -⟩ | ⟨h2, -⟩
      · omega
      · rcases (show n = 0 ∨ n = 1 by omega) with rfl | rfl
        · exact ⟨rfl, rfl⟩
        · exact ⟨rfl, rfl⟩
      all_goals omega
  · have hr : x = .int (ρ j) := hr
    subst hr
    have h : Nat.beq (t % 10) 0 = true := h
    rw [hu] at h
    have := Nat.eq_of_beq_eq_true h
    rcases hk with ⟨-, rfl⟩ | ⟨h2, -⟩ | ⟨h2, -⟩ | ⟨h2, -⟩
    · exact ⟨rfl, rfl⟩
    all_goals omega
  · obtain ⟨a, -, rfl⟩ := hr
    have h : Nat.beq (t % 10) 2 = true := h
    rw [hu] at h
    have := Nat.eq_of_beq_eq_true h
    rcases hk with ⟨h2, -⟩ | ⟨h2, -⟩ | ⟨-, ⟨n, rfl⟩ | ⟨u, rfl⟩⟩ | ⟨h2, -⟩
    · omega
    · omega
    · exact ⟨rfl, rfl⟩
    · exact ⟨rfl, rfl⟩
    · omega
  · match n, h, hr with
    | 0, h, ⟨z, hz⟩ =>
      subst hz
      have h : Nat.beq (t % 10) 0 = true := h
      rw [hu] at h
      have := Nat.eq_of_beq_eq_true h
      rcases hk with ⟨-, rfl⟩ | ⟨h2, -⟩ | ⟨h2, -⟩ | ⟨h2, -⟩
      · exact ⟨rfl, rfl⟩
      all_goals omega
    | 1, h, hr =>
      have hr : x = .null := hr
      subst hr
      have h : Nat.beq (t % 10) 2 = true := h
      rw [hu] at h
      have := Nat.eq_of_beq_eq_true h
      rcases hk with ⟨h2, -⟩ | ⟨h2, -⟩ | ⟨-, ⟨n, rfl⟩ | ⟨u, rfl⟩⟩ | ⟨h2, -⟩
      · omega
      · omega
      · exact ⟨rfl, rfl⟩
      · exact ⟨rfl, rfl⟩
      · omega
    | 2, h, ⟨z, hz⟩ =>
      subst hz
      have h : Nat.beq (t % 10) 3 = true := h
      rw [hu] at h
      have := Nat.eq_of_beq_eq_true h
      rcases hk with ⟨h2, -⟩ | ⟨h2, -⟩ | ⟨h2, -⟩ | ⟨-, rfl⟩
      · omega
      · omega
      · omega
      · exact ⟨rfl, rfl⟩
    | _ + 3, h, _ => cases h
section ES3
variable {ρ : Nat → Int32} {b base : Nat} {D : va_G} {cl : List vw_C} {Tb : List Cond} {NF : State → Prop} {l : Launch} {CN : Nat → String}
theorem s_ldc {KI : Nat → Nat → Option Nat} (hK : eKOK Tb CN KI) {idx len : Nat} {i : Instr} (hi : (i = .ldc idx ∧ len = 2) ∨ (i = .ldc_w idx ∧ len = 3)) : eStp ρ b base D cl Tb NF l CN (hLdc KI len idx) i len := by
  intro ih IH mi pc cd ls st hp nx ce sl cs k h p e R s m args below meth c Q cc nL ad0 X hR H locs ws tys lsA lv stA hd hcd hs hw had hl hls hst
  unfold hLdc at h
  cases hv : KI mi.1 idx with
  | none => rw [hv] at h; cases h
  | some n =>
    rw [hv] at h
    have hst2 : eRs ρ b (ead ws) (.inl n :: st) (.int (Int32.ofNat n) :: stA) := ⟨rfl, hst⟩
    have hc := X.2.2.2.2.1 _ (hK _ _ _ hv)
    rcases hi with ⟨rfl, rfl⟩ | ⟨rfl, rfl⟩
    · exact lv_ldc X.1 X.2.1 X.2.2.2.1 hc hd.1 (eNx IH h X hR hcd hs hw had hl hls hst2)
    · exact lv_ldcw X.1 X.2.1 X.2.2.2.1 hc hd.1 (eNx IH h X hR hcd hs hw had hl hls hst2)
theorem s_get {FL : eFL} (hF : eFOK cl Tb CN FL) {idx : Nat} : eStp ρ b base D cl Tb NF l CN (hGet FL idx) (.getfield idx) 3 := by
  intro ih IH mi pc cd ls st hp nx ce sl cs k h p e R s m args below meth c Q cc nL ad0 X hR H locs ws tys lsA lv stA hd hcd hs hw had hl hls hst
  unfold hGet at h
  split at h
  · rename_i o r
    obtain ⟨xA, t, rfl, ⟨a, ha, rfl⟩, hst1⟩ := eRs_cons hst
    split at h
    · rename_i q hq
      split at h
      · rename_i ob hob
        obtain ⟨h1, h⟩ := e_cond h e_ff
        have h1 := Nat.eq_of_beq_eq_true h1
        rw [eg_eq] at h
        split at h
        · rename_i v hv
          obtain ⟨ee, he, fs, rfl, hfs⟩ := eMt_at hw.2.2.2.2 ha hob
          obtain ⟨x, hx1, hx2⟩ := eRs_get hfs hv
          obtain ⟨T, N, ty, f1, f2, f3, f4, f5, f6, f7, f8, f9⟩ := hF _ _ _ hq
          have hst2 : eRs ρ b (ead ws) (v :: r) (x :: t) := ⟨hx2, hst1⟩
          exact va_get X.1 X.2.1 X.2.2.2.2.1 f2 X.2.2.2.1 hw.1 hw.2.1 o he (by rw [h1]; exact f1) q.2.1 f5 (X.2.2.2.2.1 _ f6) (fun _ z => z) hx1 hd.1 (eNx IH h X hR hcd hs hw had hl hls hst2)
        · cases h
      · cases h
    · cases h
  · cases h
theorem s_put {FL : eFL} (hF : eFOK cl Tb CN FL) {idx : Nat} : eStp ρ b base D cl Tb NF l CN (hPut FL idx) (.putfield idx) 3 := by
  intro ih IH mi pc cd ls st hp nx ce sl cs k h p e R s m args below meth c Q cc nL ad0 X hR H locs ws tys lsA lv stA hd hcd hs hw had hl hls hst
  unfold hPut at h
  split at h
  · rename_i v o r
    obtain ⟨vA, t0, rfl, hv, hst0⟩ := eRs_cons hst
    obtain ⟨xA, t, rfl, ⟨a, ha, rfl⟩, hst1⟩ := eRs_cons hst0
    split at h
    · rename_i q hq
      split at h
      · rename_i ob hob
        obtain ⟨h1, h⟩ := e_cond h e_ff
        rw [Bool.and_eq_true, Bool.and_eq_true, Bool.and_eq_true] at h1
        obtain ⟨h1, h2, h3, h20⟩ := h1
        have h1 := Nat.eq_of_beq_eq_true h1
        rw [eg_eq] at h
        split at h
        · rename_i v0 hv0
          rw [es_eq] at h
          obtain ⟨hp2, h4, h5⟩ := hs_ok h
          obtain ⟨ee, he, fs, rfl, hfs⟩ := eMt_at hw.2.2.2.2 ha hob
          obtain ⟨T, N, ty, f1, f2, f3, f4, f5, f6, f7, f8, f9⟩ := hF _ _ _ hq
          obtain ⟨g1, g2⟩ := efit_ok h2 f9 hv
          have hlen : q.2.1 < fs.length := by
            rw [← eRs_len hfs]
            exact (List.getElem?_eq_some_iff.mp hv0).1
          have fin : ∀ (H1 : Heap) (locs1 : List Loc), va_P D cl (ws.set o (a, .inr (ob.1, fs.set q.2.1 vA))) H1 → va_D (fun q => base ≤ q) (ws.set o (a, .inr (ob.1, fs.set q.2.1 vA))) → va_S (fun q => base ≤ q) s.heap H1 locs1 → W p l e R s m args below meth c H1 locs1 ce sl Q (F0 m (pc + 3) lsA t) := by
            intro H1 locs1 q1 q2 q3
            have hm : eMt ρ b cl hp2 nx (ws.set o (a, .inr (ob.1, fs.set q.2.1 vA))) tys := eMt_set hw.2.2.2.2 he h5 ⟨_, rfl, eRs_set hv hfs⟩
            exact eNx IH h4 X hR hcd hs ⟨hw.1, q1, q2, q3, hm⟩ (by rw [ead_set he]; exact had) hl (by rw [ead_set he]; exact hls) (by rw [ead_set he]; exact hst1)
          cases hfin : Nat.ble 10 q.2.2 with
          | false => exact va_put (ty := ty q.2.1) X.1 X.2.1 X.2.2.2.2.1 f2 ty f3 f4 X.2.2.2.1 hw.1 hw.2.1 hw.2.2.1 hw.2.2.2.1 o he (by rw [h1]; exact f1) q.2.1 f5 (X.2.2.2.2.1 _ f6) (fun _ z => z) (by rw [f7, hfin]) (f3 _ f5) g1 g2 hlen hd.1 fin
          | true =>
            have h10 : mi.2.2.2.2.2.1 = 10 := by
              rw [Bool.or_eq_true] at h3
              rcases h3 with h3 | h3
              · have a1 := Nat.le_of_ble_eq_true h3
                have a2 := Nat.le_of_ble_eq_true hfin
                omega
              · exact Nat.eq_of_beq_eq_true h3
            exact va_putF (ty := ty q.2.1) X.1 X.2.1 X.2.2.2.2.1 f2 ty f3 f4 X.2.2.2.1 hw.1 hw.2.1 hw.2.2.1 hw.2.2.2.1 o he (by rw [h1]; exact f1) q.2.1 f5 (X.2.2.2.2.1 _ f6) (fun _ z => z) (by rw [f7, hfin]) (X.2.2.2.2.2.2.2.2.2.1 h10) (f8 hfin h20) (f3 _ f5) g1 g2 hlen hd.1 fin
        · cases h
      · cases h
    · cases h
  · cases h
theorem e_hA {p : Program} {R : Room} {s : State} {m : MethodId} {args : Array Value} {meth : Method} {c : Code} {mi : eM} {cc : ByteArray} {nL : Nat} (X : eCx ρ b base Tb NF CN p R s m args meth c mi cc nL) : ∀ q : Nat, s.heap.size ≤ q → base ≤ q := fun _ h => Nat.le_trans X.2.2.2.2.2.2.1 h
theorem s_new {NW : Nat → Nat → Option (Nat × Nat × List eV)} (hN : eNOK cl Tb CN NW) {idx : Nat} : eStp ρ b base D cl Tb NF l CN (hNew NW idx) (.new idx) 3 := by
  intro ih IH mi pc cd ls st hp nx ce sl cs k h p e R s m args below meth c Q cc nL ad0 X hR H locs ws tys lsA lv stA hd hcd hs hw had hl hls hst
  unfold hNew at h
  split at h
  · rename_i q hq
    obtain ⟨h1, h⟩ := e_cond h e_ff
    rw [Bool.and_eq_true] at h1
    have a1 := Nat.le_of_ble_eq_true h1.1
    have a2 := Nat.le_of_ble_eq_true h1.2
    obtain ⟨hp2, h4, h5⟩ := hs_ok h
    rw [ef_eq, ef_eq, ef_eq] at h4
    obtain ⟨T, ty, fs, f1, f2, f3, f4, f5, f6, f7, f8⟩ := hN _ _ _ hq
    have hRc := X.2.2.2.2.2.2.2.1
    refine va_new (fs := fs) X.1 X.2.1 X.2.2.2.2.1 f2 ty f3 X.2.2.2.1 (X.2.2.2.2.1 _ f4) (X.2.2.2.2.1 _ f5) (X.2.2.2.2.1 _ f6) hw.1 hw.2.1 hw.2.2.1 hw.2.2.2.1 (e_hA X) f1 f7 (by rw [hRc.1]; exact a1) (by rw [hRc.2.1]; exact a2) hd.1 (fun qa H1 q1 q2 q3 => ?_)
    have hm : eMt ρ b cl hp2 (nx + 1) (ws ++ [(qa, .inr (q.1, fs))]) tys := eMt_push hw.2.2.2.2 (fun _ _ z => z) h5 ⟨_, rfl, f8 ρ b _⟩
    have hst2 : eRs ρ b (ead (ws ++ [(qa, .inr (q.1, fs))])) (.inr (.inr (.inl nx)) :: st) (.ref qa :: stA) := ⟨⟨qa, ead_at.mpr ⟨_, by rw [← hw.2.2.2.2.1, List.getElem?_append_right (Nat.le_refl _), Nat.sub_self]; rfl⟩, rfl⟩, eRs_more (fun _ _ z => ead_app z) hst⟩
    exact eNx IH h4 X hR hcd hs ⟨hw.1, q1, q2, q3, hm⟩ (fun o a z => ead_app (had o a z)) hl (eLs_more (fun _ _ z => ead_app z) hls) hst2
  · cases h
end ES3
