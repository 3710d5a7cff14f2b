/-! THE WORLD AHEAD OF THE LOOP, checked: each of the 195 things is as its sort has it. -/
noncomputable section
def bso (o t : Nat) : Bool := match eg zso0 o with
  | some u => Nat.beq u t
  | none => false
/-- may the value stand where the sort's row has f -/
def bkv (f : aF) (v : eV) : Bool := match f with
  | .inl q => (match v with
    | .inl n => ile q.1 (esg n) && ile (esg n) q.2
    | _ => false)
  | .inr (.inl t) => (match v with
    | .inr (.inr (.inl o)) => bso o t
    | _ => false)
  | .inr (.inr _) => (match v with
    | .inr (.inr (.inr 2)) => true
    | _ => false)
def bkf : List aF → List eV → Bool
  | [], [] => true
  | f :: fs, v :: vs => bkv f v && bkf fs vs
  | _, _ => false
def bkc (f : Nat → Option aF) (ch : List (List eV)) (j : Nat) : Bool := match f j with
  | some q => (match tg 32 ch j with
    | some v => bkv q v
    | none => false)
  | none => false
def bkrg (rg : List (Nat × Int × Int)) (j : Nat) : Option aF := match rgAt rg j with
  | some w => some (.inl w)
  | none => none
def bka (ob : Nat × Nat × List (Nat × Int × Int) × Nat) (y : Nat × Nat × List (List eV)) : Bool := Nat.beq y.2.1 ob.2.1 &&
  ((Nat.blt ob.1 3 && (Nat.beq y.1 ob.1 && (List.range ob.2.1).all (bkc (bkrg ob.2.2.1) y.2.2)))
  || (Nat.beq ob.1 4 && (Nat.ble 3 y.1 && (List.range ob.2.1).all (bkc (fun _ => some (.inr (.inl ob.2.2.2))) y.2.2))))
def bkx (t : Nat) (x : eO) : Bool := match gST t with
  | some (.inl ob) => (match x with
    | .inl y => Nat.beq y.1 ob.1 && bkf ob.2 y.2
    | _ => false)
  | some (.inr ob) => (match x with
    | .inr (.inl y) => bka ob y
    | .inr (.inr n) => Nat.beq ob.1 3 && Nat.beq n ob.2.1
    | _ => false)
  | none => false
/-- an array's cell is 0 -/
def bk0 (x : eO) (i : Nat) : Bool := match x with
  | .inr (.inl y) => Nat.blt i y.2.1 && (match tg 32 y.2.2 i with
    | some (.inl n) => Nat.beq n 0
    | _ => false)
  | _ => false
def bky (t : Nat) (x : eO) : Bool := (bif Nat.beq t 52 then bk0 x 221 else true) && (bif Nat.beq t 74 then bk0 x 221 && bk0 x 623 else true)
def bkt (hp : eH) (o : Nat) : Bool := match eg zso0 o with
  | some t => (match hg hp o with
    | some x => bkx t x && bky t x
    | none => false)
  | none => false
/-- an object's field is 0 -/
def bkz (hp : eH) (o i : Nat) : Bool := match hg hp o with
  | some (.inl y) => (match eg y.2 i with
    | some (.inl n) => Nat.beq n 0
    | _ => false)
  | _ => false
/-- no image is kept -/
def bkz2 (hp : eH) : Bool := match hg hp 193 with
  | some x => bk0 x 0 && bk0 x 1
  | none => false
def bkw (hp : eH) (nx : Nat) : Bool := Nat.beq nx 195 && ((List.range 195).all (bkt hp) && (gJ1.all (fun J => (List.range 195).all fun o => bif bso o J.1 then bkz hp o J.2.1 else true) && (bkz hp 1 1 && (bkz hp 167 2 && (bkz hp 0 16 && bkz2 hp)))))
end
theorem zso0_len : zso0.length = 195 := by decide +kernel
section BKW
variable {ρ : Nat → Int32} {b : Nat} {ad : List Nat}
theorem bso_iff {o t : Nat} (h : bso o t = true) : zso0[o]? = some t := by
  unfold bso at h
  rw [eg_eq] at h
  cases hq : zso0[o]? with
  | none => rw [hq] at h; cases h
  | some u =>
    rw [hq] at h
    rw [Nat.eq_of_beq_eq_true h]
theorem bso_of {o t : Nat} (h : zso0[o]? = some t) : bso o t = true := by
  unfold bso
  rw [eg_eq, h]
  exact Nat.beq_refl t
theorem bkv_ok {f : aF} {v : eV} {x : Value} (h : bkv f v = true) (hr : eRl ρ b ad v x) : vOk zso0 ad f x := by
  unfold bkv at h
  split at h
  · rename_i q
    split at h
    · rename_i n
      rw [Bool.and_eq_true, ile_iff, ile_iff] at h
      have hr : x = .int (Int32.ofNat n) := hr
      refine ⟨_, hr, ?_⟩
      rw [e_sg]
      exact h
    · cases h
  · rename_i t
    split at h
    · rename_i o
      obtain ⟨a, h1, h2⟩ := hr
      exact ⟨o, a, bso_iff h, h1, h2⟩
    · cases h
  · split at h
    · exact hr
    · cases h
theorem bkf_ok : ∀ {fs : List aF} {vs : List eV}, bkf fs vs = true → vs.length = fs.length ∧ ∀ (i : Nat) (f : aF) (v : eV), fs[i]? = some f → vs[i]? = some v → bkv f v = true
  | [], [], _ => ⟨rfl, fun i f v h => by simp at h⟩
  | f0 :: fs, v0 :: vs, h => by
    have h : (bkv f0 v0 && bkf fs vs) = true := h
    rw [Bool.and_eq_true] at h
    obtain ⟨h1, h2⟩ := bkf_ok h.2
    refine ⟨by rw [List.length_cons, List.length_cons, h1], fun i f v hf hv => ?_⟩
    cases i with
    | zero =>
      rw [List.getElem?_cons_zero] at hf hv
      cases hf
      cases hv
      exact h.1
    | succ i =>
      rw [List.getElem?_cons_succ] at hf hv
      exact h2 i f v hf hv
  | [], _ :: _, h => absurd (show false = true from h) Bool.false_ne_true
  | _ :: _, [], h => absurd (show false = true from h) Bool.false_ne_true
theorem bkc_ok {f : Nat → Option aF} {ch : List (List eV)} {j : Nat} (h : bkc f ch j = true) : ∃ q v, f j = some q ∧ tg 32 ch j = some v ∧ bkv q v = true := by
  unfold bkc at h
  split at h
  · rename_i q hq
    split at h
    · rename_i v hv
      exact ⟨q, v, hq, hv, h⟩
    · cases h
  · cases h
theorem bkx_ok {t : Nat} {x : eO} {e : va_E} {tys : List (ClassId × FieldType)} (h : bkx t x = true) (hx : eOb ρ b vwCl ad tys x e) : eOk zso0 ad tys gST t e := by
  unfold bkx at h
  unfold eOk
  split at h
  · rename_i ob hob
    rw [hob]
    dsimp only
    split at h
    · rename_i y
      rw [Bool.and_eq_true] at h
      obtain ⟨h1, h2⟩ := h
      obtain ⟨fs, he, hfs⟩ := hx
      obtain ⟨k1, k2⟩ := bkf_ok h2
      refine ⟨fs, by rw [he, Nat.eq_of_beq_eq_true h1], by rw [← eRs_len hfs]; exact k1, fun i f x hf hx => ?_⟩
      have hl : i < ob.2.length := (List.getElem?_eq_some_iff.mp hf).1
      have hv : y.2[i]? = some (y.2[i]'(by rw [k1]; exact hl)) := List.getElem?_eq_getElem _
      obtain ⟨x2, hx2, hr⟩ := eRs_get hfs hv
      rw [hx] at hx2
      cases hx2
      exact bkv_ok (k2 i f _ hf hv) hr
    · cases h
  · rename_i ob hob
    rw [hob]
    dsimp only
    split at h
    · rename_i y
      unfold bka at h
      rw [Bool.and_eq_true, Bool.or_eq_true] at h
      obtain ⟨hn, h⟩ := h
      have hn := Nat.eq_of_beq_eq_true hn
      rcases h with h | h
      · rw [Bool.and_eq_true, Bool.and_eq_true] at h
        obtain ⟨h1, h2, h3⟩ := h
        have h1 : ob.1 < 3 := Nat.le_of_ble_eq_true h1
        have h2 := Nat.eq_of_beq_eq_true h2
        rcases hx with ⟨-, cA, f, t0, he, ht, hc⟩ | ⟨ci, r, cA, f, t0, hk, -⟩
        · refine Or.inl ⟨h1, cA, f, t0, by rw [he, hn], by rw [← h2]; exact ht, fun j hj => ?_⟩
          obtain ⟨q, v, g1, g2, g3⟩ := bkc_ok (List.all_eq_true.mp h3 j (List.mem_range.mpr hj))
          obtain ⟨v2, g4, g5⟩ := hc j (by rw [hn]; exact hj)
          rw [g2] at g4
          cases g4
          unfold bkrg at g1
          split at g1
          · rename_i w hw
            cases g1
            obtain ⟨z, z1, z2⟩ := bkv_ok g3 g5
            cases z1
            exact ⟨w, hw, z2⟩
          · cases g1
        · omega
      · rw [Bool.and_eq_true, Bool.and_eq_true] at h
        obtain ⟨h1, h2, h3⟩ := h
        have h1 := Nat.eq_of_beq_eq_true h1
        have h2 := Nat.le_of_ble_eq_true h2
        rcases hx with ⟨hk, -⟩ | ⟨ci, r, cA, f, t0, -, -, he, ht, hc⟩
        · omega
        · refine Or.inr (Or.inr ⟨h1, cA, r.1, f, t0, by rw [he, hn], ht, fun j hj => ?_⟩)
          obtain ⟨q, v, g1, g2, g3⟩ := bkc_ok (List.all_eq_true.mp h3 j (List.mem_range.mpr hj))
          obtain ⟨v2, g4, g5⟩ := hc j (by rw [hn]; exact hj)
          rw [g2] at g4
          cases g4
          cases g1
          obtain ⟨o, a, z1, z2, z3⟩ := bkv_ok g3 g5
          refine ⟨o, a, z1, z2, ?_⟩
          cases hf : f j with
          | none => rw [hf] at z3; cases z3
          | some a2 =>
            rw [hf] at z3
            cases z3
            rfl
    · rename_i n
      rw [Bool.and_eq_true] at h
      obtain ⟨cA, f, t0, he, ht⟩ := hx
      exact Or.inr (Or.inl ⟨Nat.eq_of_beq_eq_true h.1, cA, f, t0, by rw [he, Nat.eq_of_beq_eq_true h.2], ht⟩)
    · cases h
  · cases h
theorem bk0_ok {x : eO} {i : Nat} {e : va_E} {tys : List (ClassId × FieldType)} (h : bk0 x i = true) (hx : eOb ρ b vwCl ad tys x e) {cA : ClassId} {n : Nat} {f : Nat → Int32} (he : e = .inl (cA, n, .inl f)) : (f i).toInt ≤ 0 := by
  unfold bk0 at h
  split at h
  · rename_i y
    rw [Bool.and_eq_true] at h
    obtain ⟨h1, h⟩ := h
    have h1 : i < y.2.1 := Nat.le_of_ble_eq_true h1
    split at h
    · rename_i n0 hv
      have h0 := Nat.eq_of_beq_eq_true h
      subst h0
      rcases hx with ⟨-, cB, g, t0, he2, ht, hc⟩ | ⟨ci, r, cB, g, t0, -, -, he2, -⟩
      · rw [he] at he2
        cases he2
        obtain ⟨v2, g4, g5⟩ := hc i h1
        rw [hv] at g4
        cases g4
        have g5 : Value.int (f i) = .int (Int32.ofNat 0) := g5
        injection g5 with g5
        rw [g5]
        decide
      · rw [he] at he2
        cases he2
    · cases h
  · cases h
theorem bk0_cell {x : eO} {i : Nat} {e : va_E} {tys : List (ClassId × FieldType)} (h : bk0 x i = true) (hx : eOb ρ b vwCl ad tys x e) : ∃ y : Int32, gcl e i = some (.int y) ∧ y.toInt = 0 := by
  unfold bk0 at h
  split at h
  · rename_i y
    rw [Bool.and_eq_true] at h
    obtain ⟨h1, h⟩ := h
    have h1 : i < y.2.1 := Nat.le_of_ble_eq_true h1
    split at h
    · rename_i n0 hv
      have h0 := Nat.eq_of_beq_eq_true h
      subst h0
      rcases hx with ⟨-, cB, g, t0, he2, ht, hc⟩ | ⟨ci, r, cB, g, t0, -, -, he2, -, hc⟩
      · obtain ⟨v2, g4, g5⟩ := hc i h1
        rw [hv] at g4
        cases g4
        have g5 : Value.int (g i) = .int (Int32.ofNat 0) := g5
        injection g5 with g5
        refine ⟨g i, ?_, by rw [g5]; decide⟩
        rw [he2]
        exact if_pos h1
      · obtain ⟨v2, g4, g5⟩ := hc i h1
        rw [hv] at g4
        cases g4
        have g5 : va_rf (g i) = .int (Int32.ofNat 0) := g5
        cases hg : g i with
        | none => rw [hg] at g5; cases g5
        | some a => rw [hg] at g5; cases g5
    · cases h
  · cases h
theorem bky_ok {t : Nat} {x : eO} {e : va_E} {tys : List (ClassId × FieldType)} (h : bky t x = true) (hx : eOb ρ b vwCl ad tys x e) : xE t e := by
  unfold bky at h
  rw [Bool.and_eq_true] at h
  obtain ⟨h1, h2⟩ := h
  intro cA n f he
  constructor
  · rintro rfl
    have h1 : bk0 x 221 = true := h1
    exact xVP_0 (bk0_ok h1 hx he)
  · rintro rfl
    have h2 : (bk0 x 221 && bk0 x 623) = true := h2
    rw [Bool.and_eq_true] at h2
    exact ⟨xVP_0 (bk0_ok h2.1 hx he), xVP_0 (bk0_ok h2.2 hx he)⟩
theorem bkz_ok {hp : eH} {nx o i : Nat} {ws : va_W} {tys : List (ClassId × FieldType)} (h : bkz hp o i = true) (hm : eMt ρ b vwCl hp nx ws tys) (hl : o < ws.length) : gcv ws o i = some (.int 0) := by
  obtain ⟨x, hx, ho⟩ := hm.2 o _ (List.getElem?_eq_getElem hl)
  unfold bkz at h
  rw [hx] at h
  unfold gcv
  rw [List.getElem?_eq_getElem hl]
  dsimp only
  split at h
  · rename_i y hy
    cases hy
    obtain ⟨fs, he, hfs⟩ := ho
    rw [he]
    show fs[i]? = _
    rw [eg_eq] at h
    split at h
    · rename_i n hn
      have h0 := Nat.eq_of_beq_eq_true h
      subst h0
      obtain ⟨v, hv, hr⟩ := eRs_get hfs hn
      have hr : v = .int (Int32.ofNat 0) := hr
      rw [hv, hr]
      rfl
    · cases h
  · cases h
theorem bk_world {base LS : Nat} {xs : Nat → Int32} {D : va_G} {l : Launch} {hp : eH} {nx : Nat} {ws : va_W} {tys : List (ClassId × FieldType)} (h : bkw hp nx = true) (hm : eMt ρ b vwCl hp nx ws tys) : zWl (zE1 b base LS xs D tys l zso0 (ead ws)) 167 1 0 ws := by
  unfold bkw at h
  simp only [Bool.and_eq_true] at h
  obtain ⟨h0, h1, h2, h3, h4, h5, h6⟩ := h
  have h0 := Nat.eq_of_beq_eq_true h0
  have hlen : ws.length = 195 := hm.1.trans h0
  have hlo : ∀ {o t : Nat}, zso0[o]? = some t → o < 195 := fun ho => by
    have := (List.getElem?_eq_some_iff.mp ho).1
    rw [zso0_len] at this
    exact this
  refine ⟨⟨rfl, ?_, fun o t q hq ho => ?_⟩, ⟨fun J hJ o y ho hy i hi => ?_, ?_⟩, bkz_ok h3 hm (by omega), bkz_ok h4 hm (by omega)⟩
  · show zso0.length = (ead ws).length
    unfold ead
    rw [zso0_len, List.length_map, hlen]
  · have h5 := List.all_eq_true.mp h1 o (List.mem_range.mpr (hlo ho))
    obtain ⟨x, hx, hob⟩ := hm.2 o q hq
    have ho : zso0[o]? = some t := ho
    unfold bkt at h5
    rw [eg_eq, ho, hx] at h5
    have h5 : (bkx t x && bky t x) = true := h5
    rw [Bool.and_eq_true] at h5
    exact ⟨bkx_ok h5.1 hob, bky_ok h5.2 hob⟩
  · exfalso
    have h5 := List.all_eq_true.mp (List.all_eq_true.mp h2 J hJ) o (List.mem_range.mpr (hlo ho))
    rw [bso_of ho, cond_true] at h5
    have h6 := bkz_ok h5 hm (by rw [hlen]; exact hlo ho)
    rw [hy] at h6
    cases h6
    have c0 : (0 : Int32).toInt = 0 := rfl
    rw [c0] at hi
    omega
  · have hl : 193 < ws.length := by omega
    obtain ⟨x, hx, hob⟩ := hm.2 193 _ (List.getElem?_eq_getElem hl)
    have h7 : (bk0 x 0 && bk0 x 1) = true := by
      unfold bkz2 at h6
      rw [hx] at h6
      exact h6
    rw [Bool.and_eq_true] at h7
    obtain ⟨y0, k0, e0⟩ := bk0_cell h7.1 hob
    obtain ⟨y1, k1, e1⟩ := bk0_cell h7.2 hob
    refine ⟨0, 193, 0, y0, y1, ⟨(show zso0[0]? = some 11 from by decide +kernel), fun o ho => so_two (t := 11) (by decide +kernel) ho (show zso0[0]? = some 11 from by decide +kernel)⟩, (show zso0[193]? = some 76 from by decide +kernel), bkz_ok h5 hm (by omega), ?_, ?_, Or.inl ⟨rfl, e0, e1⟩⟩
    · unfold gcv
      rw [List.getElem?_eq_getElem hl]
      exact k0
    · unfold gcv
      rw [List.getElem?_eq_getElem hl]
      exact k1
end BKW
