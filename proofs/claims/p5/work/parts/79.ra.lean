/-! THE CLASS'S room, checked: its gate, what lies behind it; the rest of the law's own room -/
noncomputable section
def gy_157 : eM := (11, 1, 6, 20, 300, 1, ga_157)
def gy_298 : eM := (13, 1, 6, 21, 330, 1, ga_298)
def gc_141_a : aCon := ([.inr (.inl 11), .inl (.negSucc 2147483647, .negSucc 0)], [], [(some (.inl (.ofNat 0, .ofNat 0)), [])], [])
def gc_141_b : aCon := ([.inr (.inl 11), .inl (.ofNat 12, .ofNat 2147483647)], [], [(some (.inl (.ofNat 0, .ofNat 0)), [])], [])
def gc_141_c : aCon := ([.inr (.inl 11), .inl (.ofNat 0, .ofNat 11)], [], [(some (.inl (.ofNat 0, .ofNat 1)), [])], [])
def gc_157_m : aCon := ([.inr (.inl 11), .inl (.ofNat 0, .ofNat 11), .inl (.ofNat 0, .ofNat 4)], [], [(some (.inl (.negSucc 2147483647, .ofNat 2147483647)), [])], [])
def gc_298_s : aCon := ([.inl (.negSucc 2147483647, .ofNat 2147483647), .inl (.ofNat 0, .ofNat 0), .inr (.inl 77)], [], [(some (.inl (.ofNat 0, .ofNat 0)), [])], [(77, 0, 1)])
/-- from a place on, with things upon the stack -/
def accks (FL CL : eFL) (MT : Nat → Option (eM × Nat)) (XT : Nat → aXt) (KI KL : Nat → Nat → Option Nat) (ST : Nat → Option aS) (CT : Nat → List aCon) (JL : List aJ) (n : Nat) (mi : eM) (xt : aXt) (c : aCon) (pc : Nat) (cd : List eI) : Bool := ainit c.1 aA0 (fun vs A => aold ST vs c.2.1 A [] (fun os A => aRun FL CL MT XT KI KL ST CT JL c.2.2.2 n mi xt pc cd [] vs A 0 0 [] (fun ret A => acen os ret A c.2.2.1)))
end
section ZMS
variable {b base LS : Nat} {xs : Nat → Int32} {D : va_G} {cl : List vw_C} {tys : List (ClassId × FieldType)} {Tb : List Cond} {NF : State → Prop} {l : Launch} {CN : Nat → String} {so ad : List Nat} {ST : Nat → Option aS} {JL : List aJ}
variable {FL CL : eFL} {MT : Nat → Option (eM × Nat)} {XT : Nat → aXt} {KI KL : Nat → Nat → Option Nat} {CT : Nat → List aCon}
theorem c_stk (V : aVal b base LS xs D cl tys Tb NF l CN so ad ST JL FL CL MT KI KL CT) {n : Nat} {q : eM × Nat} {xt : aXt} {c : aCon} {pc : Nat} {cd : List eI} (hcd : ej q.1.2.2.2.2.2.2 pc = some cd) (h0 : ∀ al ∈ c.2.2.1, al.2 = []) (hk : ¬ q.1.2.2.2.2.2.1 = 20) (hlen : ∀ t ∈ q.1.2.2.2.2.2.2, elen t.2.1 t.2.2 = true) (h : accks FL CL MT XT KI KL ST CT JL n q.1 xt c pc cd = true) : ∀ (asx : List Value) (ws : va_W) (ce sl : Nat), ce ≤ q.1.2.1 → sl ≤ q.1.2.2.1 → wOk so ad tys ST ws → jOk so JL ws → vsOk so ad c.1 asx → gG b base LS xs D cl tys Tb NF l CN q.1 pc [] asx ws ce sl (cPost tys so ad ST JL c asx ws) := by
  intro asx ws ce sl hce hsl hw hj hv
  have hR0 : aRel b so ad tys ST JL (fun _ => 0) (fun _ => 0) c.2.2.2 ws aA0 ws := by
    refine ⟨⟨Nat.one_pos, rfl, rfl, fun k q hq => ?_⟩, ⟨rfl, fun r t hr => absurd hr (Nat.not_lt_zero _)⟩, ⟨hw, hj, fRel_refl⟩, fun e he => absurd he List.not_mem_nil⟩
    obtain ⟨g1, g2⟩ := acs_lt hq
    have hk0 : k = 0 := by
      have : k < 1 := g1
      omega
    subst hk0
    cases g2
    exact ⟨Int.le_refl _, Int.le_refl _, Nat.one_pos, Int.le_refl _, fun z => absurd rfl z⟩
  obtain ⟨vs, A, ρ, ρr, h, -, hR, hs⟩ := ainit_ok hR0 hv h
  obtain ⟨os, A2, ρ2, ρr2, h, u2, hR2, ho⟩ := aold_ok (Q0 := []) (acc := []) hR hs trivial h
  have hs2 := sRel_up u2.1 u2.2.1 u2.2.2 hs
  have e0 := acp_0 hk
  refine a_sound (XT := XT) (md := c.2.2.2) (ws0 := ws) V n q.1 xt pc _ _ _ A2 0 0 [] _ h _ ce sl ρ2 ρr2 [] asx ws ⟨⟨ej_ok hcd, hlen⟩, ⟨by omega, by omega⟩, fun z => absurd z hk, hR2, fun T hT => absurd hT List.not_mem_nil, ?_⟩ (fun q hq => absurd hq List.not_mem_nil) hs2
  intro ret A3 hk3 ρ3 ρr3 ws3 rv u3 hR3 hrt
  obtain ⟨al, g1, g2, g3⟩ := acen_ok hk3
  obtain ⟨w1, w2, w3⟩ := hR3.2.2.1
  refine ⟨w1, w2, w3, al, g1, ?_, fun f hf => by rw [h0 al g1] at hf; exact absurd hf List.not_mem_nil⟩
  unfold acrt at g2
  unfold rtOk
  cases hal : al.1 with
  | none =>
    rw [hal] at g2
    cases ret with
    | none =>
      cases rv with
      | none => trivial
      | some x => exact absurd hrt id
    | some v => cases g2
  | some f =>
    rw [hal] at g2
    cases ret with
    | none => cases g2
    | some v =>
      cases rv with
      | none => exact absurd hrt id
      | some x => exact afit_ok hR3 g2 hrt
end ZMS
theorem gk_141_a : acck gFL gCL gMT gXT gKI gKL gST (gCA []) gJ1 100000 gm_141 (gXT 141) gc_141_a = true := by decide +kernel
theorem gk_141_b : acck gFL gCL gMT gXT gKI gKL gST (gCA []) gJ1 100000 gm_141 (gXT 141) gc_141_b = true := by decide +kernel
theorem gk_141_c : acck gFL gCL gMT gXT gKI gKL gST (gCA []) gJ1 100000 gm_141 (gXT 141) gc_141_c = true := by decide +kernel
theorem gk_157_m : acckm gFL gCL gMT gXT gKI gKL gST (gCA [(18, [gc_18_0]), (89, [gc_89_0])]) gJ1 100000 gy_157 (gXT 157) gc_157_m 27 (match ej ga_157 27 with
  | some cd => cd
  | none => []) = true := by decide +kernel
theorem gk_298_s : accks gFL gCL gMT gXT gKI gKL gST (gCA []) gJ1 100000 gy_298 (gXT 298) gc_298_s 8 (match ej ga_298 8 with
  | some cd => cd
  | none => []) = true := by decide +kernel
section ZR0
variable {E : zE}
theorem zc_141_a (B : zB E) (A : zA E gJ1) : zH E gJ1 (gm_141, 2) gc_141_a := z_chk B A zP_nil (by decide) (by decide +kernel) gk_141_a
theorem zc_141_b (B : zB E) (A : zA E gJ1) : zH E gJ1 (gm_141, 2) gc_141_b := z_chk B A zP_nil (by decide) (by decide +kernel) gk_141_b
theorem zc_141_c (B : zB E) (A : zA E gJ1) : zH E gJ1 (gm_141, 2) gc_141_c := z_chk B A zP_nil (by decide) (by decide +kernel) gk_141_c
end ZR0
