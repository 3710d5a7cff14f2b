/-! THE REFERENCE'S BOOK: its head as it stands, the rest checked over both books -/
noncomputable section
def md184 : aMd := gc_184_0.2.2.2
def gc_184_m : aCon := (gc_184_0.1, [(0, 42)], gc_184_0.2.2.1, (12, 4, 5) :: gc_184_0.2.2.2.drop 2)
def gc_271_w : aCon := ([.inr (.inl 12)], [], [(none, [])], gc_271_0.2.2.2)
def gx_184m : aXt := [(39, [((0, 0), [(0, .inl 0), (1, .inl 0)], [], [(12, 42, 43)], [(0, 42, .inr (.inl (.ofNat 0, .ofNat 40), none))], some (true, .inr (0, 42)))]), (121, [((0, 0), [(0, .inl 0), (1, .inl 0), (2, .inl 0), (3, .inr (.inl (.negSucc 0, .ofNat 39), none)), (4, .inr (.inl (.ofNat 0, .ofNat 40), none))], [], [(52, 180, 181), (71, 0, 2)], [], some (true, .inl 4))]), (140, [((4, 4), [], [], [], [], none)]), (319, [((2, 0), [], [], [], [], some (true, .inr (0, 22)))])]
def gx_185m : aXt := [(96, [((1, 99), [(0, .inl 0), (1, .inl 0), (2, .inl 0)], [], [(12, 11, 12), (12, 17, 18)], [], none)]), (213, [((1, 216), [(0, .inl 0), (1, .inl 0), (2, .inl 0)], [], [(12, 11, 12), (12, 17, 18)], [], none)]), (223, [((1, 301), [(0, .inl 0), (1, .inl 0), (2, .inl 0)], [.inr (.inl (.negSucc 0, .ofNat 5), none)], [], [], none)]), (320, [((1, 323), [(0, .inl 0), (1, .inl 0), (2, .inl 0), (3, .inl 0)], [], [(12, 11, 12), (12, 17, 18)], [], none)])]
def gXTm : Nat → aXt := fun n => bif Nat.beq n 184 then gx_184m else (bif Nat.beq n 185 then gx_185m else (bif Nat.beq n 230 || (Nat.beq n 228 || Nat.beq n 276) then [] else gXT n))
/-- a contract, checked from a place on -/
def acckm (FL CL : eFL) (MT : Nat → Option (eM × Nat)) (XT : Nat → aXt) (KI KL : Nat → Nat → Option Nat) (ST : Nat → Option aS) (CT : Nat → List aCon) (JL : List aJ) (n : Nat) (mi : eM) (xt : aXt) (c : aCon) (pc : Nat) (cd : List eI) : Bool := ainit c.1 aA0 (fun vs A => aold ST vs c.2.1 A [] (fun os A => aRun FL CL MT XT KI KL ST CT JL c.2.2.2 n mi xt pc cd (aargs vs 0) [] A 0 0 [] (fun ret A => acen os ret A c.2.2.1)))
end
section ZM
variable {b base LS : Nat} {xs : Nat → Int32} {D : va_G} {cl : List vw_C} {tys : List (ClassId × FieldType)} {Tb : List Cond} {NF : State → Prop} {l : Launch} {CN : Nat → String} {so ad : List Nat} {ST : Nat → Option aS} {JL : List aJ}
variable {FL CL : eFL} {MT : Nat → Option (eM × Nat)} {XT : Nat → aXt} {KI KL : Nat → Nat → Option Nat} {CT : Nat → List aCon}
theorem c_mid (V : aVal b base LS xs D cl tys Tb NF l CN so ad ST JL FL CL MT KI KL CT) {n : Nat} {q : eM × Nat} {xt : aXt} {c : aCon} {pc : Nat} {cd : List eI} (hcd : ej q.1.2.2.2.2.2.2 pc = some cd) (h0 : ∀ al ∈ c.2.2.1, al.2 = []) (hk : ¬ q.1.2.2.2.2.2.1 = 20) (hlen : ∀ t ∈ q.1.2.2.2.2.2.2, elen t.2.1 t.2.2 = true) (h : acckm FL CL MT XT KI KL ST CT JL n q.1 xt c pc cd = true) : ∀ (asx : List Value) (ws : va_W), wOk so ad tys ST ws → jOk so JL ws → vsOk so ad c.1 asx → gG b base LS xs D cl tys Tb NF l CN q.1 pc (lv_args 0 asx) [] ws 0 0 (cPost tys so ad ST JL c asx ws) := by
  intro asx ws hw hj hv
  have hR0 : aRel b so ad tys ST JL (fun _ => 0) (fun _ => 0) c.2.2.2 ws aA0 ws := by
    refine ⟨⟨Nat.one_pos, rfl, rfl, fun k q hq => ?_⟩, ⟨rfl, fun r t hr => absurd hr (Nat.not_lt_zero _)⟩, ⟨hw, hj, fRel_refl⟩, fun e he => absurd he List.not_mem_nil⟩
    obtain ⟨g1, g2⟩ := acs_lt hq
    have hk0 : k = 0 := by
      have : k < 1 := g1
      omega
    subst hk0
    cases g2
    exact ⟨Int.le_refl _, Int.le_refl _, Nat.one_pos, Int.le_refl _, fun z => absurd rfl z⟩
  obtain ⟨vs, A, ρ, ρr, h, -, hR, hs⟩ := ainit_ok hR0 hv h
  obtain ⟨os, A2, ρ2, ρr2, h, u2, hR2, ho⟩ := aold_ok (Q0 := []) (acc := []) hR hs trivial h
  have hs2 := sRel_up u2.1 u2.2.1 u2.2.2 hs
  have e0 := acp_0 hk
  refine a_sound (XT := XT) (md := c.2.2.2) (ws0 := ws) V n q.1 xt pc _ _ _ A2 0 0 [] _ h _ 0 0 ρ2 ρr2 _ [] ws ⟨⟨ej_ok hcd, hlen⟩, ⟨by omega, by omega⟩, fun z => absurd z hk, hR2, fun T hT => absurd hT List.not_mem_nil, ?_⟩ (aargs_ok 0 hs2) trivial
  intro ret A3 hk3 ρ3 ρr3 ws3 rv u3 hR3 hrt
  obtain ⟨al, g1, g2, g3⟩ := acen_ok hk3
  obtain ⟨w1, w2, w3⟩ := hR3.2.2.1
  refine ⟨w1, w2, w3, al, g1, ?_, fun f hf => by rw [h0 al g1] at hf; exact absurd hf List.not_mem_nil⟩
  unfold acrt at g2
  unfold rtOk
  cases hal : al.1 with
  | none =>
    rw [hal] at g2
    cases ret with
    | none =>
      cases rv with
      | none => trivial
      | some x => exact absurd hrt id
    | some v => cases g2
  | some f =>
    rw [hal] at g2
    cases ret with
    | none => cases g2
    | some v =>
      cases rv with
      | none => exact absurd hrt id
      | some x => exact afit_ok hR3 g2 hrt
end ZM
section Z11
variable {E : zE} {md : aMd} {w : va_W} {σ : vS} {K : vK}
theorem z_mid (B : zB E) {mi : eM} {pc : Nat} {c : aCon} (h0 : ∀ al ∈ c.2.2.1, al.2 = []) (hc : ∀ (asx : List Value) (ws : va_W), wOk (zso E) (zad E) E.2.2.2.2.2.2.1 gST ws → jOk (zso E) gjl ws → vsOk (zso E) (zad E) c.1 asx → gG E.1 E.2.1 E.2.2.1 E.2.2.2.1 E.2.2.2.2.1 E.2.2.2.2.2.1 E.2.2.2.2.2.2.1 E.2.2.2.2.2.2.2.1 E.2.2.2.2.2.2.2.2.1 E.2.2.2.2.2.2.2.2.2.1 E.2.2.2.2.2.2.2.2.2.2.1 mi pc (lv_args 0 asx) [] ws 0 0 (cPost E.2.2.2.2.2.2.1 (zso E) (zad E) gST gjl c asx ws)) (hj : ∀ ws, jOk (zso E) gJ1 ws → vsg (zso E) zuq ws σ → jOk (zso E) gjl ws) {vs : List vV} (h1 : vFits c.1 vs) (h2 : vX σ) (h3 : amds md c.2.2.2 = true) (h4 : ∀ al ∈ c.2.2.1, ∀ (ret : Option vV) (σ2 : vS), vFr al.1 ret → vX σ2 → vFm zuq c.2.2.2 σ σ2 → K ret σ2) : zG E gJ1 md w mi pc (vargs vs 0) σ K := by
  have hU := B.2.2.2.2.2.2.1
  have hex : (∃ o : Nat, (zso E)[o]? = some 52) ∧ ∃ o : Nat, (zso E)[o]? = some 74 := ⟨B.2.2.2.2.2.2.2 52 rfl, B.2.2.2.2.2.2.2 74 rfl⟩
  intro Kg lv stA ws hW hl hs hK
  have e0 := vsR_nil hs
  subst e0
  obtain ⟨asx, k1, k2⟩ := vargs_inv hl
  refine gG_sub k2 (gG_mono ?_ (hc asx ws (w_of z_vXh ⟨rfl, rfl⟩ hW h2) (hj ws hW.2.1 hW.2.2.2) (v_vsOk h1 k1)))
  intro rv ws2 ⟨p1, p2, p3, al, p4, p5, p6⟩
  obtain ⟨σ2, s1, s2⟩ := sg_ex hU ws2 σ
  have hj1 : jOk (zso E) gJ1 ws2 := fun J hJ => p2 J (by
    rcases List.mem_cons.mp (show J ∈ [_] from hJ) with rfl | h
    · exact List.mem_cons_self
    · exact absurd h List.not_mem_nil)
  have hW2 : vW _ (zso E) (zad E) gST gJ1 md w zuq ws2 σ2 := ⟨⟨p1.1, p1.2.1, fun o t q hq ht => (p1.2.2 o t q hq ht).1⟩, hj1, fRel_tr hW.2.2.1 p3 (amds_ok h3), s1⟩
  obtain ⟨ret, r1, r2⟩ : ∃ ret, vFr al.1 ret ∧ vRt (zso E) (zad E) ret rv := by
    cases hal : al.1 with
    | none =>
      rw [hal] at p5
      cases rv with
      | none => exact ⟨none, trivial, trivial⟩
      | some x => exact absurd p5 id
    | some f =>
      rw [hal] at p5
      cases rv with
      | none => exact absurd p5 id
      | some x =>
        obtain ⟨v, v1, v2⟩ := vOk_v (show vOk (zso E) (zad E) f x from p5)
        exact ⟨some v, v1, v2⟩
  refine hK ret σ2 ws2 rv (h4 al p4 ret σ2 r1 (of_w z_vXh ⟨rfl, rfl⟩ hex hW2 p1) ?_) hW2 r2
  intro t i hut hno
  refine s2 t i (fun o z ho hi hz => ?_)
  have e := p3 o t i.toNat ho (fun q hq hh => hno q hq ⟨hh.1, by omega, by omega⟩)
  rw [e] at hz
  have := hW.2.2.2 o t i.toNat z ho hut hz
  rw [this, Int.toNat_of_nonneg hi]
theorem z_weak {J : List aJ} (h : zH E J (gm_271, 4) gc_271_0) : zH E J (gm_271, 4) gc_271_w := by
  intro asx ws h1 h2 h3
  refine gG_mono ?_ (h asx ws h1 h2 h3)
  intro rv ws2 ⟨p1, p2, p3, al, p4, p5, p6⟩
  refine ⟨p1, p2, p3, (none, []), List.mem_cons_self, ?_, fun f hf => absurd hf List.not_mem_nil⟩
  have key : ∀ al ∈ gc_271_0.2.2.1, al.1 = none := by decide
  rw [key al p4] at p5
  exact p5
theorem z_j0 {ws : va_W} (h : jOk (zso E) gJ1 ws) (hs : vsg (zso E) zuq ws σ) (h0 : σ 12 42 = 0) : jOk (zso E) gjl ws := by
  intro J hJ o y ho hy i hi
  rcases List.mem_cons.mp (show J ∈ [_, _] from hJ) with rfl | hJ
  · exact h _ List.mem_cons_self o y ho hy i hi
  · have e := List.mem_singleton.mp hJ
    subst e
    have := hs o 12 42 y ho rfl hy
    rw [show σ 12 ((42 : Nat) : Int) = 0 from h0] at this
    omega
theorem gkm_184 : acckm gFL gCL gMT gXTm gKI gKL gST (gCA [(177, [gc_177_0]), (188, [gc_188_0]), (198, [gc_198_0]), (207, [gc_207_0, gc_207_1, gc_207_2, gc_207_3, gc_207_4]), (223, [gc_223_0]), (232, [gc_232_0]), (240, [gc_240_0]), (271, [gc_271_w]), (281, [gc_281_0]), (288, [gc_288_0])]) gjl 100000 gm_184 gx_184m gc_184_m 35 (match ej ga_184 35 with
  | some cd => cd
  | none => []) = true := by decide +kernel
theorem z_boo (B : zB E) (A2 : zA E gjl) {q : Int} (hr : -2147483648 ≤ q ∧ q ≤ 2147483647) (hK : ∀ (z : Int) (σ2 : vS), z = -1000 ∧ ¬ (0 ≤ q ∧ q ≤ 1) → vX σ2 → K (some (.inl z)) σ2) (hM : ∀ al ∈ gc_184_m.2.2.1, ∀ (ret : Option vV) (σ2 : vS), vFr al.1 ret → vX σ2 → σ2 12 2 = 0 → K ret σ2) (hX : vX σ) : zG E gJ1 md184 w gm_184 0 [(0, .inr (.inl 12)), (1, .inl q)] σ K := by
  refine zbd (fun hb => zgo B zS_nil [] [(35, [0, 1])] (fun m => Nat.beq m.2.2.2.2.1 256) (by decide +kernel) ?_)
  refine And.intro (show Int.negSucc 2147483647 ≤ 0 ∧ 0 ≤ 2147483647 from rgm (by omega)) ?_
  refine And.intro (fun (c1 : q < 0) => ?_) (fun (c2 : 0 ≤ q) => ?_)
  · refine And.intro (show 0 ≤ 0 ∧ 0 ≤ 1 from by omega) ?_
    refine And.intro (fun (q : ¬ 0 = 0) => absurd q (by decide)) (fun _ => ?_)
    show K (some (.inl (-1000))) (vup σ 12 0 0)
    exact hK _ _ (by omega) (vX_fr hX rfl rfl)
  · refine And.intro (fun (c3 : 1 < q) => ?_) (fun (c4 : q ≤ 1) => ?_)
    · refine And.intro (show 0 ≤ 0 ∧ 0 ≤ 1 from by omega) ?_
      refine And.intro (fun (q : ¬ 0 = 0) => absurd q (by decide)) (fun _ => ?_)
      show K (some (.inl (-1000))) (vup σ 12 0 0)
      exact hK _ _ (by omega) (vX_fr hX rfl rfl)
    · refine And.intro (show 0 ≤ 1 ∧ 1 ≤ 1 from by omega) ?_
      refine And.intro (fun _ => ?_) (fun (q : 1 = 0) => absurd q (by decide))
      have f5 : 0 ≤ σ 12 2 ∧ σ 12 2 ≤ 940 := zf B hb (t := 12) (f := 2) (by decide +kernel)
      refine And.intro (show 0 ≤ (σ 12 2) ∧ (σ 12 2) ≤ 940 from by omega) ?_
      refine And.intro (show 0 ≤ 0 ∧ 0 ≤ 940 from by omega) ?_
      refine And.intro (show 0 ≤ 0 ∧ 0 ≤ 940 from by omega) ?_
      refine And.intro (show 0 ≤ 400 ∧ 400 ≤ 940 from by omega) ?_
      refine And.intro (show Int.negSucc 2147483647 ≤ 0 ∧ 0 ≤ 2147483647 from rgm (by omega)) ?_
      refine And.intro (show 0 ≤ 0 ∧ 0 ≤ 40 from by omega) ?_
      show zG E gJ1 md184 w gm_184 35 [(0, .inr (.inl 12)), (1, .inl q)] (vup (vup (vup (vup (vup (vup (vup σ 12 0 0) 12 3 (σ 12 2)) 12 2 0) 12 4 0) 12 5 400) 12 15 0) 12 42 0) K
      exact z_mid (vs := [.inr (.inl 12), .inl q]) (c := gc_184_m) B (by decide) (c_mid (XT := gXTm) (q := (gm_184, 7)) (z_val B A2 (zP_cons rfl (zF_cons (zcb_177_0 B A2) zF_nil) (zP_cons rfl (zF_cons (zcb_188_0 B A2) zF_nil) (zP_cons rfl (zF_cons (zcb_198_0 B A2) zF_nil) (zP_cons rfl (zF_cons (zcb_207_0 B A2) (zF_cons (zcb_207_1 B A2) (zF_cons (zcb_207_2 B A2) (zF_cons (zcb_207_3 B A2) (zF_cons (zcb_207_4 B A2) zF_nil))))) (zP_cons rfl (zF_cons (zcb_223_0 B A2) zF_nil) (zP_cons rfl (zF_cons (zcb_232_0 B A2) zF_nil) (zP_cons rfl (zF_cons (zcb_240_0 B A2) zF_nil) (zP_cons rfl (zF_cons (z_weak (zc_271b B A2.2.1)) zF_nil) (zP_cons rfl (zF_cons (zcb_281_0 B A2) zF_nil) (zP_cons rfl (zF_cons (zcb_288_0 B A2) zF_nil) zP_nil))))))))))) rfl (by decide) (by decide) (fun t ht => List.all_eq_true.mp (show elens gm_184 = true from by decide +kernel) t ht) gkm_184) (fun ws h1 h2 => z_j0 h1 h2 rfl) ⟨rfl, (show Int.negSucc 2147483647 ≤ q ∧ q ≤ 2147483647 from rgm (by omega)), trivial⟩ (vX_fr hX rfl rfl) (by decide +kernel) (fun al hal ret σ2 g1 g2 g3 => hM al hal ret σ2 g1 g2 (vFm_fl g3 (t := 12) (f := 2) rfl (by decide +kernel)))
theorem zc_184_0 (B : zB E) (A2 : zA E gjl) : zH E gJ1 (gm_184, 7) gc_184_0 := by
  refine z_holds B (by decide) (fun w vs σ hv hX hb => ?_)
  have hv : vFits [.inr (.inl 12), .inl (.negSucc 2147483647, .ofNat 2147483647)] vs := hv
  obtain ⟨q, rfl, h1⟩ := fits2 hv
  refine z_boo B A2 h1 (fun z σ2 hz hX2 => ⟨hX2, _, List.mem_cons_self, ?_⟩) (fun al hal ret σ2 hr hX2 _ => ⟨hX2, al, hal, hr⟩) hX
  have hz := hz.1
  subst hz
  exact ⟨by decide, by decide⟩
end Z11
