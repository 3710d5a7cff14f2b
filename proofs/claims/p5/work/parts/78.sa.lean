/-! THE LAW'S ROUND OF SENTENCE -/
noncomputable section
def md49 : aMd := [(6, 3, 5), (31, 0, 40), (32, 0, 40)]
end
section ZTS
variable {E : zE}
/-- a cell that leads to a thing, by sorts -/
theorem cr_at {ws : va_W} (hE : zso E = zso0) (hw : wOk (zso E) (zad E) E.2.2.2.2.2.2.1 gST ws) {o t f u : Nat} (ho : zso0[o]? = some t) (hob : ∃ ob, gST t = some (.inl ob) ∧ ob.2[f]? = some (.inr (.inl u))) : ∃ o2 b : Nat, zso0[o2]? = some u ∧ (zad E)[o2]? = some b ∧ gcv ws o f = some (.ref b) := by
  obtain ⟨a, e, g1, g2, g3⟩ := w0_at (ST := gST) (tys := E.2.2.2.2.2.2.1) ⟨hw.1, hw.2.1, fun o t q hq ht => (hw.2.2 o t q hq ht).1⟩ (o := o) (t := t) (by rw [hE]; exact ho)
  unfold eOk at g3
  obtain ⟨ob, hob, hf⟩ := hob
  rw [hob] at g3
  obtain ⟨fs, rfl, k1, k2⟩ := g3
  have x1 := List.getElem?_eq_getElem (show f < fs.length by rw [k1]; exact (List.getElem?_eq_some_iff.mp hf).1)
  obtain ⟨o2, b, p, q, r⟩ := k2 _ _ _ hf x1
  rw [r] at x1
  rw [hE] at p
  exact ⟨o2, b, p, q, (gcv_at g1 f).trans x1⟩
/-- the class's Sentence.copyFrom -/
theorem z_cp49 (B : zB E) (A : zA E gJ1) (hE : zso E = zso0) {ws : va_W} {K : gK} {o a o' a' : Nat} (hne : ¬ o = o') (ho : zso0[o]? = some 6) (ha : (zad E)[o]? = some a) (ho' : zso0[o']? = some 6) (ha' : (zad E)[o']? = some a') (hw : wOk (zso E) (zad E) E.2.2.2.2.2.2.1 gST ws) (hj : jOk (zso E) gJ1 ws) {y : Int32} (hy : gcv ws o' 4 = some (.int y))
    (h : ∀ ws2 : va_W, wOk (zso E) (zad E) E.2.2.2.2.2.2.1 gST ws2 → jOk (zso E) gJ1 ws2 → fRel (zso E) md49 ws ws2 → gcv ws2 o 4 = some (.int y) → K none ws2) : zgE E gm_49 0 (lv_args 0 [.ref a, .ref a']) [] ws 0 0 K := by
  obtain ⟨s0, b0, p0, q0, r0⟩ := cr_at hE hw ho (f := 0) (u := 31) ⟨_, rfl, rfl⟩
  obtain ⟨s1, b1, p1, q1, r1⟩ := cr_at hE hw ho (f := 1) (u := 32) ⟨_, rfl, rfl⟩
  obtain ⟨t0, c0, u0, v0, w0⟩ := cr_at hE hw ho' (f := 0) (u := 31) ⟨_, rfl, rfl⟩
  obtain ⟨t1, c1, u1, v1, w1⟩ := cr_at hE hw ho' (f := 1) (u := 32) ⟨_, rfl, rfl⟩
  have nd : ∀ {x t : Nat}, zso0[x]? = some t → ¬ t = 6 → ¬ o = x := fun hx ht e => by subst e; rw [ho] at hx; cases hx; exact ht rfl
  have nd' : ∀ {x t : Nat}, zso0[x]? = some t → ¬ t = 6 → ¬ o' = x := fun hx ht e => by subst e; rw [ho'] at hx; cases hx; exact ht rfl
  refine g_aload (j := 1) (len := 1) (i := .aload_n 1) (Or.inr ⟨1, rfl, rfl, rfl⟩) (List.mem_of_getElem? (l := ga_49) (i := 0) (by decide +kernel)) (a := a') (List.mem_cons_of_mem _ List.mem_cons_self) ?_
  refine g_getT B hE (idx := 11) (t := 6) (List.mem_of_getElem? (l := ga_49) (i := 1) (by decide +kernel)) (q := (6, 0, 12)) (by decide +kernel) hw ho' ha' ⟨_, rfl⟩ w0 ?_
  refine g_iconst (n := 0) (List.mem_of_getElem? (l := ga_49) (i := 2) (by decide +kernel)) ?_
  refine g_aload (j := 0) (len := 1) (i := .aload_n 0) (Or.inr ⟨0, rfl, rfl, rfl⟩) (List.mem_of_getElem? (l := ga_49) (i := 3) (by decide +kernel)) (a := a) List.mem_cons_self ?_
  refine g_getT B hE (idx := 11) (t := 6) (List.mem_of_getElem? (l := ga_49) (i := 4) (by decide +kernel)) (q := (6, 0, 12)) (by decide +kernel) hw ho ha ⟨_, rfl⟩ r0 ?_
  refine g_iconst (n := 0) (List.mem_of_getElem? (l := ga_49) (i := 5) (by decide +kernel)) ?_
  refine g_bipush (n := 40) (List.mem_of_getElem? (l := ga_49) (i := 6) (by decide +kernel)) ?_
  refine g_cpI A.1 hE (idx := 28) (x := 0) (m := 5) (by decide +kernel) (List.mem_of_getElem? (l := ga_49) (i := 7) (by decide +kernel)) (o1 := t0) (o2 := s0) (t := 31) (n := 40) u0 p0 v0 q0 rfl hw hj (cj_no (by decide +kernel)) (by decide) (by decide) rfl (by decide) (by decide) (fun wsA wA jA fA _ FA => ?_)
  refine g_aload (j := 1) (len := 1) (i := .aload_n 1) (Or.inr ⟨1, rfl, rfl, rfl⟩) (List.mem_of_getElem? (l := ga_49) (i := 8) (by decide +kernel)) (a := a') (List.mem_cons_of_mem _ List.mem_cons_self) ?_
  refine g_getT B hE (idx := 15) (t := 6) (List.mem_of_getElem? (l := ga_49) (i := 9) (by decide +kernel)) (q := (6, 1, 12)) (by decide +kernel) wA ho' ha' ⟨_, rfl⟩ ((fA o' 1 (nd' p0 (by decide))).trans w1) ?_
  refine g_iconst (n := 0) (List.mem_of_getElem? (l := ga_49) (i := 10) (by decide +kernel)) ?_
  refine g_aload (j := 0) (len := 1) (i := .aload_n 0) (Or.inr ⟨0, rfl, rfl, rfl⟩) (List.mem_of_getElem? (l := ga_49) (i := 11) (by decide +kernel)) (a := a) List.mem_cons_self ?_
  refine g_getT B hE (idx := 15) (t := 6) (List.mem_of_getElem? (l := ga_49) (i := 12) (by decide +kernel)) (q := (6, 1, 12)) (by decide +kernel) wA ho ha ⟨_, rfl⟩ ((fA o 1 (nd p0 (by decide))).trans r1) ?_
  refine g_iconst (n := 0) (List.mem_of_getElem? (l := ga_49) (i := 13) (by decide +kernel)) ?_
  refine g_bipush (n := 40) (List.mem_of_getElem? (l := ga_49) (i := 14) (by decide +kernel)) ?_
  refine g_cpI A.1 hE (idx := 28) (x := 0) (m := 5) (by decide +kernel) (List.mem_of_getElem? (l := ga_49) (i := 15) (by decide +kernel)) (o1 := t1) (o2 := s1) (t := 32) (n := 40) u1 p1 v1 q1 rfl wA jA (cj_no (by decide +kernel)) (by decide) (by decide) rfl (by decide) (by decide) (fun wsB wB jB fB _ FB => ?_)
  obtain ⟨x3, hx3, rx3⟩ := cf_int hE wB ho' (f := 3) (lo := .ofNat 0) (hi := .ofNat 40) ⟨_, rfl, rfl⟩
  refine g_aload (j := 0) (len := 1) (i := .aload_n 0) (Or.inr ⟨0, rfl, rfl, rfl⟩) (List.mem_of_getElem? (l := ga_49) (i := 16) (by decide +kernel)) (a := a) List.mem_cons_self ?_
  refine g_aload (j := 1) (len := 1) (i := .aload_n 1) (Or.inr ⟨1, rfl, rfl, rfl⟩) (List.mem_of_getElem? (l := ga_49) (i := 17) (by decide +kernel)) (a := a') (List.mem_cons_of_mem _ List.mem_cons_self) ?_
  refine g_getT B hE (idx := 21) (t := 6) (List.mem_of_getElem? (l := ga_49) (i := 18) (by decide +kernel)) (q := (6, 3, 0)) (by decide +kernel) wB ho' ha' ⟨_, rfl⟩ hx3 ?_
  refine g_putT B hE (idx := 21) (t := 6) (List.mem_of_getElem? (l := ga_49) (i := 19) (by decide +kernel)) (q := (6, 3, 0)) (by decide +kernel) (by decide) wB jB ho ha rfl rfl rx3 (Or.inl ⟨rfl, _, rfl⟩) (cj_no (by decide +kernel)) (fun wsC wC jC fC cC FC => ?_)
  have hyC : gcv wsC o' 4 = some (.int y) := (fC o' 4 (fun q => hne q.1.symm)).trans ((fB o' 4 (nd' p1 (by decide))).trans ((fA o' 4 (nd' p0 (by decide))).trans hy))
  obtain ⟨x4, hx4, rx4⟩ := cf_int hE wC ho' (f := 4) (lo := .ofNat 0) (hi := .ofNat 20) ⟨_, rfl, rfl⟩
  have ey : x4 = y := by rw [hyC] at hx4; injection hx4 with q; injection q with q; exact q.symm
  rw [ey] at rx4
  refine g_aload (j := 0) (len := 1) (i := .aload_n 0) (Or.inr ⟨0, rfl, rfl, rfl⟩) (List.mem_of_getElem? (l := ga_49) (i := 20) (by decide +kernel)) (a := a) List.mem_cons_self ?_
  refine g_aload (j := 1) (len := 1) (i := .aload_n 1) (Or.inr ⟨1, rfl, rfl, rfl⟩) (List.mem_of_getElem? (l := ga_49) (i := 21) (by decide +kernel)) (a := a') (List.mem_cons_of_mem _ List.mem_cons_self) ?_
  refine g_getT B hE (idx := 25) (t := 6) (List.mem_of_getElem? (l := ga_49) (i := 22) (by decide +kernel)) (q := (6, 4, 0)) (by decide +kernel) wC ho' ha' ⟨_, rfl⟩ hyC ?_
  refine g_putT B hE (idx := 25) (t := 6) (List.mem_of_getElem? (l := ga_49) (i := 23) (by decide +kernel)) (q := (6, 4, 0)) (by decide +kernel) (by decide) wC jC ho ha rfl rfl rx4 (Or.inl ⟨rfl, _, rfl⟩) (cj_no (by decide +kernel)) (fun wsD wD jD fD cD FD => ?_)
  exact g_return (List.mem_of_getElem? (l := ga_49) (i := 24) (by decide +kernel)) rfl (by decide) (by decide) (h wsD wD jD (fRel_tr (fRel_tr (fRel_tr (fRel_tr fRel_refl FA (amds_ok (by decide +kernel))) FB (amds_ok (by decide +kernel))) FC (amds_ok (by decide +kernel))) FD (amds_ok (by decide +kernel))) cD)
/-- no SENTENCE was read -/
theorem z161f (X : zX gKX E) (B : zB E) {w : va_W} {σ : vS} {K : vKL} (hK : K (some (.inl (-1 - σ 7 3))) (vup σ 7 1 0)) : zGC E [(7, 1, 2)] w gm_161 16 [(0, .inr (.inl 11)), (1, .inl 0)] σ K := by
  refine zbdC (fun hb => zgoC X B zS_nilC [] [] (fun m => false) (by decide +kernel) ?_)
  refine And.intro (show 0 ≤ 0 ∧ 0 ≤ 940 from by omega) ?_
  refine And.intro (fun hc => absurd (show (0 : Int) = 0 from rfl) hc) (fun hc => ?_)
  have h3 : Int.negSucc 2147483647 ≤ σ 7 3 ∧ σ 7 3 ≤ 900 := zfC hb (t := 7) (f := 3) (by decide +kernel)
  have e3 : vup σ 7 1 0 7 3 = σ 7 3 := vup_ne 7 3 (by decide)
  refine And.intro (show Int.negSucc 2147483647 ≤ -1 - vup σ 7 1 0 7 3 ∧ -1 - vup σ 7 1 0 7 3 ≤ 2147483647 from ?_) (show K (some (.inl (-1 - vup σ 7 1 0 7 3))) (vup σ 7 1 0) from ?_)
  · rw [e3]
    have := h3.1
    exact rgm (by omega)
  · rw [e3]
    exact hK
/-- what the names of the TERRACE that stands are, to the reader -/
def zS0 (ws : va_W) : qS := (0, zci ws 169, zci ws 172)
theorem zS0_ok {ws : va_W} {σ : vS} (hc : ∀ t, uqc t = true → σ t = zci ws (zucp t)) (h : zAl ws 4 169 0 172 0) : cSn (zS0 ws) σ := by
  obtain ⟨⟨b0, b1, b2, b3⟩, c, -, e0, e1, e2⟩ := h
  have c94 : σ 94 = zci ws 5 := hc 94 rfl
  have c95 : σ 95 = zci ws 6 := hc 95 rfl
  have c96 : σ 96 = zci ws 7 := hc 96 rfl
  have c97 : σ 97 = zci ws 8 := hc 97 rfl
  have en : ∀ i : Int, zci ws 172 (((0 : Nat) : Int) + i) = zci ws 172 i := fun i => by rw [show ((0 : Nat) : Int) + i = i by omega]
  refine ⟨⟨⟨?_, ?_, ?_⟩, ?_, ?_, ?_⟩, b0, b1, b2⟩
  · rw [c94]; exact c 0 (by decide) (by decide)
  · rw [c94]; exact c 1 (by decide) (by decide)
  · rw [c94]; exact c 2 (by decide) (by decide)
  · rw [c95]; exact cNm_cg (by decide) e0 rfl (fun _ _ _ => rfl) (fun i _ _ => (en (0 + i)).symm)
  · rw [c96]; exact cNm_cg (by decide) e1 rfl (fun _ _ _ => rfl) (fun i _ _ => (en (6 + i)).symm)
  · rw [c97]; exact cNm_cg (by decide) e2 rfl (fun _ _ _ => rfl) (fun i _ _ => (en (12 + i)).symm)
/-- the answer -/
def zsa (x : qX) (Q : qA) : Int := if Q.1 = 0 then Q.2.2 else -1 - qat x.1 x.2.1 x.2.2 Q.2.1

/-- the class's SENTENCE -/
theorem z_sec (X : zX gKX E) (B : zB E) (A : zA E gJ1) {ax : Nat} (ha : (zad E)[0]? = some ax) (hl : zsoc.length = (zad E).length) {ws : va_W} (hw : wOk (zso E) (zad E) E.2.2.2.2.2.2.1 gST ws) (hj : jOk (zso E) gJ1 ws) (hT : zTp E ws) (hR : zAl ws 4 169 0 172 0) {Q : qA} (hQ : Q = qN (fun q => vand (zci ws 2 q) 255, zci ws 1 1, 200) (zS0 ws) false 1 1 [] 0 0) {r : Int} (hr : r = zsa (fun q => vand (zci ws 2 q) 255, zci ws 1 1, 200) Q) {K : gK}
    (h : ∀ (ws2 : va_W) (v : Int32), wOk (zso E) (zad E) E.2.2.2.2.2.2.1 gST ws2 → jOk (zso E) gJ1 ws2 → zTp E ws2 → (∀ o t i : Nat, zso0[o]? = some t → (t = 12 ∨ 51 ≤ t) → gcv ws2 o i = gcv ws o i) → gcv ws2 1 1 = some (.int 0) → v.toInt = r → zCs zclc ws ws2 → zci ws2 1 2 = Q.1 → K (some (.int v)) ws2) : zgE E gm_161 0 (lv_args 0 [.ref ax]) [] ws 0 0 K := by
  have hE : zso E = zso0 := hT.1
  have hF := hT.2.1
  obtain ⟨a0, e, g1, g2, g3⟩ := w0_at (so := zsoc) (ad := zad E) (tys := E.2.2.2.2.2.2.1) (ST := gSTc) ⟨hw.1, hl, fun o t q hq ht => hF o t q hq ht⟩ (o := 0) (t := 11) rfl
  rw [ha] at g2
  cases g2
  unfold eOk at g3
  obtain ⟨ob, hob, hf, hf1, hf5, hf6, hfc⟩ : ∃ ob, gSTc 11 = some (.inl ob) ∧ ob.2[0]? = some (.inr (.inl 7)) ∧ ob.2[1]? = some (.inr (.inl 93)) ∧ ob.2[5]? = some (.inr (.inl 6)) ∧ ob.2[6]? = some (.inr (.inl 102)) ∧ ob.1 = 11 := ⟨_, rfl, rfl, rfl, rfl, rfl, rfl⟩
  rw [hob] at g3
  obtain ⟨fs, rfl, k1, k2⟩ := g3
  rw [hfc] at g1
  have x0 := List.getElem?_eq_getElem (show 0 < fs.length by rw [k1]; exact (List.getElem?_eq_some_iff.mp hf).1)
  have x1 := List.getElem?_eq_getElem (show 1 < fs.length by rw [k1]; exact (List.getElem?_eq_some_iff.mp hf1).1)
  have x5 := List.getElem?_eq_getElem (show 5 < fs.length by rw [k1]; exact (List.getElem?_eq_some_iff.mp hf5).1)
  have x6 := List.getElem?_eq_getElem (show 6 < fs.length by rw [k1]; exact (List.getElem?_eq_some_iff.mp hf6).1)
  obtain ⟨o0, b0, p0, q0, r0⟩ := k2 _ _ _ hf x0
  obtain ⟨o1, b1_, p1, q1, r1⟩ := k2 _ _ _ hf1 x1
  obtain ⟨o5, b5_, p5, q5, r5⟩ := k2 _ _ _ hf5 x5
  obtain ⟨o6, b6, p6, q6, r6⟩ := k2 _ _ _ hf6 x6
  rw [r0] at x0
  rw [r1] at x1
  rw [r5] at x5
  rw [r6] at x6
  have n0 : o0 = 1 := zsoc_1 p0 rfl
  have n6 : o6 = 85 := zsoc_1 p6 rfl
  subst n0 n6
  have p5' : zso0[o5]? = some 6 := (zcs_o p5).1
  have hne : ¬ o5 = 85 := fun e => by subst e; exact absurd (Option.some.inj (p5.symm.trans (show zsoc[85]? = some 102 from rfl))) (by decide)
  have y0 : gcv ws 0 0 = some (.ref b0) := (gcv_at g1 0).trans x0
  have y1 : gcv ws 0 1 = some (.ref b1_) := (gcv_at g1 1).trans x1
  have y5 : gcv ws 0 5 = some (.ref b5_) := (gcv_at g1 5).trans x5
  have y6 : gcv ws 0 6 = some (.ref b6) := (gcv_at g1 6).trans x6
  refine g_aload (j := 0) (len := 1) (i := .aload_n 0) (Or.inr ⟨0, rfl, rfl, rfl⟩) (List.mem_of_getElem? (l := ga_161) (i := 0) (by decide +kernel)) (a := ax) List.mem_cons_self ?_
  refine g_getT B hE (idx := 47) (t := 11) (o := 0) (List.mem_of_getElem? (l := ga_161) (i := 1) (by decide +kernel)) (q := (11, 6, 12)) (by decide +kernel) hw rfl ha ⟨_, rfl⟩ y6 ?_
  refine g_aload (j := 0) (len := 1) (i := .aload_n 0) (Or.inr ⟨0, rfl, rfl, rfl⟩) (List.mem_of_getElem? (l := ga_161) (i := 2) (by decide +kernel)) (a := ax) List.mem_cons_self ?_
  refine g_getT B hE (idx := 10) (t := 11) (o := 0) (List.mem_of_getElem? (l := ga_161) (i := 3) (by decide +kernel)) (q := (11, 0, 12)) (by decide +kernel) hw rfl ha ⟨_, rfl⟩ y0 ?_
  refine g_aload (j := 0) (len := 1) (i := .aload_n 0) (Or.inr ⟨0, rfl, rfl, rfl⟩) (List.mem_of_getElem? (l := ga_161) (i := 4) (by decide +kernel)) (a := ax) List.mem_cons_self ?_
  refine g_getT B hE (idx := 19) (t := 11) (o := 0) (List.mem_of_getElem? (l := ga_161) (i := 5) (by decide +kernel)) (q := (11, 1, 12)) (by decide +kernel) hw rfl ha ⟨_, rfl⟩ y1 ?_
  obtain ⟨yN, cc, ret, ok, lk, hcls⟩ := B.2.2.2.1 11 408 1 56 3 (by decide +kernel) (Or.inr (Or.inr (Or.inl rfl))) (gm_56, 3) rfl
  obtain ⟨fs6, hfs6⟩ := zt_obj hw (o := 85) (t := 6) (by rw [hE]; rfl) q6 (c := 6) ⟨_, rfl, rfl⟩
  refine g_call B.1 B.2.1 ok (mi := gm_161) lk hcls (i := .invokevirtual 408) (Or.inr ⟨rfl, Or.inl rfl⟩) (pc := 12) (asx := [.ref b6, .ref b0, .ref b1_]) (rx := []) (List.mem_of_getElem? (l := ga_161) (i := 6) (by decide +kernel)) ⟨by decide, by decide, by decide, by decide, by decide, Nat.le_of_ble_eq_true rfl⟩ rfl rfl (fun _ => ⟨85, b6, fs6, _, rfl, hfs6⟩) ?_
  refine zg_ofC (md := md72) hw hF hl (vs := [.inr (.inl 102), .inr (.inl 7), .inr (.inl 93)]) (asx := [.ref b6, .ref b0, .ref b1_]) ⟨⟨85, b6, p6, q6, rfl⟩, ⟨1, b0, p0, q0, rfl⟩, ⟨o1, b1_, p1, q1, rfl⟩, trivial⟩ (fun σ hs hc => vt_56 X B (gm_56, 3) rfl _ σ _ ?_)
  have c34 : σ 34 = zci ws 2 := hc 34 rfl
  have c7 : σ 7 = zci ws 1 := hc 7 rfl
  have c35 : σ 35 = zci ws 3 := hc 35 rfl
  have ex : ctx σ = fun q => vand (zci ws 2 q) 255 := by
    funext q
    unfold ctx
    rw [c34]
  have hbk : ∀ {ws2 : va_W}, wOk0 E.2.2.2.2.2.2.1 zsoc (zad E) gSTc ws2 → fRel zsoc md72 ws ws2 → (wOk (zso E) (zad E) E.2.2.2.2.2.2.1 gST ws2 ∧ jOk (zso E) gJ1 ws2 ∧ zFn E ws2) ∧ zTp E ws2 ∧ ∀ o t i : Nat, zso0[o]? = some t → (t = 12 ∨ 51 ≤ t) → gcv ws2 o i = gcv ws o i := fun h0 hf => by
    have g := zc_back (md := md72) (by decide +kernel) hE hw hj h0 hf
    refine ⟨g, zTp_c (md := md72) (by decide +kernel) hE hf g.2.2 hT, fun o t i ho ht => zf_keep (md := md72) (by decide +kernel) hf ho ?_ (by omega) (by omega)⟩
    have hlt : t < 78 := by
      have g2 := List.all_eq_true.mp zcs_lt o (List.mem_range.mpr (by rw [← zso_l.1]; exact (List.getElem?_eq_some_iff.mp ho).1))
      rw [ho] at g2
      exact Nat.le_of_ble_eq_true g2
    exact okc_hi t hlt ht
  refine ⟨zS0 ws, zS0_ok hc hR, fun j j0 j1 => ?_, fun hk σ2 f2 h2 h4 ws2 rv hw2 hf2 hs2 hrt => ?_, fun hk σ2 f2 h2 h3 ws2 rv hw2 hf2 hs2 hrt => ?_⟩
  · obtain ⟨p, p1, p2⟩ := hT.2.2.2.1
    rw [hE] at p1
    have ep : p = 3 := so_one p1 rfl
    subst ep
    have e := p2 j.toNat (by omega)
    rw [show ((j.toNat : Nat) : Int) = j by omega] at e
    have e := zci_long e
    rw [show ((j.toNat : Nat) : Int) = j by omega] at e
    rw [c35, e]
    exact qkc_64 j j0 j1
  · rw [ex, c7, ← hQ] at hk h4
    have hr0 : r = Q.2.2 := hr.trans (if_pos hk)
    obtain ⟨⟨b1, b2, b3⟩, b4, b5⟩ := hbk hw2 hf2
    have zc2 : zCs zclc ws ws2 := zCs_md (so := zsoc) (md := md72) (by decide +kernel) hf2
    have k12 : zci ws2 1 2 = 0 := by
      obtain ⟨y, hy, -, -⟩ := cf_int hE b1 (o := 1) (t := 7) rfl (f := 2) (lo := .ofNat 0) (hi := .ofNat 4) ⟨_, rfl, rfl⟩
      exact (cx_ci hs2 (o := 1) (t := 7) rfl rfl (i := 2) (by decide) (Or.inl ⟨y, hy⟩)).trans h2
    obtain ⟨y4, hy4, -, -⟩ := cf_int hE b1 (o := 85) (t := 6) rfl (f := 4) (lo := .ofNat 0) (hi := .ofNat 20) ⟨_, rfl, rfl⟩
    have ev : y4.toInt = r := by
      have e := cx_ci hs2 (o := 85) (t := 102) rfl rfl (i := 4) (by decide) (Or.inl ⟨y4, hy4⟩)
      have e2 := zci_int hy4
      have e2 : zci ws2 85 4 = y4.toInt := e2
      rw [← e2, e, h4, hr0]
    cases rv with
    | none => exact absurd hrt id
    | some v =>
      obtain ⟨v, rfl, hv⟩ := hrt
      have ev1 : v = 1 := Int32.toInt_inj.mp (by rw [hv]; rfl)
      subst ev1
      have z0 : gcv ws2 0 0 = some (.ref b0) := (zc2 (0, 0, 17) (by decide) 0 (by decide) (by decide)).trans y0
      have z5 : gcv ws2 0 5 = some (.ref b5_) := (zc2 (0, 0, 17) (by decide) 5 (by decide) (by decide)).trans y5
      have z6 : gcv ws2 0 6 = some (.ref b6) := (zc2 (0, 0, 17) (by decide) 6 (by decide) (by decide)).trans y6
      refine g_istore (j := 1) (len := 1) (i := .istore_n 1) (Or.inr ⟨1, rfl, rfl, rfl⟩) (List.mem_of_getElem? (l := ga_161) (i := 7) (by decide +kernel)) ?_
      refine g_aload (j := 0) (len := 1) (i := .aload_n 0) (Or.inr ⟨0, rfl, rfl, rfl⟩) (List.mem_of_getElem? (l := ga_161) (i := 8) (by decide +kernel)) (a := ax) (List.mem_cons_of_mem _ List.mem_cons_self) ?_
      refine g_getT B hE (idx := 10) (t := 11) (o := 0) (List.mem_of_getElem? (l := ga_161) (i := 9) (by decide +kernel)) (q := (11, 0, 12)) (by decide +kernel) b1 rfl ha ⟨_, rfl⟩ z0 ?_
      refine g_iconst (n := 0) (List.mem_of_getElem? (l := ga_161) (i := 10) (by decide +kernel)) ?_
      refine g_putT B hE (idx := 104) (t := 7) (o := 1) (List.mem_of_getElem? (l := ga_161) (i := 11) (by decide +kernel)) (q := (7, 1, 0)) (by decide +kernel) (by decide) b1 b2 rfl q0 rfl rfl (lo := .ofNat 0) (hi := .ofNat 940) (by decide) (Or.inl ⟨rfl, _, rfl⟩) (cj_no (by decide +kernel)) (fun wsZ wZ jZ fZ cZ FZ => ?_)
      refine g_iload (j := 1) (len := 1) (i := .iload_n 1) (Or.inr ⟨1, rfl, rfl, rfl⟩) (List.mem_of_getElem? (l := ga_161) (i := 12) (by decide +kernel)) (z := 1) List.mem_cons_self ?_
      refine g_ifc (cd := .ne) (off := 13) (t := 38) (List.mem_of_getElem? (l := ga_161) (i := 13) (by decide +kernel)) rfl (fun _ => ?_) (fun hc => absurd (show ¬ (1 : Int32) = 0 by decide) hc)
      have oz : ∀ i : Nat, ¬ (0 = 1 ∧ i = 1) := fun i q => absurd q.1 (by decide)
      refine g_aload (j := 0) (len := 1) (i := .aload_n 0) (Or.inr ⟨0, rfl, rfl, rfl⟩) (List.mem_of_getElem? (l := ga_161) (i := 20) (by decide +kernel)) (a := ax) (List.mem_cons_of_mem _ List.mem_cons_self) ?_
      refine g_getT B hE (idx := 43) (t := 11) (o := 0) (List.mem_of_getElem? (l := ga_161) (i := 21) (by decide +kernel)) (q := (11, 5, 12)) (by decide +kernel) wZ rfl ha ⟨_, rfl⟩ ((fZ 0 5 (oz 5)).trans z5) ?_
      refine g_aload (j := 0) (len := 1) (i := .aload_n 0) (Or.inr ⟨0, rfl, rfl, rfl⟩) (List.mem_of_getElem? (l := ga_161) (i := 22) (by decide +kernel)) (a := ax) (List.mem_cons_of_mem _ List.mem_cons_self) ?_
      refine g_getT B hE (idx := 47) (t := 11) (o := 0) (List.mem_of_getElem? (l := ga_161) (i := 23) (by decide +kernel)) (q := (11, 6, 12)) (by decide +kernel) wZ rfl ha ⟨_, rfl⟩ ((fZ 0 6 (oz 6)).trans z6) ?_
      obtain ⟨fsT, hfsT⟩ := cw_ob hE wZ (o := o5) (t := 6) (c := 6) p5' q5 ⟨_, rfl, rfl⟩
      obtain ⟨yN1, cc1, ret1, ok1, lk1, hcls1⟩ := B.2.2.2.1 11 409 1 49 2 (by decide +kernel) (Or.inr (Or.inr (Or.inl rfl))) (gm_49, 2) rfl
      refine g_call B.1 B.2.1 ok1 (mi := gm_161) lk1 hcls1 (i := .invokevirtual 409) (Or.inr ⟨rfl, Or.inl rfl⟩) (pc := 46) (asx := [.ref b5_, .ref b6]) (rx := []) (List.mem_of_getElem? (l := ga_161) (i := 24) (by decide +kernel)) ⟨by decide, by decide, by decide, by decide, Nat.le_of_ble_eq_true rfl, Nat.le_of_ble_eq_true rfl⟩ rfl rfl (fun _ => ⟨o5, b5_, fsT, _, rfl, hfsT⟩) ?_
      refine z_cp49 B A hE hne p5' q5 rfl q6 wZ jZ ((fZ 85 4 (fun q => absurd q.1 (by decide))).trans hy4) (fun wsD wD jD FD cD => ?_)
      have zD : ∀ i : Nat, i < 17 → gcv wsD 0 i = gcv wsZ 0 i := fun i hi => (zCs_md (L := zclc) (so := zso0) (md := md49) (by decide +kernel) (by rw [← hE]; exact FD)) (0, 0, 17) (by decide) i (Nat.zero_le _) hi
      refine g_aload (j := 0) (len := 1) (i := .aload_n 0) (Or.inr ⟨0, rfl, rfl, rfl⟩) (List.mem_of_getElem? (l := ga_161) (i := 25) (by decide +kernel)) (a := ax) (List.mem_cons_of_mem _ List.mem_cons_self) ?_
      refine g_getT B hE (idx := 43) (t := 11) (o := 0) (List.mem_of_getElem? (l := ga_161) (i := 26) (by decide +kernel)) (q := (11, 5, 12)) (by decide +kernel) wD rfl ha ⟨_, rfl⟩ ((zD 5 (by decide)).trans ((fZ 0 5 (oz 5)).trans z5)) ?_
      refine g_getT B hE (idx := 412) (t := 6) (List.mem_of_getElem? (l := ga_161) (i := 27) (by decide +kernel)) (q := (6, 4, 0)) (by decide +kernel) wD p5' q5 ⟨_, rfl⟩ cD ?_
      have FF : fRel (zso E) (md49 ++ [(7, 1, 2)]) ws2 wsD := fRel_tr (fRel_tr fRel_refl FZ (amds_ok (by decide +kernel))) FD (amds_ok (by decide +kernel))
      refine g_ireturn (List.mem_of_getElem? (l := ga_161) (i := 28) (by decide +kernel)) (Or.inl rfl) (by decide) (by decide) (h wsD y4 wD jD (zTp_fr (md := md49 ++ [(7, 1, 2)]) (by decide +kernel) FF b1 wD b4) (fun o t i ho ht => ?_) ?_ ev (zCs_tr zc2 (zCs_md (so := zso0) (md := md49 ++ [(7, 1, 2)]) (by decide +kernel) (by rw [← hE]; exact FF))) ?_)
      · rw [← b5 o t i ho ht]
        refine FF o t i (by rw [hE]; exact ho) (fun q hq w => ?_)
        have g := (by decide : ∀ q ∈ md49 ++ [(7, 1, 2)], q.1 < 51 ∧ ¬ q.1 = 12) q hq
        rcases ht with ht | ht
        · rw [w.1] at g; exact g.2 ht
        · have := g.1; rw [w.1] at this; omega
      · exact (FD 1 7 1 (by rw [hE]; rfl) (fun q hq w => absurd w.1 ((by decide : ∀ q ∈ md49, ¬ q.1 = 7) q hq))).trans cZ
      · refine (zci_pt (j := 2) (i := 2) ((FD 1 7 2 (by rw [hE]; rfl) (fun q hq w => absurd w.1 ((by decide : ∀ q ∈ md49, ¬ q.1 = 7) q hq))).trans (fZ 1 2 (fun q => absurd (show (2 : Nat) = 1 from q.2) (by decide))))).trans (k12.trans hk.symm)
  · rw [ex, c7, ← hQ] at hk h2 h3
    have hr0 : r = -1 - qat (fun q => vand (zci ws 2 q) 255) (zci ws 1 1) 200 Q.2.1 := hr.trans (if_neg hk)
    have zc2 : zCs zclc ws ws2 := zCs_md (so := zsoc) (md := md72) (by decide +kernel) hf2
    obtain ⟨⟨b1, b2, b3⟩, b4, b5⟩ := hbk hw2 hf2
    cases rv with
    | none => exact absurd hrt id
    | some v =>
      obtain ⟨v, rfl, hv⟩ := hrt
      have ev0 : v = 0 := Int32.toInt_inj.mp (by rw [hv]; rfl)
      subst ev0
      refine g_istore (j := 1) (len := 1) (i := .istore_n 1) (Or.inr ⟨1, rfl, rfl, rfl⟩) (List.mem_of_getElem? (l := ga_161) (i := 7) (by decide +kernel)) ?_
      have hW : vWL E.2.2.2.2.2.2.1 zsoc (zad E) gSTc [] [(7, 1, 2)] ws2 uqc ws2 σ2 := ⟨hw2, fun J hJ => absurd hJ List.not_mem_nil, fRel_refl, hs2⟩
      refine z161f X B (w := ws2) (σ := σ2) (K := fun ret σ3 => ∀ (ws3 : va_W) (rv : Option Value), wOk0 E.2.2.2.2.2.2.1 zsoc (zad E) gSTc ws3 → fRel zsoc [(7, 1, 2)] ws2 ws3 → vsgL zsoc uqc ws3 σ3 → vRtL zsoc (zad E) ret rv → K rv ws3) (fun ws3 rv hw3 hf3 hs3 hrt3 => ?_) K _ [] ws2 hW ?_ trivial (fun ret σ3 ws3 rv hk3 hW3 hrt3 => hk3 ws3 rv hW3.1 hW3.2.2.1 hW3.2.2.2 hrt3)
      · cases rv with
        | none => exact absurd hrt3 id
        | some u =>
          obtain ⟨u, rfl, hu⟩ := hrt3
          have g := zc_back (md := [(7, 1, 2)]) (by decide +kernel) hE b1 b2 hw3 hf3
          refine h ws3 u g.1 g.2.1 (zTp_c (md := [(7, 1, 2)]) (by decide +kernel) hE hf3 g.2.2 b4) (fun o t i ho ht => ?_) ?_ (hu.trans (by rw [h3, hr0])) (zCs_tr zc2 (zCs_md (so := zsoc) (md := [(7, 1, 2)]) (by decide +kernel) hf3)) ?_
          · rw [← b5 o t i ho ht]
            have hlt : t < 78 := by
              have g2 := List.all_eq_true.mp zcs_lt o (List.mem_range.mpr (by rw [← zso_l.1]; exact (List.getElem?_eq_some_iff.mp ho).1))
              rw [ho] at g2
              exact Nat.le_of_ble_eq_true g2
            exact zf_keep (md := [(7, 1, 2)]) (by decide +kernel) hf3 ho (okc_hi t hlt ht) (by omega) (by omega)
          · obtain ⟨y, hy⟩ := zt_len hE g.1
            have e := hs3.1 1 7 1 y rfl rfl hy
            have e : y.toInt = vup σ2 7 1 0 7 1 := e
            rw [vup_eq] at e
            rw [hy, show y = 0 from Int32.toInt_inj.mp (by rw [e]; rfl)]
          · obtain ⟨y, hy, -, -⟩ := cf_int hE g.1 (o := 1) (t := 7) rfl (f := 2) (lo := .ofNat 0) (hi := .ofNat 4) ⟨_, rfl, rfl⟩
            have e := cx_ci hs3 (o := 1) (t := 7) rfl rfl (i := 2) (by decide) (Or.inl ⟨y, hy⟩)
            rw [e]
            exact (vup_ne 7 2 (fun q => by have := q.2; omega)).trans h2
      · intro q hq
        rcases List.mem_cons.mp hq with rfl | hq
        · exact ⟨_, List.mem_cons_of_mem _ List.mem_cons_self, 0, ax, rfl, ha, rfl⟩
        have e9 := List.mem_singleton.mp hq
        subst e9
        exact ⟨_, List.mem_cons_self, 0, rfl, rfl⟩
/-- the reference's SENTENCE -/
theorem z_sel (X : zX gKX E) (B : zB E) {am : Nat} (ha : (zad E)[167]? = some am) {ws : va_W} (hw : wOk (zso E) (zad E) E.2.2.2.2.2.2.1 gST ws) (hj : jOk (zso E) gJ1 ws) (hT : zTp E ws) {Q : qA} (hQ : Q = qsq (fun q => vand (zci ws 168 q) 255, zci ws 167 2, 200) (zci ws 172) (zci ws 169 0) (zci ws 169 1) 1000 false 1 1 [] 0 0) {r : Int} (hr : r = zsa (fun q => vand (zci ws 168 q) 255, zci ws 167 2, 200) Q) {K : gK}
    (h : ∀ (ws2 : va_W) (v : Int32), wOk (zso E) (zad E) E.2.2.2.2.2.2.1 gST ws2 → jOk (zso E) gJ1 ws2 → zTp E ws2 → (∀ i : Nat, gcv ws2 1 i = gcv ws 1 i) → gcv ws2 167 2 = some (.int 0) → v.toInt = r → zCs zclk ws ws2 → zci ws2 167 15 = Q.1 → (∀ i : Int, 0 ≤ i → i < 5 → zci ws2 169 i = zci ws 169 i) → (∀ i : Int, 0 ≤ i → i < 24 → zci ws2 172 i = zci ws 172 i) → K (some (.int v)) ws2) : zgE E gm_268 0 (lv_args 0 [.ref am]) [] ws 0 0 K := by
  have hE : zso E = zso0 := hT.1
  refine zg_ofL B hE (md := mdT) hw hj (vs := [.inr (.inl 12)]) (asx := [.ref am]) ⟨⟨167, am, by rw [hE]; rfl, ha, rfl⟩, trivial⟩ (fun σ hX hs hc => uk_268 X B (gm_268, 3) rfl _ σ _ ?_)
  have c51 : σ 51 = zci ws 168 := hc 51 rfl
  have c12 : σ 12 = zci ws 167 := hc 12 rfl
  have c52 : σ 52 = zci ws 169 := hc 52 rfl
  have c55 : σ 55 = zci ws 172 := hc 55 rfl
  have c56 : σ 56 = zci ws 173 := hc 56 rfl
  have ex : rtx σ = fun q => vand (zci ws 168 q) 255 := by
    funext q
    unfold rtx
    rw [c51]
  have eq : qse σ = Q := by
    unfold qse
    rw [ex, c12, c52, c55, ← hQ]
  have fin : ∀ (σ2 : vS), σ2 12 2 = 0 → σ2 12 15 = Q.1 → (∀ i : Int, 0 ≤ i → i < 5 → σ2 52 i = zci ws 169 i) → (∀ i : Int, 0 ≤ i → i < 24 → σ2 55 i = zci ws 172 i) → ∀ (ws2 : va_W) (rv : Option Value), wOk (zso E) (zad E) E.2.2.2.2.2.2.1 gST ws2 → jOk (zso E) gJ1 ws2 → fRel (zso E) mdT ws ws2 → vsgL (zso E) zuq ws2 σ2 → vRtL (zso E) (zad E) (some (.inl r)) rv → K rv ws2 := by
    intro σ2 e2 e15 h5 h24 ws2 rv hw2 hj2 hf2 hs2 hrt
    cases rv with
    | none => exact absurd hrt id
    | some v =>
      obtain ⟨v, rfl, hv⟩ := hrt
      have v52 : ∀ i : Int, 0 ≤ i → i < 5 → zci ws2 169 i = σ2 52 i := fun i i0 i1 => cx_ci hs2 (o := 169) (by rw [hE]; rfl) rfl i0 (Or.inl ((cx_int hE hw2 (o := 169) (t := 52) rfl (n := 402) rfl (by decide) (i := i.toNat) (by omega)).imp fun _ h => h.1))
      have v55 : ∀ i : Int, 0 ≤ i → i < 24 → zci ws2 172 i = σ2 55 i := fun i i0 i1 => cx_ci hs2 (o := 172) (by rw [hE]; rfl) rfl i0 (Or.inr (cx_long hE hw2 (o := 172) (t := 55) rfl (n := 48) rfl (i := i.toNat) (by omega)))
      refine h ws2 v hw2 hj2 (zTp_fr (md := mdT) (by decide +kernel) hf2 hw hw2 hT) (fun n => hf2 1 7 n (by rw [hE]; rfl) (fun q hq w => ?_)) ?_ hv (zCs_md (so := zso0) (md := mdT) (by decide +kernel) (by rw [← hE]; exact hf2)) ?_ (fun i i0 i1 => (v52 i i0 i1).trans (h5 i i0 i1)) (fun i i0 i1 => (v55 i i0 i1).trans (h24 i i0 i1))
      · have g := List.all_eq_true.mp (show (mdT.all fun q => !(Nat.beq q.1 7)) = true from by decide +kernel) q hq
        rw [w.1] at g
        exact absurd g (by decide)
      · obtain ⟨y, hy⟩ := zt_int hw2 (o := 167) (t := 12) (f := 2) (by rw [hE]; rfl) ⟨_, rfl, _, rfl⟩
        have e := hs2.1 167 12 2 y (by rw [hE]; rfl) rfl hy
        have e : y.toInt = σ2 12 2 := e
        rw [hy, show y = 0 from Int32.toInt_inj.mp (by rw [e, e2]; rfl)]
      · obtain ⟨y, hy⟩ := zt_int hw2 (o := 167) (t := 12) (f := 15) (by rw [hE]; rfl) ⟨_, rfl, _, rfl⟩
        exact (cx_ci hs2 (o := 167) (t := 12) (by rw [hE]; rfl) rfl (i := 15) (by decide) (Or.inl ⟨y, hy⟩)).trans e15
  rw [show us268 [.inr (.inl 12)] σ _ = _ from rfl]
  refine ⟨hX, fun j j0 j1 => ?_, fun hk σ2 x2 e2 e15 e52 e55 => ⟨x2, fun ws2 rv hw2 hj2 hf2 hs2 hrt => ?_⟩, fun hk σ2 x2 e2 e15 e52 e55 => ⟨x2, fun ws2 rv hw2 hj2 hf2 hs2 hrt => ?_⟩⟩
  · obtain ⟨p, p1, p2⟩ := hT.2.2.2.2
    rw [hE] at p1
    have ep : p = 173 := so_one p1 rfl
    subst ep
    have e := p2 j.toNat (by omega)
    rw [show ((j.toNat : Nat) : Int) = j by omega] at e
    have e := zci_long e
    rw [show ((j.toNat : Nat) : Int) = j by omega] at e
    rw [c56, e]
    exact qrw_64 j j0 j1
  · rw [eq] at hk hrt
    have er : Q.2.2 = r := (hr.trans (if_pos hk)).symm
    rw [er] at hrt
    exact fin σ2 e2 (e15.trans hk.symm) (fun i i0 i1 => by rw [e52 i i0 (by omega), c52]) (fun i _ _ => by rw [e55, c55]) ws2 rv hw2 hj2 hf2 hs2 hrt
  · rw [ex, c12, eq] at hrt
    rw [eq] at hk e15
    have er : -1 - qat (fun q => vand (zci ws 168 q) 255) (zci ws 167 2) 200 Q.2.1 = r := (hr.trans (if_neg hk)).symm
    rw [er] at hrt
    exact fin σ2 e2 e15 (fun i _ _ => by rw [e52, c52]) (fun i _ _ => by rw [e55, c55]) ws2 rv hw2 hj2 hf2 hs2 hrt
theorem z_l41x (X : zX gKX E) (B : zB E) (A : zA E gJ1) {oX oM oO oT ax am ao : Nat} (F : zFx E oX oM oO oT ax am ao) (hLS : E.2.2.1 ≤ 3072) {i z : Int32} (hi : 0 ≤ i.toInt ∧ i.toInt + 6 ≤ (E.2.2.1 : Int)) {ws : va_W} {ce sl : Nat} {K : gK} (W : zWl E oM oT z ws) (hce : ce + 1 ≤ 601024) (hsl : sl + 6 ≤ 7293034) (hT : ∀ (ws2 : va_W) (z2 : Int32), zWl E oM oT z2 ws2 → zGl E 1525 (zlv E ax am ao i) [] ws2 ce sl K) : zGl E 1412 (zlv E ax am ao i) [] ws ce sl K := by
  obtain ⟨w1, ⟨w2, wT, wR⟩, w3, w4⟩ := W
  have hE := wT.1
  obtain ⟨eX, eM_, eT⟩ := zt_pl hE F
  subst eX eM_ eT
  obtain ⟨⟨x1, x2⟩, ⟨m1, m2⟩, ⟨o1, o2⟩, t1, t2⟩ := F
  have hl : zsoc.length = (zad E).length := by rw [← w1.2.1, hE, zso_l.1, zso_l.2]
  obtain ⟨fs, hfs⟩ := zt_obj w1 x1 x2 (c := 11) ⟨_, rfl, rfl⟩
  refine g_aload (j := 1) (len := 1) (i := .aload_n 1) (Or.inr ⟨1, rfl, rfl, rfl⟩) (List.mem_of_getElem? (l := ga_297) (i := 843) (by decide +kernel)) (a := ax) (List.mem_cons_of_mem _ List.mem_cons_self) ?_
  obtain ⟨yN, cc, ret, ok, lk, hcls⟩ := B.2.2.2.1 13 190 1 161 1 (by decide +kernel) (Or.inr (Or.inr (Or.inl rfl))) (gm_161, 2) rfl
  refine g_call B.1 B.2.1 ok (mi := gm_L) lk hcls (i := .invokevirtual 190) (Or.inr ⟨rfl, Or.inl rfl⟩) (pc := 1413) (asx := [.ref ax]) (rx := []) (List.mem_of_getElem? (l := ga_297) (i := 844) (by decide +kernel)) ⟨by decide, by decide, by show ce + 0 ≤ 601024; omega, by show sl + 0 ≤ 7293034; omega, Nat.le_of_ble_eq_true rfl, Nat.le_of_ble_eq_true rfl⟩ rfl rfl (fun _ => ⟨0, ax, fs, [], rfl, hfs⟩) ?_
  have hz1 : zci ws 1 1 = z.toInt := zci_int w3
  have hz2 : zci ws 167 2 = z.toInt := zci_int w4
  refine z_sec X B A x2 hl w1 w2 wT wR.2.1 rfl rfl (fun ws2 v u1 u2 u3 u4 u5 hv uC uK => ?_)
  refine g_pop (List.mem_of_getElem? (l := ga_297) (i := 845) (by decide +kernel)) rfl ?_
  refine g_aload (j := 2) (len := 1) (i := .aload_n 2) (Or.inr ⟨2, rfl, rfl, rfl⟩) (List.mem_of_getElem? (l := ga_297) (i := 846) (by decide +kernel)) (a := am) (List.mem_cons_of_mem _ (List.mem_cons_of_mem _ List.mem_cons_self)) ?_
  obtain ⟨fs2, hfs2⟩ := zt_obj u1 m1 m2 (c := 12) ⟨_, rfl, rfl⟩
  obtain ⟨yN2, cc2, ret2, ok2, lk2, hcls2⟩ := B.2.2.2.1 13 193 1 268 1 (by decide +kernel) (Or.inr (Or.inr (Or.inl rfl))) (gm_268, 3) rfl
  refine g_call B.1 B.2.1 ok2 (mi := gm_L) lk2 hcls2 (i := .invokevirtual 193) (Or.inr ⟨rfl, Or.inl rfl⟩) (pc := 1418) (asx := [.ref am]) (rx := []) (List.mem_of_getElem? (l := ga_297) (i := 847) (by decide +kernel)) ⟨by decide, by decide, by show ce + 0 + 0 ≤ 601024; omega, by show sl + 0 + 0 ≤ 7293034; omega, Nat.le_of_ble_eq_true rfl, Nat.le_of_ble_eq_true rfl⟩ rfl rfl (fun _ => ⟨167, am, fs2, [], rfl, hfs2⟩) ?_
  have c168 : zci ws2 168 = zci ws 2 := zci_cg (fun i => (u4 168 51 i rfl (by decide)).trans (zt_by w1 hE wT.2.2.1 i).symm)
  have cc : ∀ {o t : Nat}, zso0[o]? = some t → 51 ≤ t → zci ws2 o = zci ws o := fun ho ht => zci_cg (fun i => u4 _ _ i ho (Or.inr ht))
  have c172 : zci ws2 172 = zci ws 172 := cc (t := 55) rfl (by decide)
  have c169 : zci ws2 169 = zci ws 169 := cc (t := 52) rfl (by decide)
  have c191 : zci ws2 191 = zci ws 191 := cc (t := 74) rfl (by decide)
  have c192 : zci ws2 192 = zci ws 192 := cc (t := 75) rfl (by decide)
  have c193 : zci ws2 193 = zci ws 193 := cc (t := 76) rfl (by decide)
  have c167 : zci ws2 167 2 = zci ws 1 1 := by
    rw [hz1, ← hz2]
    unfold zci
    rw [u4 167 12 _ rfl (by decide)]
  have ex : ((fun q => vand (zci ws2 168 q) 255, zci ws2 167 2, 200) : qX) = (fun q => vand (zci ws 2 q) 255, zci ws 1 1, 200) := by rw [c168, c167]
  have hQQ : qsq (fun q => vand (zci ws2 168 q) 255, zci ws2 167 2, 200) (zci ws2 172) (zci ws2 169 0) (zci ws2 169 1) 1000 false 1 1 [] 0 0 = qN (fun q => vand (zci ws 2 q) 255, zci ws 1 1, 200) (zS0 ws) false 1 1 [] 0 0 := by
    rw [ex, c172, c169]
    rfl
  generalize qN (fun q => vand (zci ws 2 q) 255, zci ws 1 1, 200) (zS0 ws) false 1 1 [] 0 0 = Q at hQQ hv uK
  rw [← ex] at hv
  refine z_sel X B m2 u1 u2 u3 (Q := Q) hQQ.symm (r := v.toInt) hv (fun ws3 v2 d1 d2 d3 d4 d5 hv2 d6 d7 k1 k2 => ?_)
  have hR3 : zTr E ws3 := by
    have e191 : ∀ i : Int, ((0 ≤ i ∧ i < 5) ∨ (402 ≤ i ∧ i < 407)) → zci ws3 191 i = zci ws 191 i := fun i hi => by
      rw [← c191]
      rcases hi with hi | hi
      · exact zCs_ci d6 (o := 191) (lo := 0) (hi := 5) (by decide) hi.1 hi.2
      · exact zCs_ci d6 (o := 191) (lo := 402) (hi := 407) (by decide) hi.1 hi.2
    have e192 : ∀ i : Int, 0 ≤ i → i < 48 → zci ws3 192 i = zci ws 192 i := fun i a b => by rw [← c192]; exact zCs_ci d6 (o := 192) (lo := 0) (hi := 48) (by decide) a b
    have e193 : ∀ i : Int, 0 ≤ i → i < 2 → zci ws3 193 i = zci ws 193 i := fun i a b => by rw [← c193]; exact zCs_ci d6 (o := 193) (lo := 0) (hi := 2) (by decide) a b
    exact zTr_v (zCs_tr uC (zCs_sub (by decide +kernel) d6)) (fun i a b => by rw [← c169]; exact k1 i a b) (fun i a b => by rw [← c172]; exact k2 i a b) (fun i a b => e191 i (Or.inl ⟨a, b⟩)) (fun i a b => e191 i (Or.inr ⟨a, b⟩)) e192 e193 ((zci_pt (j := 2) (i := 2) (d4 2)).trans (uK.trans d7.symm)) wR
  refine g_pop (List.mem_of_getElem? (l := ga_297) (i := 848) (by decide +kernel)) rfl ?_
  refine g_goto (off := 103) (t := 1525) (List.mem_of_getElem? (l := ga_297) (i := 849) (by decide +kernel)) rfl ?_
  exact hT ws3 0 ⟨d1, ⟨d2, d3, hR3⟩, (d4 1).trans u5, d5⟩
end ZTS
