/-! THE CLASS'S TERRACE -/
theorem mdR_k : mdk mdR = true := by decide +kernel
section ZTB
variable {E : zE}
theorem z165f (X : zX gKX E) (B : zB E) {w : va_W} {σ : vS} {K : vKL} (hK : K (some (.inl (-1 - σ 7 3))) (vup σ 7 1 0)) : zGC E [(7, 1, 2)] w gm_165 12 [(0, .inr (.inl 11)), (1, .inl (-1))] σ K := by
  refine zbdC (fun hb => zgoC X B zS_nilC [] [] (fun m => false) (by decide +kernel) ?_)
  refine And.intro (show 0 ≤ 0 ∧ 0 ≤ 940 from by omega) ?_
  refine And.intro (fun hc => absurd (show (0 : Int) ≤ -1 from hc) (by decide)) (fun hc => ?_)
  have h3 : Int.negSucc 2147483647 ≤ σ 7 3 ∧ σ 7 3 ≤ 900 := zfC hb (t := 7) (f := 3) (by decide +kernel)
  have e3 : vup σ 7 1 0 7 3 = σ 7 3 := vup_ne 7 3 (by decide)
  refine And.intro (show Int.negSucc 2147483647 ≤ -1 - vup σ 7 1 0 7 3 ∧ -1 - vup σ 7 1 0 7 3 ≤ 2147483647 from ?_) (show K (some (.inl (-1 - vup σ 7 1 0 7 3))) (vup σ 7 1 0) from ?_)
  · rw [e3]
    have := h3.1
    exact rgm (by omega)
  · rw [e3]
    exact hK
theorem qloop_s {x : qX} : ∀ (k : Nat) (l : Int) (S : qS), 0 ≤ l → (qloop x k l S).2.1 = 0 → 0 ≤ (qloop x k l S).1
  | 0, l, S, h, _ => h
  | k + 1, l, S, h, h0 => by
    by_cases h1 : qtk x S = 0
    · rw [qloop_e h1]; exact h
    · by_cases h2 : (qfull x S).1 = 0
      · rw [qloop_g h1 h2] at h0 ⊢
        exact qloop_s k (l + 1) _ (by omega) h0
      · rw [qloop_f h1 h2] at h0
        exact absurd h0 h2
/-- what the law's rounds keep, when only the class's reader has written -/
theorem zTp_c {md : aMd} {ws ws2 : va_W} (hm : mdcl md = true) (hE : zso E = zso0) (hf : fRel zsoc md ws ws2) (hF : zFn E ws2) (h : zTp E ws) : zTp E ws2 := by
  obtain ⟨h1, h2, ⟨c, r, k1, k2, k3⟩, ⟨p, p1, p2⟩, ⟨q, q1, q2⟩⟩ := h
  have hm2 : mdcl2 md = true := List.all_eq_true.mpr fun q hq => by
    have g := List.all_eq_true.mp hm q hq
    rw [Bool.or_eq_true] at g ⊢
    rcases g with g | g
    · exact Or.inl g
    · exact Or.inr (by rw [g, Bool.or_true])
  have key : ∀ {o t i : Nat}, (zso E)[o]? = some t → okc t = true → ¬ t = 7 → gcv ws2 o i = gcv ws o i := fun h ht h7 => zf_keep hm2 hf (by rw [← hE]; exact h) ht h7 (fun _ => hm)
  exact ⟨hE, hF, ⟨c, r, k1, k2, fun i hi => by rw [key k1 (by decide +kernel) (by decide), key k2 (by decide +kernel) (by decide)]; exact k3 i hi⟩, ⟨p, p1, fun j hj => by rw [key p1 (by decide +kernel) (by decide)]; exact p2 j hj⟩, ⟨q, q1, fun j hj => by rw [key q1 (by decide +kernel) (by decide)]; exact q2 j hj⟩⟩
theorem mdR_lo : (mdR.all fun q => Nat.blt q.1 51 && !(Nat.beq q.1 12)) = true := by decide +kernel
theorem okc_hi : ∀ t, t < 78 → (t = 12 ∨ 51 ≤ t) → okc t = true := by decide +kernel
theorem qkc_64 (j : Int) (h0 : 0 ≤ j) (h1 : j < 30) : (Int64.ofInt (qkc j)).toInt = qkc j := by
  have g : ((List.range 30).all fun n => decide ((Int64.ofInt (qkc (n : Int))).toInt = qkc (n : Int))) = true := by decide +kernel
  have := List.all_eq_true.mp g j.toNat (List.mem_range.mpr (by omega))
  rw [show ((j.toNat : Nat) : Int) = j by omega] at this
  exact of_decide_eq_true this
theorem qrw_64 (j : Int) (h0 : 0 ≤ j) (h1 : j < 30) : (Int64.ofInt (qrw j)).toInt = qrw j := by
  have g : ((List.range 30).all fun n => decide ((Int64.ofInt (qrw (n : Int))).toInt = qrw (n : Int))) = true := by decide +kernel
  have := List.all_eq_true.mp g j.toNat (List.mem_range.mpr (by omega))
  rw [show ((j.toNat : Nat) : Int) = j by omega] at this
  exact of_decide_eq_true this
/-- the length is a word -/
theorem zt_len (hE : zso E = zso0) {ws : va_W} (hw : wOk (zso E) (zad E) E.2.2.2.2.2.2.1 gST ws) : ∃ y : Int32, gcv ws 1 1 = some (.int y) := by
  obtain ⟨a, e, g1, g2, g3⟩ := w0_at (ST := gST) (tys := E.2.2.2.2.2.2.1) ⟨hw.1, hw.2.1, fun o t q hq ht => (hw.2.2 o t q hq ht).1⟩ (o := 1) (t := 7) (by rw [hE]; rfl)
  unfold eOk at g3
  obtain ⟨ob, hob, q, hf⟩ : ∃ ob, gST 7 = some (.inl ob) ∧ ∃ q, ob.2[1]? = some (.inl q) := ⟨_, rfl, _, rfl⟩
  rw [hob] at g3
  obtain ⟨fs, rfl, k1, k2⟩ := g3
  have x1 := List.getElem?_eq_getElem (show 1 < fs.length by rw [k1]; exact (List.getElem?_eq_some_iff.mp hf).1)
  obtain ⟨y, hy, -⟩ := k2 _ _ _ hf x1
  rw [hy] at x1
  exact ⟨y, (gcv_at g1 1).trans x1⟩
/-- the class's TERRACE -/
theorem z_terc (X : zX gKX E) (B : zB E) (A : zA E gJ1) {ax : Nat} (ha : (zad E)[0]? = some ax) (hl : zsoc.length = (zad E).length) {ws : va_W} (hw : wOk (zso E) (zad E) E.2.2.2.2.2.2.1 gST ws) (hj : jOk (zso E) gJ1 ws) (hT : zTp E ws) (hR : zRf E ws) (nm : Int → Int) {Q : Int × Int × qS} (hQ : Q = qloop (fun q => vand (zci ws 2 q) 255, zci ws 1 1, 900) 1000 0 (qz nm)) {r : Int} (hr : r = Q.1) {K : gK}
    (h : ∀ (ws2 : va_W) (v : Int32), wOk (zso E) (zad E) E.2.2.2.2.2.2.1 gST ws2 → jOk (zso E) gJ1 ws2 → zTp E ws2 → (∀ o t i : Nat, zso0[o]? = some t → (t = 12 ∨ 51 ≤ t) → gcv ws2 o i = gcv ws o i) → gcv ws2 1 1 = some (.int 0) → v.toInt = r → zci ws2 1 2 = Q.2.1 → (¬ Q.2.1 = 0 → zCs zclc ws ws2) → (Q.2.1 = 0 → zCs zclo ws ws2 ∧ zAt ws2 4 Q.2.2 ∧ zAb Q.2.2) → K (some (.int v)) ws2) : zgE E gm_165 0 (lv_args 0 [.ref ax]) [] ws 0 0 K := by
  have hE : zso E = zso0 := hT.1
  have hF := hT.2.1
  obtain ⟨a0, e, g1, g2, g3⟩ := w0_at (so := zsoc) (ad := zad E) (tys := E.2.2.2.2.2.2.1) (ST := gSTc) ⟨hw.1, hl, fun o t q hq ht => hF o t q hq ht⟩ (o := 0) (t := 11) rfl
  rw [ha] at g2
  cases g2
  unfold eOk at g3
  obtain ⟨ob, hob, hf, hf7, hfc⟩ : ∃ ob, gSTc 11 = some (.inl ob) ∧ ob.2[0]? = some (.inr (.inl 7)) ∧ ob.2[7]? = some (.inr (.inl 9)) ∧ ob.1 = 11 := ⟨_, rfl, rfl, rfl, rfl⟩
  rw [hob] at g3
  obtain ⟨fs, rfl, k1, k2⟩ := g3
  rw [hfc] at g1
  have x0 := List.getElem?_eq_getElem (show 0 < fs.length by rw [k1]; exact (List.getElem?_eq_some_iff.mp hf).1)
  have x7 := List.getElem?_eq_getElem (show 7 < fs.length by rw [k1]; exact (List.getElem?_eq_some_iff.mp hf7).1)
  obtain ⟨o0, b0, p0, q0, r0⟩ := k2 _ _ _ hf x0
  obtain ⟨o7, b7, p7, q7, r7⟩ := k2 _ _ _ hf7 x7
  rw [r0] at x0
  rw [r7] at x7
  have h11 : (zso E)[0]? = some 11 := by rw [hE]; rfl
  have h7u : ∀ o : Nat, (zso E)[o]? = some 7 → o = 1 := fun o ho => by rw [hE] at ho; exact so_one ho rfl
  refine g_aload (j := 0) (len := 1) (i := .aload_n 0) (Or.inr ⟨0, rfl, rfl, rfl⟩) (List.mem_of_getElem? (l := ga_165) (i := 0) rfl) (a := ax) List.mem_cons_self ?_
  refine g_get B.2.2.1 (List.mem_of_getElem? (l := ga_165) (i := 1) rfl) (q := (11, 7, 12)) (by decide +kernel) g1 x7 ?_
  refine g_aload (j := 0) (len := 1) (i := .aload_n 0) (Or.inr ⟨0, rfl, rfl, rfl⟩) (List.mem_of_getElem? (l := ga_165) (i := 2) rfl) (a := ax) List.mem_cons_self ?_
  refine g_get B.2.2.1 (List.mem_of_getElem? (l := ga_165) (i := 3) rfl) (q := (11, 0, 12)) (by decide +kernel) g1 x0 ?_
  obtain ⟨yN, cc, ret, ok, lk, hcls⟩ := B.2.2.2.1 11 112 1 101 2 (by decide +kernel) (Or.inr (Or.inr (Or.inl rfl))) (gm_101, 3) rfl
  obtain ⟨fs9, hfs9⟩ : ∃ fs9, ws[o7]? = some (b7, (.inr (9, fs9) : va_E)) := by
    obtain ⟨a, e, u1, u2, u3⟩ := w0_at (so := zsoc) (ad := zad E) (tys := E.2.2.2.2.2.2.1) (ST := gSTc) ⟨hw.1, hl, fun o t q hq ht => hF o t q hq ht⟩ p7
    rw [q7] at u2
    cases u2
    unfold eOk at u3
    obtain ⟨ob, hob, hfc⟩ : ∃ ob, gSTc 9 = some (.inl ob) ∧ ob.1 = 9 := ⟨_, rfl, rfl⟩
    rw [hob] at u3
    obtain ⟨fs9, rfl, -, -⟩ := u3
    rw [hfc] at u1
    exact ⟨fs9, u1⟩
  refine g_call B.1 B.2.1 ok (mi := gm_165) lk hcls (i := .invokevirtual 112) (Or.inr ⟨rfl, Or.inl rfl⟩) (pc := 8) (asx := [.ref b7, .ref b0]) (rx := []) (List.mem_of_getElem? (l := ga_165) (i := 4) rfl) ⟨by decide, by decide, by decide, by decide, by decide, Nat.le_of_ble_eq_true rfl⟩ rfl rfl (fun _ => ⟨o7, b7, fs9, [.ref b0], rfl, hfs9⟩) ?_
  refine zg_ofC (md := md72) hw hF hl (vs := [.inr (.inl 9), .inr (.inl 7)]) (asx := [.ref b7, .ref b0]) ⟨⟨o7, b7, p7, q7, rfl⟩, ⟨o0, b0, p0, q0, rfl⟩, trivial⟩ (fun σ hs hc => vk_101 X B (gm_101, 3) rfl _ σ _ ?_)
  have c34 : σ 34 = zci ws 2 := hc 34 rfl
  have c7 : σ 7 = zci ws 1 := hc 7 rfl
  have c35 : σ 35 = zci ws 3 := hc 35 rfl
  have ex : ctx σ = fun q => vand (zci ws 2 q) 255 := by
    funext q
    unfold ctx
    rw [c34]
  have hbk : ∀ {ws2 : va_W}, wOk0 E.2.2.2.2.2.2.1 zsoc (zad E) gSTc ws2 → fRel zsoc md72 ws ws2 → (wOk (zso E) (zad E) E.2.2.2.2.2.2.1 gST ws2 ∧ jOk (zso E) gJ1 ws2 ∧ zFn E ws2) ∧ zTp E ws2 ∧ ∀ o t i : Nat, zso0[o]? = some t → (t = 12 ∨ 51 ≤ t) → gcv ws2 o i = gcv ws o i := fun h0 hf => by
    have g := zc_back (md := md72) (by decide +kernel) hE hw hj h0 hf
    refine ⟨g, zTp_c (md := md72) (by decide +kernel) hE hf g.2.2 hT, fun o t i ho ht => zf_keep (md := md72) (by decide +kernel) hf ho ?_ (by omega) (by omega)⟩
    have hlt : t < 78 := by
      have g2 := List.all_eq_true.mp zcs_lt o (List.mem_range.mpr (by rw [← zso_l.1]; exact (List.getElem?_eq_some_iff.mp ho).1))
      rw [ho] at g2
      exact Nat.le_of_ble_eq_true g2
    exact okc_hi t hlt ht
  refine ⟨fun j j0 j1 => ?_, nm, fun hk σ2 h2 hb2 ws2 rv hw2 hf2 hs2 hrt => ?_, fun hk σ2 h2 h3 ws2 rv hw2 hf2 hs2 hrt => ?_⟩
  · obtain ⟨p, p1, p2⟩ := hT.2.2.2.1
    rw [hE] at p1
    have ep : p = 3 := so_one p1 rfl
    subst ep
    have e := p2 j.toNat (by omega)
    rw [show ((j.toNat : Nat) : Int) = j by omega] at e
    have e := zci_long e
    rw [show ((j.toNat : Nat) : Int) = j by omega] at e
    rw [c35, e]
    exact qkc_64 j j0 j1
  · rw [ex, c7, ← hQ] at hk hrt hb2
    have h0 := qloop_s (x := (fun q => vand (zci ws 2 q) 255, zci ws 1 1, 900)) 1000 0 (qz nm) (by decide) (by rw [← hQ]; exact hk)
    rw [← hQ, ← hr] at h0
    rw [← hr] at hrt
    obtain ⟨⟨b1, b2, b3⟩, b4, b5⟩ := hbk hw2 hf2
    have zc2 : zCs zclc ws ws2 := zCs_md (so := zsoc) (md := md72) (by decide +kernel) hf2
    obtain ⟨t90, tb⟩ := zAt_of hE b1 hs2 hb2
    have k12 : zci ws2 1 2 = 0 := by
      obtain ⟨y, hy, -, -⟩ := cf_int hE b1 (o := 1) (t := 7) rfl (f := 2) (lo := .ofNat 0) (hi := .ofNat 4) ⟨_, rfl, rfl⟩
      exact (cx_ci hs2 (o := 1) (t := 7) rfl rfl (i := 2) (by decide) (Or.inl ⟨y, hy⟩)).trans h2
    cases rv with
    | none => exact absurd hrt id
    | some v =>
      obtain ⟨v, rfl, hv⟩ := hrt
      refine g_istore (j := 1) (len := 1) (i := .istore_n 1) (Or.inr ⟨1, rfl, rfl, rfl⟩) (List.mem_of_getElem? (l := ga_165) (i := 5) rfl) ?_
      refine z165n B A hE ha b1 b2 (zRf_cs zc2 hR) (by omega) (List.mem_cons_of_mem _ List.mem_cons_self) List.mem_cons_self (fun ws3 d1 d2 d3 d4 d5 d6 d7 d8 => ?_)
      refine h ws3 v d1 d2 (zTp_fr mdR_k d3 b1 d1 b4) (fun o t i ho ht => ?_) d4 hv ((zci_pt (d5 2 (by decide))).trans (k12.trans hk.symm)) (fun q => absurd hk q) (fun _ => ⟨zCs_tr (fun q hq i q1 q2 => ?_) d8, zAt_cg tb (fun i hi => ?_) (fun i i0 i1 => ?_) (fun i i0 i1 => ?_) (fun i i0 i1 => ?_) (fun i i0 i1 => ?_) t90, tb⟩)
      rotate_left
      · have g := (by decide : ∀ q ∈ zclo, q ∈ zclc ∨ q = (4, 0, 8)) q hq
        rcases g with g | rfl
        · exact zc2 q g i q1 q2
        · exact zc2 (4, 0, 10) (by decide) i q1 (Nat.lt_of_lt_of_le q2 (by decide))
      · rcases hi with rfl | rfl
        · exact zci_pt (o := 90) (o2 := 4) (i := 8) (j := 8) (d7 8 (Or.inl rfl))
        · exact zci_pt (o := 90) (o2 := 4) (i := 9) (j := 9) (d7 9 (Or.inr rfl))
      · have e := zci_pt (d6 0 i.toNat (by decide) (by omega))
        rw [show ((i.toNat : Nat) : Int) = i by omega] at e
        exact e
      · have e := zci_pt (d6 1 i.toNat (by decide) (by omega))
        rw [show ((i.toNat : Nat) : Int) = i by omega] at e
        exact e
      · have e := zci_pt (d6 2 i.toNat (by decide) (by omega))
        rw [show ((i.toNat : Nat) : Int) = i by omega] at e
        exact e
      · have e := zci_pt (d6 3 i.toNat (by decide) (by omega))
        rw [show ((i.toNat : Nat) : Int) = i by omega] at e
        exact e
      rw [← b5 o t i ho ht]
      refine d3 o t i (by rw [hE]; exact ho) (fun q hq w => ?_)
      have g := List.all_eq_true.mp mdR_lo q hq
      have g : (Nat.blt q.1 51 && !(Nat.beq q.1 12)) = true := g
      rw [Bool.and_eq_true] at g
      have g1 : q.1 < 51 := Nat.le_of_ble_eq_true g.1
      rcases ht with ht | ht
      · rw [w.1, ht] at g
        exact absurd g.2 (by decide)
      · omega
  · rw [ex, c7, ← hQ] at hk h3 h2
    rw [← hr] at h3
    have zc2 : zCs zclc ws ws2 := zCs_md (so := zsoc) (md := md72) (by decide +kernel) hf2
    obtain ⟨⟨b1, b2, b3⟩, b4, b5⟩ := hbk hw2 hf2
    cases rv with
    | none => exact absurd hrt id
    | some v =>
      obtain ⟨v, rfl, hv⟩ := hrt
      refine g_istore (j := 1) (len := 1) (i := .istore_n 1) (Or.inr ⟨1, rfl, rfl, rfl⟩) (List.mem_of_getElem? (l := ga_165) (i := 5) rfl) ?_
      have hW : vWL E.2.2.2.2.2.2.1 zsoc (zad E) gSTc [] [(7, 1, 2)] ws2 uqc ws2 σ2 := ⟨hw2, fun J hJ => absurd hJ List.not_mem_nil, fRel_refl, hs2⟩
      refine z165f X B (w := ws2) (σ := σ2) (K := fun ret σ3 => ∀ (ws3 : va_W) (rv : Option Value), wOk0 E.2.2.2.2.2.2.1 zsoc (zad E) gSTc ws3 → fRel zsoc [(7, 1, 2)] ws2 ws3 → vsgL zsoc uqc ws3 σ3 → vRtL zsoc (zad E) ret rv → K rv ws3) (fun ws3 rv hw3 hf3 hs3 hrt3 => ?_) K _ [] ws2 hW ?_ trivial (fun ret σ3 ws3 rv hk3 hW3 hrt3 => hk3 ws3 rv hW3.1 hW3.2.2.1 hW3.2.2.2 hrt3)
      · cases rv with
        | none => exact absurd hrt3 id
        | some u =>
          obtain ⟨u, rfl, hu⟩ := hrt3
          have g := zc_back (md := [(7, 1, 2)]) (by decide +kernel) hE b1 b2 hw3 hf3
          refine h ws3 u g.1 g.2.1 (zTp_c (md := [(7, 1, 2)]) (by decide +kernel) hE hf3 g.2.2 b4) (fun o t i ho ht => ?_) ?_ (hu.trans h3) ?_ (fun _ => zCs_tr zc2 (zCs_md (so := zsoc) (md := [(7, 1, 2)]) (by decide +kernel) hf3)) (fun q => absurd q hk)
          rotate_left 2
          · obtain ⟨y, hy, -, -⟩ := cf_int hE g.1 (o := 1) (t := 7) rfl (f := 2) (lo := .ofNat 0) (hi := .ofNat 4) ⟨_, rfl, rfl⟩
            have e := cx_ci hs3 (o := 1) (t := 7) rfl rfl (i := 2) (by decide) (Or.inl ⟨y, hy⟩)
            rw [e]
            exact (vup_ne 7 2 (fun q => by have := q.2; omega)).trans h2
          · rw [← b5 o t i ho ht]
            have hlt : t < 78 := by
              have g2 := List.all_eq_true.mp zcs_lt o (List.mem_range.mpr (by rw [← zso_l.1]; exact (List.getElem?_eq_some_iff.mp ho).1))
              rw [ho] at g2
              exact Nat.le_of_ble_eq_true g2
            exact zf_keep (md := [(7, 1, 2)]) (by decide +kernel) hf3 ho (okc_hi t hlt ht) (by omega) (by omega)
          · obtain ⟨y, hy⟩ := zt_len hE g.1
            have e := hs3.1 1 7 1 y rfl rfl hy
            have e : y.toInt = vup σ2 7 1 0 7 1 := e
            rw [vup_eq] at e
            rw [hy, show y = 0 from Int32.toInt_inj.mp (by rw [e]; rfl)]
      · intro q hq
        rcases List.mem_cons.mp hq with rfl | hq
        · exact ⟨_, List.mem_cons_of_mem _ List.mem_cons_self, 0, ax, rfl, ha, rfl⟩
        have e9 := List.mem_singleton.mp hq
        subst e9
        exact ⟨_, List.mem_cons_self, v, rfl, hv⟩
end ZTB
