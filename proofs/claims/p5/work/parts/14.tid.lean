/-! THE CHECKER IS RIGHT: the world, read and written. -/
theorem gcv_set {ws : va_W} {o a : Nat} {e e2 : va_E} (h : ws[o]? = some (a, e)) (o2 i : Nat) : gcv (ws.set o (a, e2)) o2 i = if o2 = o then gcl e2 i else gcv ws o2 i := by
  have hl : o < ws.length := (List.getElem?_eq_some_iff.mp h).1
  unfold gcv
  by_cases ho : o2 = o
  · subst ho
    rw [List.getElem?_set_self hl, if_pos rfl]
  · rw [List.getElem?_set_ne (fun q => ho q.symm), if_neg ho]
theorem gcv_at {ws : va_W} {o a : Nat} {e : va_E} (h : ws[o]? = some (a, e)) (i : Nat) : gcv ws o i = gcl e i := by
  unfold gcv
  rw [h]
theorem amdk_ok {md : aMd} {t : Nat} {a c : Int} (h : amdk md t a c = true) : ∃ q ∈ md, q.1 = t ∧ (q.2.1 : Int) ≤ a ∧ c + 1 ≤ (q.2.2 : Int) := by
  induction md with
  | nil => cases h
  | cons q r ih =>
    have h : (bif Nat.beq q.1 t && (ile (Int.ofNat q.2.1) a && ile (c + 1) (Int.ofNat q.2.2)) then true else amdk r t a c) = true := h
    cases hb : Nat.beq q.1 t && (ile (Int.ofNat q.2.1) a && ile (c + 1) (Int.ofNat q.2.2)) with
    | true =>
      rw [Bool.and_eq_true, Bool.and_eq_true, ile_iff, ile_iff] at hb
      exact ⟨q, List.mem_cons_self, Nat.eq_of_beq_eq_true hb.1, hb.2.1, hb.2.2⟩
    | false =>
      rw [hb, cond_false] at h
      obtain ⟨w, g1, g2⟩ := ih h
      exact ⟨w, List.mem_cons_of_mem _ g1, g2⟩
theorem argj_ok {a c : Int} : ∀ {rg : List (Nat × Int × Int)} {s : Int} {w : Int × Int}, argj a c rg s = some w → ∀ (j : Nat) (u : Int × Int), a ≤ (j : Int) → (j : Int) ≤ c → rgAt rg j = some u → w.1 ≤ u.1 ∧ u.2 ≤ w.2
  | [], s, w, h => (nomatch h)
  | q :: r, s, w, h => by
    intro j u h1 h2 hu
    have h : (bif ile (Int.ofNat q.1) a then argj a c r (Int.ofNat q.1) else (bif ile (c + 1) (Int.ofNat q.1) then some q.2 else (match argj a c r (Int.ofNat q.1) with
      | some w => some (imn q.2.1 w.1, imx q.2.2 w.2)
      | none => none))) = some w := h
    have hu : (if j < q.1 then some q.2 else rgAt r j) = some u := hu
    cases c1 : ile (Int.ofNat q.1) a with
    | true =>
      rw [c1, cond_true] at h
      rw [ile_iff] at c1
      have c1 : (q.1 : Int) ≤ a := c1
      rw [if_neg (by omega)] at hu
      exact argj_ok h j u h1 h2 hu
    | false =>
      rw [c1, cond_false] at h
      cases c2 : ile (c + 1) (Int.ofNat q.1) with
      | true =>
        rw [c2, cond_true] at h
        rw [ile_iff] at c2
        have c2 : c + 1 ≤ (q.1 : Int) := c2
        rw [if_pos (by omega)] at hu
        cases h; cases hu
        exact ⟨Int.le_refl _, Int.le_refl _⟩
      | false =>
        rw [c2, cond_false] at h
        cases hr : argj a c r (Int.ofNat q.1) with
        | none => rw [hr] at h; cases h
        | some w2 =>
          rw [hr] at h
          cases h
          by_cases hj : j < q.1
          · rw [if_pos hj] at hu
            cases hu
            exact ⟨(imn_le _ _).1, (imx_ge _ _).1⟩
          · rw [if_neg hj] at hu
            obtain ⟨g1, g2⟩ := argj_ok hr j u h1 h2 hu
            exact ⟨Int.le_trans (imn_le _ _).2 g1, Int.le_trans g2 (imx_ge _ _).2⟩
theorem argw_ok {a c lo hi : Int} : ∀ {rg : List (Nat × Int × Int)}, argw a c lo hi rg = true → ∀ (j : Nat) (u : Int × Int), a ≤ (j : Int) → (j : Int) ≤ c → rgAt rg j = some u → u.1 ≤ lo ∧ hi ≤ u.2
  | [], h => (nomatch h)
  | q :: r, h => by
    intro j u h1 h2 hu
    have h : (bif ile (Int.ofNat q.1) a then argw a c lo hi r else (bif ile q.2.1 lo && ile hi q.2.2 then (bif ile (c + 1) (Int.ofNat q.1) then true else argw a c lo hi r) else false)) = true := h
    have hu : (if j < q.1 then some q.2 else rgAt r j) = some u := hu
    cases c1 : ile (Int.ofNat q.1) a with
    | true =>
      rw [c1, cond_true] at h
      rw [ile_iff] at c1
      have c1 : (q.1 : Int) ≤ a := c1
      rw [if_neg (by omega)] at hu
      exact argw_ok h j u h1 h2 hu
    | false =>
      rw [c1, cond_false] at h
      obtain ⟨hb, h⟩ := e_cond h e_ff
      rw [Bool.and_eq_true, ile_iff, ile_iff] at hb
      by_cases hj : j < q.1
      · rw [if_pos hj] at hu
        cases hu
        exact hb
      · rw [if_neg hj] at hu
        cases c2 : ile (c + 1) (Int.ofNat q.1) with
        | true =>
          rw [ile_iff] at c2
          have c2 : c + 1 ≤ (q.1 : Int) := c2
          omega
        | false =>
          rw [c2, cond_false] at h
          exact argw_ok h j u h1 h2 hu
section AH
variable {b : Nat} {so ad : List Nat} {tys : List (ClassId × FieldType)} {ST : Nat → Option aS} {JL : List aJ} {ρ : Nat → Int} {ρr : Nat → Nat} {md : aMd} {ws0 ws : va_W} {A : aA}
/-- a thing of a sort is there -/
theorem w_at (hw : wOk so ad tys ST ws) {o t : Nat} (ht : so[o]? = some t) : ∃ a e, ws[o]? = some (a, e) ∧ ad[o]? = some a ∧ eOk so ad tys ST t e := by
  have hl : o < ad.length := by rw [← hw.2.1]; exact (List.getElem?_eq_some_iff.mp ht).1
  obtain ⟨a, ha⟩ : ∃ a, ad[o]? = some a := ⟨ad[o], List.getElem?_eq_getElem hl⟩
  have h := ha
  rw [← hw.1] at h
  obtain ⟨e, he⟩ := ead_at.mp h
  exact ⟨a, e, he, ha, (hw.2.2 o t _ he ht).1⟩
theorem x_at (hw : wOk so ad tys ST ws) {o t a : Nat} {e : va_E} (he : ws[o]? = some (a, e)) (ht : so[o]? = some t) : xE t e := (hw.2.2 o t _ he ht).2
theorem afit_ok (hR : aRel b so ad tys ST JL ρ ρr md ws0 A ws) {f : aF} {v : aV} {x : Value} (h : afit A f v = true) (hv : vRel b ad ρ ρr A.1 A.2.2.1 v x) : vOk so ad f x := by
  rcases f with q | t | u
  · rcases v with y | r | m
    · obtain ⟨z, rfl, hz⟩ := vRel_int hv
      have h : abd A y (fun lo hi => ile q.1 lo && ile hi q.2) = true := h
      obtain ⟨lo, hi, h, b1, b2⟩ := abd_ok hR.1 h
      rw [Bool.and_eq_true, ile_iff, ile_iff] at h
      exact ⟨z, rfl, by omega, by omega⟩
    · cases h
    · cases h
  · rcases v with y | r | m
    · cases h
    · obtain ⟨h1, a, h2, rfl⟩ := hv
      have h : (match asrt A r with
        | some t2 => Nat.beq t2 t
        | none => false) = true := h
      cases hs : asrt A r with
      | none => rw [hs] at h; cases h
      | some t2 =>
        rw [hs] at h
        have := Nat.eq_of_beq_eq_true h
        subst this
        exact ⟨ρr r, a, (asrt_ok hR hs).2, h2, rfl⟩
    · cases h
  · rcases v with y | r | m
    · cases h
    · cases h
    · match m, h, hv with
      | 0, _, hv => exact hv
      | _ + 1, h, _ => cases h
/-- a new ref -/
def nwr (ρr : Nat → Nat) (n o : Nat) : Nat → Nat := fun k => if k = n then o else ρr k
theorem anewr_ok (hR : aRel b so ad tys ST JL ρ ρr md ws0 A ws) {t : Nat} {kk : aV → aA → Bool} (h : anewr A t kk = true) {o a : Nat} (ho : so[o]? = some t) (ha : ad[o]? = some a) :
    ∃ (A2 : aA) (ρr2 : Nat → Nat), kk (.inr (.inl A.2.2.1)) A2 = true ∧ aUp A ρ ρr A2 ρ ρr2 ∧ aRel b so ad tys ST JL ρ ρr2 md ws0 A2 ws ∧ vRel b ad ρ ρr2 A2.1 A2.2.2.1 (.inr (.inl A.2.2.1)) (.ref a) ∧ ρr2 A.2.2.1 = o ∧ A.2.2.1 < A2.2.2.1 := by
  obtain ⟨n, cs, nr, rs, hm⟩ := A
  unfold anewr at h
  dsimp only at h
  rw [ef_eq] at h
  obtain ⟨hc, ⟨r1, r2⟩, hh, hmm⟩ := hR
  dsimp only at hc r1 r2 hmm
  have he : aExt n nr ρ ρr ρ (nwr ρr nr o) := ⟨fun _ _ => rfl, fun r hr => if_neg (by omega)⟩
  have e0 : nwr ρr nr o nr = o := if_pos rfl
  refine ⟨_, nwr ρr nr o, h, ⟨Nat.le_refl n, Nat.le_succ nr, he⟩, ⟨hc, ⟨?_, ?_⟩, hh, fun e hq => mRel_up (Nat.le_refl n) (Nat.le_succ nr) he (hmm e hq)⟩, ⟨Nat.lt_succ_self nr, a, ?_, rfl⟩, e0, Nat.lt_succ_self nr⟩
  · show (_ :: rs).length = nr + 1
    rw [List.length_cons, r1]
  · intro r t2 hr ht
    dsimp only at hr ht
    by_cases hk : r = nr
    · subst hk
      rw [show r + 1 - 1 - r = 0 by omega, List.getElem?_cons_zero] at ht
      cases ht
      rw [e0]; exact ho
    · rw [show nr + 1 - 1 - r = (nr - 1 - r) + 1 by omega, List.getElem?_cons_succ] at ht
      rw [he.2 r (by omega)]
      exact r2 r t2 (by omega) ht
  · show ad[nwr ρr nr o nr]? = some a
    rw [e0]; exact ha
theorem afr_ok (hR : aRel b so ad tys ST JL ρ ρr md ws0 A ws) {f : aF} {pb : Nat} {pc : Int} {kk : aV → aA → Bool} (h : afr A f pb pc kk = true) {x : Value} (hx : vOk so ad f x) (hp : ∀ z : Int32, x = .int z → ρ pb + pc ≤ z.toInt) : aGot b so ad tys ST JL md ws0 ws A ρ ρr kk x := by
  rcases f with q | t | u
  · obtain ⟨z, rfl, h1, h2⟩ := hx
    obtain ⟨hb, h⟩ := e_cond (show (bif irg q.1 q.2 && (Nat.beq pb 0 || Nat.blt pb A.1) then anew A q.1 q.2 pb pc kk else false) = true from h) e_ff
    rw [Bool.and_eq_true, Bool.or_eq_true] at hb
    have hpb : pb < A.1 := by
      rcases hb.2 with q | q
      · rw [Nat.eq_of_beq_eq_true q]; exact hR.1.1
      · exact Nat.le_of_ble_eq_true q
    exact anew_v hR h h1 h2 hpb (hp z rfl) (fun q => absurd rfl q)
  · obtain ⟨o, a, h1, h2, rfl⟩ := hx
    obtain ⟨A2, ρr2, g1, g2, g3, g4, -, -⟩ := anewr_ok hR h h1 h2
    exact ⟨_, A2, ρ, ρr2, g1, g2, g3, g4⟩
  · exact ⟨_, A, ρ, ρr, h, aUp.refl, hR, hx⟩
theorem i_par0 (hR : aRel b so ad tys ST JL ρ ρr md ws0 A ws) {x : Value} : ∀ z : Int32, x = .int z → ρ 0 + iMin ≤ z.toInt := fun z _ => by rw [hR.1.2.2.1, Int.zero_add]; exact i_lo z
/-- a write -/
theorem a_wr (hR : aRel b so ad tys ST JL ρ ρr md ws0 A ws) {o i0 t a : Nat} {e e2 : va_E} (hw : ws[o]? = some (a, e)) (ht : so[o]? = some t) (hE : eOk so ad tys ST t e2) (hX : xE t e2) (hc : ∀ i, ¬ i = i0 → gcl e2 i = gcl e i) (hj : jOk so JL (ws.set o (a, e2))) (hmd : ∃ q ∈ md, q.1 = t ∧ q.2.1 ≤ i0 ∧ i0 < q.2.2) {ix : Nat × Int} (hix : ρ ix.1 + ix.2 = (i0 : Int)) {kk : aA → Bool} (h : awr A t ix kk = true) :
    ∃ A2 : aA, kk A2 = true ∧ A2.1 = A.1 ∧ A2.2.2.1 = A.2.2.1 ∧ aRel b so ad tys ST JL ρ ρr md ws0 A2 (ws.set o (a, e2)) := by
  obtain ⟨n, cs, nr, rs, hm⟩ := A
  unfold awr at h
  rw [aflt_eq] at h
  dsimp only at h
  obtain ⟨hs, hr, ⟨hW, hJ, hF⟩, hmm⟩ := hR
  dsimp only at hs hr hmm
  refine ⟨_, h, rfl, rfl, hs, hr, ⟨⟨?_, hW.2.1, ?_⟩, hj, ?_⟩, ?_⟩
  · rw [ead_set hw]; exact hW.1
  · intro o2 t2 q hq ht2
    have hl : o < ws.length := (List.getElem?_eq_some_iff.mp hw).1
    by_cases ho : o2 = o
    · subst ho
      rw [List.getElem?_set_self hl] at hq
      cases hq
      rw [ht] at ht2
      cases ht2
      exact ⟨hE, hX⟩
    · rw [List.getElem?_set_ne (fun q => ho q.symm)] at hq
      exact hW.2.2 o2 t2 q hq ht2
  · intro o2 t2 i h1 h2
    rw [gcv_set hw, ← hF o2 t2 i h1 h2]
    by_cases ho : o2 = o
    · subst ho
      rw [if_pos rfl, gcv_at hw]
      refine hc i (fun q => ?_)
      subst q
      rw [ht] at h1
      cases h1
      obtain ⟨q, g1, g2, g3, g4⟩ := hmd
      exact h2 q g1 ⟨g2, g3, g4⟩
    · rw [if_neg ho]
  · intro e3 he3
    obtain ⟨he3, hp⟩ := List.mem_filter.mp he3
    obtain ⟨g1, g2, g3, i, x, g4, g5, g6⟩ := hmm e3 he3
    refine ⟨g1, g2, g3, i, x, g4, ?_, g6⟩
    rw [gcv_set hw]
    by_cases ho : ρr e3.1 = o
    · rw [if_pos ho]
      rw [ho, gcv_at hw] at g5
      rw [← g5]
      refine hc i (fun q => ?_)
      subst q
      rw [ho, ht] at g2
      have g2 := Option.some.inj g2
      rw [← g2, Nat.beq_refl, cond_true] at hp
      exact adj_ok (A := (n, cs, nr, rs, hm)) hs hp (by rw [← g4, hix])
    · rw [if_neg ho]; exact g5
/-- cells are forgotten, and the world may have changed there -/
theorem amhit_ok (hs : cSat ρ A.1 A.2.1) {e : aE} {i : Nat} (hi : (i : Int) = ρ e.2.2.1.1 + e.2.2.1.2) : ∀ {mods : aMd}, amhit A e mods = false → abd A e.2.2.1 (fun _ _ => true) = true → ∀ q ∈ mods, ¬ (q.1 = e.2.1 ∧ q.2.1 ≤ i ∧ i < q.2.2)
  | [], _, _, q, hq => absurd hq List.not_mem_nil
  | w :: r, h, ha, q, hq => by
    have h : (bif Nat.beq w.1 e.2.1 && abd A e.2.2.1 (fun lo hi => ile lo (Int.ofNat w.2.2 - 1) && ile (Int.ofNat w.2.1) hi) then true else amhit A e r) = false := h
    cases hb : Nat.beq w.1 e.2.1 && abd A e.2.2.1 (fun lo hi => ile lo (Int.ofNat w.2.2 - 1) && ile (Int.ofNat w.2.1) hi) with
    | true => rw [hb] at h; cases h
    | false =>
      rw [hb, cond_false] at h
      rcases List.mem_cons.mp hq with rfl | hq
      · rintro ⟨k1, k2, k3⟩
        rw [k1, Nat.beq_refl, Bool.true_and] at hb
        have hx : abd A e.2.2.1 (fun lo hi => ile lo (Int.ofNat q.2.2 - 1) && ile (Int.ofNat q.2.1) hi) = true := by
          obtain ⟨⟨ke, ce⟩, hke⟩ : ∃ w, e.2.2.1 = w := ⟨_, rfl⟩
          have hs2 := hs
          rw [hke] at ha hi ⊢
          have hi0 := hi
          have key : ∀ lo hi : Int, lo ≤ ρ ke + ce → ρ ke + ce ≤ hi → (ile lo (Int.ofNat q.2.2 - 1) && ile (Int.ofNat q.2.1) hi) = true := fun lo hi l1 l2 => by
            rw [Bool.and_eq_true, ile_iff, ile_iff]
            have e1 : (Int.ofNat q.2.2 : Int) = (q.2.2 : Int) := rfl
            have e2 : (Int.ofNat q.2.1 : Int) = (q.2.1 : Int) := rfl
            have hi2 : (i : Int) = ρ ke + ce := hi0
            omega
          unfold abd at ha ⊢
          cases ke with
          | zero => exact key ce ce (by rw [hs.2.2.1]; omega) (by rw [hs.2.2.1]; omega)
          | succ ke =>
            dsimp only at ha ⊢
            cases hq2 : acs A.1 A.2.1 (ke + 1) with
            | none => rw [hq2] at ha; cases ha
            | some q2 =>
              rw [hq2] at ha
              obtain ⟨c1, c2, c3, c4, c5⟩ := hs.2.2.2 _ _ hq2
              dsimp only at ha ⊢
              cases hm : q2.2.2.2.2 with
              | zero =>
                dsimp only
                rw [efI_eq, efI_eq]
                exact key _ _ (by omega) (by omega)
              | succ m =>
                rw [hm] at ha
                dsimp only at ha ⊢
                cases hw : acs A.1 A.2.1 q2.2.2.2.1 with
                | none => rw [hw] at ha; cases ha
                | some w =>
                  dsimp only
                  rw [efI_eq, efI_eq]
                  obtain ⟨d1, d2, -⟩ := hs.2.2.2 _ _ hw
                  have c5 := (c5 (by omega)).2
                  rw [hm] at c5
                  have e1 : Int.ofNat (m + 1) * w.1 ≤ ρ (ke + 1) := by rw [c5]; exact Int.mul_le_mul_of_nonneg_left d1 (Int.natCast_nonneg _)
                  have e2 : ρ (ke + 1) ≤ Int.ofNat (m + 1) * w.2.1 := by rw [c5]; exact Int.mul_le_mul_of_nonneg_left d2 (Int.natCast_nonneg _)
                  have f1 := imx_le c1 e1
                  have f2 := imn_ge c2 e2
                  exact key _ _ (by omega) (by omega)
        rw [hx] at hb
        cases hb
      · exact amhit_ok hs hi h ha q hq
theorem afor_ok (hR : aRel b so ad tys ST JL ρ ρr md ws0 A ws) {mods : aMd} {ws2 : va_W} (hH : hRel so ad tys ST JL md ws0 ws2) (hF : fRel so mods ws ws2) {kk : aA → Bool} (h : afor A mods kk = true) : ∃ A2 : aA, kk A2 = true ∧ A2.1 = A.1 ∧ A2.2.1 = A.2.1 ∧ A2.2.2.1 = A.2.2.1 ∧ A2.2.2.2.1 = A.2.2.2.1 ∧ (∀ e ∈ A2.2.2.2.2, e ∈ A.2.2.2.2) ∧ aRel b so ad tys ST JL ρ ρr md ws0 A2 ws2 := by
  obtain ⟨n, cs, nr, rs, hm⟩ := A
  unfold afor at h
  rw [aflt_eq] at h
  dsimp only at h
  obtain ⟨hs, hr, -, hmm⟩ := hR
  dsimp only at hs hr hmm
  refine ⟨_, h, rfl, rfl, rfl, rfl, fun e he => (List.mem_filter.mp he).1, hs, hr, hH, fun e he => ?_⟩
  obtain ⟨he, hp⟩ := List.mem_filter.mp he
  obtain ⟨g1, g2, g3, i, x, g4, g5, g6⟩ := hmm e he
  refine ⟨g1, g2, g3, i, x, g4, ?_, g6⟩
  rw [hF (ρr e.1) e.2.1 i g2 ?_]
  · exact g5
  · unfold amok at hp
    cases hh : amhit (n, cs, nr, rs, hm) e mods with
    | true => rw [hh] at hp; cases hp
    | false =>
      rw [hh, cond_false] at hp
      exact fun q hq z => amhit_ok (A := (n, cs, nr, rs, hm)) hs g4 hh hp q hq z
theorem fRel_refl {so : List Nat} {mods : aMd} {ws : va_W} : fRel so mods ws ws := fun _ _ _ _ _ => rfl
end AH
