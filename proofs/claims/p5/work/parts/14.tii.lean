/-! THE CHECKER IS RIGHT: calls. -/
/-- values of those kinds -/
def vsOk (so ad : List Nat) : List aF → List Value → Prop
  | [], [] => True
  | f :: fs, x :: xs => vOk so ad f x ∧ vsOk so ad fs xs
  | _, _ => False
def rtOk (so ad : List Nat) (f : Option aF) (ret : Option Value) : Prop := match f, ret with
  | none, none => True
  | some f, some x => vOk so ad f x
  | _, _ => False
/-- what an end of a contract says of a field that was read ahead -/
def fcOk (ad : List Nat) (olds : List (Nat × Nat)) (asx : List Value) (ws ws2 : va_W) (q : Nat × Int × Int × Option Int) : Prop := ∀ (af : Nat × Nat) (a o : Nat) (z0 : Int32), olds.reverse[q.1]? = some af → asx[af.1]? = some (.ref a) → ad[o]? = some a → gcv ws o af.2 = some (.int z0) → ∃ z1 : Int32, gcv ws2 o af.2 = some (.int z1) ∧ q.2.1 ≤ z1.toInt ∧ z1.toInt ≤ q.2.2.1 ∧ ∀ d, q.2.2.2 = some d → z0.toInt + d ≤ z1.toInt
section AJ1
variable (b base LS : Nat) (xs : Nat → Int32) (D : va_G) (cl : List vw_C) (tys : List (ClassId × FieldType)) (Tb : List Cond) (NF : State → Prop) (l : Launch) (CN : Nat → String) (so ad : List Nat) (ST : Nat → Option aS) (JL : List aJ)
def cPost (c : aCon) (asx : List Value) (ws : va_W) : gK := fun ret ws2 => wOk so ad tys ST ws2 ∧ jOk so JL ws2 ∧ fRel so c.2.2.2 ws ws2 ∧ ∃ al ∈ c.2.2.1, rtOk so ad al.1 ret ∧ ∀ q ∈ al.2, fcOk ad c.2.1 asx ws ws2 q
/-- a contract holds of a method -/
def cHolds (q : eM × Nat) (c : aCon) : Prop := ∀ (asx : List Value) (ws : va_W), wOk so ad tys ST ws → jOk so JL ws → vsOk so ad c.1 asx → gG b base LS xs D cl tys Tb NF l CN q.1 0 (lv_args 0 asx) [] ws 0 0 (cPost tys so ad ST JL c asx ws)
def gCok (CL : eFL) (MT : Nat → Option (eM × Nat)) : Prop := ∀ (o idx kd mno n : Nat), CL o idx = some (kd, mno, n) → (kd = 0 ∨ kd = 3 ∨ kd = 1 ∨ kd = 4) → ∀ q, MT mno = some q → ∃ (y : MethodName) (cc : ByteArray) (ret : Option FieldType), gMok Tb CN q y cc ret ∧ eLk Tb NF CN o idx kd n y ∧ ((kd = 1 ∨ kd = 4) → ∃ T N, cl[q.1.1]? = some (CN q.1.1, T, N))
def gCcy (CL : eFL) : Prop := (∀ (o idx x n : Nat), CL o idx = some (7, x, n) → Cond.methodLink (CN o) idx arraycopyName ∈ Tb) ∧ Cond.native arraycopyName ∈ Tb ∧ Cond.static arraycopyName ∈ Tb ∧ Cond.initialized "java/lang/System" ∈ Tb
end AJ1
section AI3
variable {b base LS : Nat} {xs : Nat → Int32} {D : va_G} {cl : List vw_C} {tys : List (ClassId × FieldType)} {Tb : List Cond} {NF : State → Prop} {l : Launch} {CN : Nat → String} {so ad : List Nat} {ST : Nat → Option aS} {JL : List aJ} {md : aMd} {ws0 : va_W}
theorem afits_ok {A : aA} {ρ : Nat → Int} {ρr : Nat → Nat} {ws : va_W} (hR : aRel b so ad tys ST JL ρ ρr md ws0 A ws) : ∀ {Q : List aF} {vs : List aV} {asx : List Value}, afits A Q vs = true → sRel b ad ρ ρr A.1 A.2.2.1 vs asx → vsOk so ad Q asx
  | [], [], [], _, _ => trivial
  | [], [], _ :: _, _, h => absurd h id
  | [], _ :: _, _, h, _ => (nomatch h)
  | _ :: _, [], _, h, _ => (nomatch h)
  | f :: Q, v :: vs, asx, h, hs => by
    obtain ⟨x, t, rfl, g1, g2⟩ := sRel_cons hs
    have h : (afit A f v && afits A Q vs) = true := h
    rw [Bool.and_eq_true] at h
    exact ⟨afit_ok hR h.1 g1, afits_ok hR h.2 g2⟩
theorem amds_ok {mods : aMd} (h : amds md mods = true) : ∀ q ∈ mods, ∃ w ∈ md, w.1 = q.1 ∧ w.2.1 ≤ q.2.1 ∧ q.2.2 ≤ w.2.2 := by
  induction mods with
  | nil => exact fun q hq => absurd hq List.not_mem_nil
  | cons w r ih =>
    have h : (amdk md w.1 (Int.ofNat w.2.1) (Int.ofNat w.2.2 - 1) && amds md r) = true := h
    rw [Bool.and_eq_true] at h
    intro q hq
    rcases List.mem_cons.mp hq with rfl | hq
    · obtain ⟨u, g1, g2, g3, g4⟩ := amdk_ok h.1
      have g3 : (u.2.1 : Int) ≤ (q.2.1 : Int) := g3
      have g4 : (q.2.2 : Int) - 1 + 1 ≤ (u.2.2 : Int) := g4
      exact ⟨u, g1, g2, by omega, by omega⟩
    · exact ih h.2 q hq
theorem fRel_tr {ws ws2 : va_W} {mods : aMd} (h1 : fRel so md ws0 ws) (h2 : fRel so mods ws ws2) (h : ∀ q ∈ mods, ∃ w ∈ md, w.1 = q.1 ∧ w.2.1 ≤ q.2.1 ∧ q.2.2 ≤ w.2.2) : fRel so md ws0 ws2 := by
  intro o t i ho hn
  rw [h2 o t i ho ?_, h1 o t i ho hn]
  rintro q hq ⟨k1, k2, k3⟩
  obtain ⟨w, m1, m2, m3, m4⟩ := h q hq
  exact hn w m1 ⟨by rw [m2]; exact k1, by omega, by omega⟩
/-- the fields read ahead: what is known of them -/
def oRel (b : Nat) (so ad : List Nat) (ρ : Nat → Int) (ρr : Nat → Nat) (n nr : Nat) (ws : va_W) (vs : List aV) : List (Nat × Nat) → List (Nat × Nat × Nat × aV) → Prop
  | [], [] => True
  | q :: Q, o :: os => (vs[q.1]? = some (.inr (.inl o.1)) ∧ o.2.2.1 = q.2 ∧ o.1 < nr ∧ so[ρr o.1]? = some o.2.1 ∧ ∃ z : Int32, gcv ws (ρr o.1) q.2 = some (.int z) ∧ vRel b ad ρ ρr n nr o.2.2.2 (.int z)) ∧ oRel b so ad ρ ρr n nr ws vs Q os
  | _, _ => False
theorem oRel_up {ρ ρ2 : Nat → Int} {ρr ρr2 : Nat → Nat} {n nr n2 nr2 : Nat} (h1 : n ≤ n2) (h2 : nr ≤ nr2) (h : aExt n nr ρ ρr ρ2 ρr2) {ws : va_W} {vs : List aV} : ∀ {Q : List (Nat × Nat)} {os : List (Nat × Nat × Nat × aV)}, oRel b so ad ρ ρr n nr ws vs Q os → oRel b so ad ρ2 ρr2 n2 nr2 ws vs Q os
  | [], [], _ => trivial
  | _ :: _, o :: _, ⟨⟨g1, g2, g3, g4, z, g5, g6⟩, g7⟩ => ⟨⟨g1, g2, Nat.lt_of_lt_of_le g3 h2, by rw [h.2 _ g3]; exact g4, z, by rw [h.2 _ g3]; exact g5, vRel_up h1 h2 h g6⟩, oRel_up h1 h2 h g7⟩
  | [], _ :: _, hs => absurd hs id
  | _ :: _, [], hs => absurd hs id
theorem oRel_get {ρ : Nat → Int} {ρr : Nat → Nat} {n nr : Nat} {ws : va_W} {vs : List aV} : ∀ {Q : List (Nat × Nat)} {os : List (Nat × Nat × Nat × aV)} {i : Nat} {o : Nat × Nat × Nat × aV}, oRel b so ad ρ ρr n nr ws vs Q os → os[i]? = some o → ∃ q, Q[i]? = some q ∧ vs[q.1]? = some (.inr (.inl o.1)) ∧ o.2.2.1 = q.2 ∧ o.1 < nr ∧ so[ρr o.1]? = some o.2.1 ∧ ∃ z : Int32, gcv ws (ρr o.1) q.2 = some (.int z) ∧ vRel b ad ρ ρr n nr o.2.2.2 (.int z)
  | [], [], _, _, _, h => by simp at h
  | q :: Q, o0 :: os, 0, o, h, hi => by
    rw [List.getElem?_cons_zero] at hi
    cases hi
    exact ⟨q, List.getElem?_cons_zero, h.1⟩
  | q :: Q, o0 :: os, i + 1, o, h, hi => by
    rw [List.getElem?_cons_succ] at hi
    obtain ⟨q2, g1, g2⟩ := oRel_get h.2 hi
    exact ⟨q2, by rw [List.getElem?_cons_succ]; exact g1, g2⟩
  | [], _ :: _, _, _, hs, _ => absurd hs id
  | _ :: _, [], _, _, hs, _ => absurd hs id
theorem aold_ok {ws : va_W} {vs : List aV} {asx : List Value} : ∀ {Q : List (Nat × Nat)} {A : aA} {ρ : Nat → Int} {ρr : Nat → Nat} {Q0 : List (Nat × Nat)} {acc : List (Nat × Nat × Nat × aV)} {k : List (Nat × Nat × Nat × aV) → aA → Bool}, aRel b so ad tys ST JL ρ ρr md ws0 A ws → sRel b ad ρ ρr A.1 A.2.2.1 vs asx → oRel b so ad ρ ρr A.1 A.2.2.1 ws vs Q0 acc → aold ST vs Q A acc k = true →
    ∃ os A2 ρ2 ρr2, k os A2 = true ∧ aUp A ρ ρr A2 ρ2 ρr2 ∧ aRel b so ad tys ST JL ρ2 ρr2 md ws0 A2 ws ∧ oRel b so ad ρ2 ρr2 A2.1 A2.2.2.1 ws vs (Q.reverse ++ Q0) os
  | [], A, ρ, ρr, Q0, acc, k, hR, _, ho, h => ⟨acc, A, ρ, ρr, h, aUp.refl, hR, ho⟩
  | q :: Q, A, ρ, ρr, Q0, acc, k, hR, hs, ho, h => by
    have h : (match eg vs q.1 with
      | some (.inr (.inl r)) => (match asrt A r with
        | some t => (match ST t with
          | some (.inl ob) => (match eg ob.2 q.2 with
            | some (.inl w) => (match amf A.2.2.2.2 r (0, Int.ofNat q.2) with
              | some v => aold ST vs Q A ((r, t, q.2, v) :: acc) k
              | none => afr A (.inl w) 0 iMin (fun v A => aput A (r, t, (0, Int.ofNat q.2), v) (fun A => aold ST vs Q A ((r, t, q.2, v) :: acc) k)))
            | _ => false)
          | _ => false)
        | none => false)
      | _ => false) = true := h
    rw [eg_eq] at h
    split at h
    · rename_i r hr
      split at h
      · rename_i t ht
        split at h
        · rename_i ob hob
          rw [eg_eq] at h
          split at h
          · rename_i w hw
            obtain ⟨x, hx1, hx2⟩ := sRel_get hs hr
            obtain ⟨a, e, rfl, w1, w2, w3⟩ := r_at hR hx2 ht
            unfold eOk at w3
            rw [hob] at w3
            obtain ⟨fs, rfl, k1, k2⟩ := w3
            have hlt : q.2 < fs.length := by rw [k1]; exact (List.getElem?_eq_some_iff.mp hw).1
            have hx := List.getElem?_eq_getElem hlt
            obtain ⟨z, e1, e2, e3⟩ := k2 _ _ _ hw hx
            have hgv : gcv ws (ρr r) q.2 = some (.int z) := by rw [gcv_at w1, ← e1]; exact hx
            split at h
            · rename_i v hv
              obtain ⟨x2, y1, y2⟩ := m_fld hR hv
              rw [hgv] at y1
              have y1 := Option.some.inj y1
              subst y1
              have ho2 : oRel b so ad ρ ρr A.1 A.2.2.1 ws vs (q :: Q0) ((r, t, q.2, v) :: acc) := ⟨⟨hr, rfl, hx2.1, w2, z, hgv, y2⟩, ho⟩
              obtain ⟨os, A2, ρ2, ρr2, z1, z2, z3, z4⟩ := aold_ok hR hs ho2 h
              refine ⟨os, A2, ρ2, ρr2, z1, z2, z3, ?_⟩
              rw [List.reverse_cons, List.append_assoc]
              exact z4
            · obtain ⟨v, A2, ρ2, ρr2, y1, y2, y3, y4⟩ := afr_ok hR h (x := .int z) ⟨z, rfl, e2, e3⟩ (i_par0 hR)
              have hr2 : ρr2 r = ρr r := y2.2.2.2 r hx2.1
              obtain ⟨A3, z1, z2, z3, z4⟩ := aput_ok y3 y1 (m_new y3 (Nat.lt_of_lt_of_le hx2.1 y2.2.1) (by rw [hr2]; exact w2) (by rw [hr2]; exact hgv) y4)
              have u := y2.trans (aUp.same (ρ := ρ2) (ρr := ρr2) z2 z3)
              have ho2 : oRel b so ad ρ2 ρr2 A3.1 A3.2.2.1 ws vs (q :: Q0) ((r, t, q.2, v) :: acc) := ⟨⟨hr, rfl, Nat.lt_of_lt_of_le hx2.1 u.2.1, by show so[ρr2 r]? = _; rw [hr2]; exact w2, z, by show gcv ws (ρr2 r) _ = _; rw [hr2]; exact hgv, by rw [z2, z3]; exact y4⟩, oRel_up u.1 u.2.1 u.2.2 ho⟩
              obtain ⟨os, A4, ρ4, ρr4, m1, m2, m3, m4⟩ := aold_ok z4 (sRel_up u.1 u.2.1 u.2.2 hs) ho2 z1
              refine ⟨os, A4, ρ4, ρr4, m1, u.trans m2, m3, ?_⟩
              rw [List.reverse_cons, List.append_assoc]
              exact m4
          · cases h
        · cases h
      · cases h
    · cases h
theorem afct_ok {ws ws2 : va_W} {vs : List aV} {asx : List Value} {Q : List (Nat × Nat)} {os : List (Nat × Nat × Nat × aV)} {ρ0 : Nat → Int} {ρr0 : Nat → Nat} {n0 nr0 : Nat} (hs : sRel b ad ρ0 ρr0 n0 nr0 vs asx) (ho : oRel b so ad ρ0 ρr0 n0 nr0 ws vs Q.reverse os) :
    ∀ {F : List (Nat × Int × Int × Option Int)} {A : aA} {ρ : Nat → Int} {ρr : Nat → Nat} {k : aA → Bool}, aRel b so ad tys ST JL ρ ρr md ws0 A ws2 → n0 ≤ A.1 → nr0 ≤ A.2.2.1 → aExt n0 nr0 ρ0 ρr0 ρ ρr → (∀ q ∈ F, fcOk ad Q asx ws ws2 q) → afct os F A k = true → ∃ A2 ρ2 ρr2, k A2 = true ∧ aUp A ρ ρr A2 ρ2 ρr2 ∧ aRel b so ad tys ST JL ρ2 ρr2 md ws0 A2 ws2
  | [], A, ρ, ρr, k, hR, _, _, _, _, h => ⟨A, ρ, ρr, h, aUp.refl, hR⟩
  | q :: F, A, ρ, ρr, k, hR, hn, hnr, he, hF, h => by
    have h : (match eg os q.1 with
      | some (r, t, f, .inl x) => (match q.2.2.2, x.1 with
        | some d, _ + 1 => efI (x.2 + d) (fun c => afr A (.inl (q.2.1, q.2.2.1)) x.1 c (fun v A => aput A (r, t, (0, Int.ofNat f), v) (fun A => afct os F A k)))
        | _, _ => afr A (.inl (q.2.1, q.2.2.1)) 0 iMin (fun v A => aput A (r, t, (0, Int.ofNat f), v) (fun A => afct os F A k)))
      | _ => false) = true := h
    rw [eg_eq] at h
    split at h
    · rename_i r t f x hx
      obtain ⟨af, o1, o2, o3, o4, o5, z0, o6, o7⟩ := oRel_get ho hx
      dsimp only at o2 o3 o4 o5 o6 o7
      subst o3
      obtain ⟨xa, xa1, xa2⟩ := sRel_get hs o2
      obtain ⟨xa3, a, xa4, rfl⟩ := xa2
      obtain ⟨z1, p1, p2, p3, p4⟩ := hF q List.mem_cons_self af a (ρr0 r) z0 o1 xa1 xa4 o6
      obtain ⟨zq, eq0, e0⟩ := vRel_int o7
      have eq0 : z0 = zq := by injection eq0
      subst eq0
      have hr2 : ρr r = ρr0 r := he.2 r o4
      have fin : ∀ {pb : Nat} {pc : Int}, ρ pb + pc ≤ z1.toInt → afr A (.inl (q.2.1, q.2.2.1)) pb pc (fun v A => aput A (r, t, (0, Int.ofNat af.2), v) (fun A => afct os F A k)) = true → ∃ A2 ρ2 ρr2, k A2 = true ∧ aUp A ρ ρr A2 ρ2 ρr2 ∧ aRel b so ad tys ST JL ρ2 ρr2 md ws0 A2 ws2 := fun hle h => by
        obtain ⟨v, A2, ρ2, ρr2, y1, y2, y3, y4⟩ := afr_ok hR h (x := .int z1) ⟨z1, rfl, p2, p3⟩ (fun z hz => by
          have hz : z1 = z := by injection hz
          subst hz
          exact hle)
        have hr3 : ρr2 r = ρr0 r := by rw [y2.2.2.2 r (Nat.lt_of_lt_of_le o4 hnr), hr2]
        obtain ⟨A3, m1, m2, m3, m4⟩ := aput_ok y3 y1 (m_new y3 (Nat.lt_of_lt_of_le o4 (Nat.le_trans hnr y2.2.1)) (by rw [hr3]; exact o5) (by rw [hr3]; exact p1) y4)
        have u := y2.trans (aUp.same (ρ := ρ2) (ρr := ρr2) m2 m3)
        obtain ⟨A4, ρ4, ρr4, n1, n2, n3⟩ := afct_ok hs ho m4 (Nat.le_trans hn u.1) (Nat.le_trans hnr u.2.1) ⟨fun k hk => by rw [u.2.2.1 k (Nat.lt_of_lt_of_le hk hn), he.1 k hk], fun r hr => by rw [u.2.2.2 r (Nat.lt_of_lt_of_le hr hnr), he.2 r hr]⟩ (fun w hw => hF w (List.mem_cons_of_mem _ hw)) m1
        exact ⟨A4, ρ4, ρr4, n1, u.trans n2, n3⟩
      split at h
      · rename_i d kx hd hk
        rw [efI_eq] at h
        refine fin ?_ h
        have := p4 d hd
        rw [he.1 x.1 o7.1]
        omega
      · exact fin (i_par0 hR (x := .int z1) z1 rfl) h
    · cases h
theorem aalt_ok {nx : Option aV → aA → Bool} {os : List (Nat × Nat × Nat × aV)} {A : aA} : ∀ {Q : List (Option aF × List (Nat × Int × Int × Option Int))}, aalt nx os A Q = true → ∀ al ∈ Q, afct os al.2 A (fun A => match al.1 with
    | some f => afr A f 0 iMin (fun v A => nx (some v) A)
    | none => nx none A) = true
  | [], _, al, hal => absurd hal List.not_mem_nil
  | q :: Q, h, al, hal => by
    have h : (afct os q.2 A (fun A => match q.1 with
      | some f => afr A f 0 iMin (fun v A => nx (some v) A)
      | none => nx none A) && aalt nx os A Q) = true := h
    rw [Bool.and_eq_true] at h
    rcases List.mem_cons.mp hal with rfl | hal
    · exact h.1
    · exact aalt_ok h.2 al hal
theorem acon_ok {nx : Option aV → aA → Bool} {A : aA} {ρ : Nat → Int} {ρr : Nat → Nat} {ws : va_W} (hR : aRel b so ad tys ST JL ρ ρr md ws0 A ws) {vs : List aV} {asx : List Value} (hs : sRel b ad ρ ρr A.1 A.2.2.1 vs asx) : ∀ {C : List aCon}, acon ST md nx vs A C = true → ∃ c ∈ C, vsOk so ad c.1 asx ∧ ∀ (ret : Option Value) (ws2 : va_W), cPost tys so ad ST JL c asx ws ret ws2 → ∃ rv A2 ρ2 ρr2, nx rv A2 = true ∧ aUp A ρ ρr A2 ρ2 ρr2 ∧ aRel b so ad tys ST JL ρ2 ρr2 md ws0 A2 ws2 ∧ aRt b ad ρ2 ρr2 A2 rv ret
  | [], h => (nomatch h)
  | c :: C, h => by
    have h : (bif afits A c.1 vs then aold ST vs c.2.1 A [] (fun olds A => bif amds md c.2.2.2 then afor A c.2.2.2 (fun A => aalt nx olds A c.2.2.1) else false) else acon ST md nx vs A C) = true := h
    cases hb : afits A c.1 vs with
    | false =>
      rw [hb, cond_false] at h
      obtain ⟨c2, g1, g2⟩ := acon_ok hR hs h
      exact ⟨c2, List.mem_cons_of_mem _ g1, g2⟩
    | true =>
      rw [hb, cond_true] at h
      refine ⟨c, List.mem_cons_self, afits_ok hR hb hs, fun ret ws2 hp => ?_⟩
      obtain ⟨p1, p2, p3, al, p4, p5, p6⟩ := hp
      obtain ⟨os, A2, ρ2, ρr2, y1, y2, y3, y4⟩ := aold_ok (Q0 := []) (acc := []) hR hs trivial h
      rw [List.append_nil] at y4
      obtain ⟨hmd, y1⟩ := e_cond y1 e_ff
      have hm := amds_ok hmd
      have hH : hRel so ad tys ST JL md ws0 ws2 := ⟨p1, p2, fRel_tr hR.2.2.1.2.2 p3 hm⟩
      obtain ⟨A3, z1, z2, z3, z4, z5, z6, z7⟩ := afor_ok y3 hH p3 y1
      have hal := aalt_ok z1 al p4
      have u3 : aUp A2 ρ2 ρr2 A3 ρ2 ρr2 := aUp.same z2 z4
      obtain ⟨A4, ρ4, ρr4, m1, m2, m3⟩ := afct_ok (ws := ws) (sRel_up y2.1 y2.2.1 y2.2.2 hs) y4 z7 u3.1 u3.2.1 u3.2.2 p6 hal
      have u4 := (y2.trans u3).trans m2
      obtain ⟨af, al2⟩ := al
      cases af with
      | none =>
        cases ret with
        | none => exact ⟨none, A4, ρ4, ρr4, m1, u4, m3, trivial⟩
        | some x => exact absurd p5 id
      | some f =>
        cases ret with
        | none => exact absurd p5 id
        | some x =>
          obtain ⟨v, A5, ρ5, ρr5, n1, n2, n3, n4⟩ := afr_ok m3 (show afr A4 f 0 iMin (fun v A => nx (some v) A) = true from m1) p5 (i_par0 m3)
          exact ⟨some v, A5, ρ5, ρr5, n1, u4.trans n2, n3, n4⟩
theorem acp_0 {mi : eM} (h : ¬ mi.2.2.2.2.2.1 = 20) : acpc mi = 0 := by
  unfold acpc
  cases hb : Nat.beq mi.2.2.2.2.2.1 20 with
  | true => exact absurd (Nat.eq_of_beq_eq_true hb) h
  | false => rfl
theorem k_call {CL : eFL} {MT : Nat → Option (eM × Nat)} {XT : Nat → aXt} {CT : Nat → List aCon} (hTg : ∀ w ∈ Tb, goodWord w = true) (hN : eNFw base NF) (hC : gCok cl Tb NF CN CL MT) (hCT : ∀ mno q, MT mno = some q → ∀ c ∈ CT mno, cHolds b base LS xs D cl tys Tb NF l CN so ad ST JL q c) {i : Instr} {idx kd mno n : Nat} (hop : (i = .invokestatic idx ∧ (kd = 0 ∨ kd = 3)) ∨ (i = .invokevirtual idx ∧ (kd = 1 ∨ kd = 4))) :
    ∀ (ih : aRn), aSn b base LS xs D cl tys Tb NF l CN so ad ST JL md ws0 ih → ∀ (mi : eM) (xt : aXt) (pc : Nat) (cd : List eI) (ls : List (Nat × aV)) (st : List aV) (A : aA) (ac as : Nat) (sp : List aT) (k : aK), CL mi.1 idx = some (kd, mno, n) → acall MT XT ST CT md kd mno n ih mi xt pc cd ls st A ac as sp k = true →
    ∀ (K : gK) (ce sl : Nat) (ρ : Nat → Int) (ρr : Nat → Nat) (lv : List (Nat × Value)) (stA : List Value) (ws : va_W), (pc, i, 3) ∈ mi.2.2.2.2.2.2 → aCx b base LS xs D cl tys Tb NF l CN so ad ST JL md ws0 mi cd A sp k K ce sl ρ ρr ws → lRel b ad ρ ρr A.1 A.2.2.1 ls lv → sRel b ad ρ ρr A.1 A.2.2.1 st stA → gG b base LS xs D cl tys Tb NF l CN mi pc lv stA ws (ce + ac) (sl + as) K := by
  intro ih IH mi xt pc cd ls st A ac as sp k hcl h K ce sl ρ ρr lv stA ws hm X hl hs
  unfold acall at h
  split at h
  · rename_i q hq
    obtain ⟨vs, r, asx, rx, h, h1, h2, h3, h4⟩ := atake_ok (acc := []) (accA := []) n hs trivial h
    rw [List.reverse_nil, List.nil_append] at h3
    rw [List.length_nil, Nat.zero_add] at h4
    obtain ⟨h5, h⟩ := e_cond h e_ff
    rw [Bool.and_eq_true] at h5
    obtain ⟨hroom, hrecv⟩ := h5
    unfold aroom at hroom
    simp only [Bool.and_eq_true] at hroom
    obtain ⟨r1, r2, r3, r4, r5, r6⟩ := hroom
    have r1 := Nat.le_of_ble_eq_true r1
    have r2 := Nat.le_of_ble_eq_true r2
    have r3 := Nat.le_of_ble_eq_true r3
    have r4 := Nat.le_of_ble_eq_true r4
    have r5 := Nat.le_of_ble_eq_true r5
    have r6 := Nat.le_of_ble_eq_true r6
    obtain ⟨c1, c2⟩ := X.2.1
    have hR := X.2.2.2.1
    obtain ⟨y, cc2, ret, ok, lk, hcls⟩ := hC _ _ _ _ _ hcl (by rcases hop with ⟨-, z | z⟩ | ⟨-, z | z⟩ <;> omega) q hq
    have hkd : ¬ q.1.2.2.2.2.2.1 = 20 := gRk_20 ok.2.2.2.2.2.2
    have hrm : gRoom mi q.1 q.2 (ce + ac) (sl + as) asx rx := ⟨r1, r2, by omega, by omega, by rw [sRel_cats h2]; exact r5, by rw [sRel_cats h1]; exact r6⟩
    have hrc : (kd = 1 ∨ kd = 4) → ∃ (o a : Nat) (fs asx2 : List Value), asx = .ref a :: asx2 ∧ ws[o]? = some (a, (.inr (q.1.1, fs) : va_E)) := fun hk => by
      unfold arecv at hrecv
      have hkk : (Nat.beq kd 0 || Nat.beq kd 3) = false := by
        rcases hk with rfl | rfl <;> rfl
      rw [hkk, cond_false] at hrecv
      split at hrecv
      · rename_i rr vs2
        split at hrecv
        · rename_i t ht
          split at hrecv
          · rename_i ob hob
            obtain ⟨x, asx2, rfl, g1, g2⟩ := sRel_cons h1
            obtain ⟨a, e, rfl, w1, w2, w3⟩ := r_at hR g1 ht
            unfold eOk at w3
            rw [hob] at w3
            obtain ⟨fs, rfl, -, -⟩ := w3
            rw [Nat.eq_of_beq_eq_true hrecv] at w1
            exact ⟨_, a, fs, asx2, rfl, w1⟩
          · cases hrecv
        · cases hrecv
      · cases hrecv
    refine g_call hTg hN ok lk hcls hop hm hrm h3 h4 hrc ?_
    have fin : ∀ (rv : Option aV) (A2 : aA) (ρ2 : Nat → Int) (ρr2 : Nat → Nat) (ws2 : va_W) (rt : Option Value), (match rv with
        | some v => ih mi xt (pc + 3) cd ls (v :: r) A2 (ac + q.1.2.1) (as + q.1.2.2.1) sp k
        | none => ih mi xt (pc + 3) cd ls r A2 (ac + q.1.2.1) (as + q.1.2.2.1) sp k) = true → aUp A ρ ρr A2 ρ2 ρr2 → aRel b so ad tys ST JL ρ2 ρr2 md ws0 A2 ws2 → aRt b ad ρ2 ρr2 A2 rv rt → gG b base LS xs D cl tys Tb NF l CN mi (pc + 3) lv (rt.toList ++ rx) ws2 (ce + ac + q.1.2.1) (sl + as + q.1.2.2.1) K := fun rv A2 ρ2 ρr2 ws2 rt hk u hR2 hrt => by
      rw [Nat.add_assoc, Nat.add_assoc]
      cases rv with
      | none =>
        cases rt with
        | none => exact IH _ _ _ _ _ _ _ _ _ _ _ hk K ce sl ρ2 ρr2 lv _ ws2 (aCx_up X u hR2) (lRel_up u.1 u.2.1 u.2.2 hl) (sRel_up u.1 u.2.1 u.2.2 h2)
        | some x => exact absurd hrt id
      | some v =>
        cases rt with
        | none => exact absurd hrt id
        | some x => exact IH _ _ _ _ _ _ _ _ _ _ _ hk K ce sl ρ2 ρr2 lv _ ws2 (aCx_up X u hR2) (lRel_up u.1 u.2.1 u.2.2 hl) ⟨hrt, sRel_up u.1 u.2.1 u.2.2 h2⟩
    split at h
    · obtain ⟨h0, h⟩ := e_cond h e_ff
      rw [Bool.and_eq_true] at h0
      have z1 := Nat.eq_of_beq_eq_true h0.1
      have z2 := Nat.eq_of_beq_eq_true h0.2
      have e0 := acp_0 hkd
      refine IH _ _ _ _ _ _ _ _ _ _ _ h _ 0 0 ρ ρr _ [] ws ⟨⟨fun q hq => hq, fun t ht => (ok.2.2.2.2.2.1 t ht).1.2.2⟩, ⟨by omega, by omega⟩, fun z => absurd z hkd, hR, fun T hT => absurd hT List.not_mem_nil, ?_⟩ (aargs_ok 0 h1) trivial
      intro rv A2 hk ρ2 ρr2 ws2 rt u hR2 hrt
      refine fin rv A2 ρ2 ρr2 ws2 rt ?_ u hR2 hrt
      rw [z1, z2]
      exact hk
    · rename_i c t hct
      rw [ef_eq, ef_eq] at h
      obtain ⟨con, k1, k2, k3⟩ := acon_ok hR h1 h
      have hH := hCT mno q hq con (by rw [hct]; exact k1) asx ws hR.2.2.1.1 hR.2.2.1.2.1 k2
      refine gG_mono (fun rt ws2 hp => ?_) hH
      obtain ⟨rv, A2, ρ2, ρr2, m1, m2, m3, m4⟩ := k3 rt ws2 hp
      exact fin rv A2 ρ2 ρr2 ws2 rt m1 m2 m3 m4
  · cases h
end AI3
