/-! CONTRACTS, COMPUTED: each over the contracts of what it calls. -/
noncomputable section
def gCA (L : List (Nat × List aCon)) (n : Nat) : List aCon := List.rec [] (fun q _ ih => bif Nat.beq q.1 n then q.2 else ih) L
def zA (E : zE) (J : List aJ) : Prop := gCcy E.2.2.2.2.2.2.2.1 E.2.2.2.2.2.2.2.2.2.2.1 gCL ∧ zin E ∧ jWf gST (zso E) J
def zP (E : zE) (J : List aJ) (L : List (Nat × List aCon)) : Prop := ∀ p ∈ L, ∀ q, gMT p.1 = some q → ∀ c ∈ p.2, zH E J q c
def gMTr (a b : eM × Nat) : Nat → Option (eM × Nat) := fun n => bif Nat.beq n 52 then some a else (bif Nat.beq n 55 then some b else gMT n)
end
section ZC
variable {E : zE} {J : List aJ} {L : List (Nat × List aCon)}
theorem gCA_ok {n : Nat} {c : aCon} (h : c ∈ gCA L n) : ∃ p ∈ L, p.1 = n ∧ c ∈ p.2 := by
  induction L with
  | nil => exact absurd h List.not_mem_nil
  | cons q r ih =>
    have h : c ∈ (bif Nat.beq q.1 n then q.2 else gCA r n) := h
    cases hb : Nat.beq q.1 n with
    | true =>
      rw [hb, cond_true] at h
      exact ⟨q, List.mem_cons_self, Nat.eq_of_beq_eq_true hb, h⟩
    | false =>
      rw [hb, cond_false] at h
      obtain ⟨p, g1, g2⟩ := ih h
      exact ⟨p, List.mem_cons_of_mem _ g1, g2⟩
theorem zP_nil : zP E J [] := fun p hp => absurd hp List.not_mem_nil
theorem zP_cons {m : Nat} {q : eM × Nat} {cs : List aCon} (hm : gMT m = some q) (h : ∀ c ∈ cs, zH E J q c) (t : zP E J L) : zP E J ((m, cs) :: L) := fun p hp q2 hq2 c hc => by
  rcases List.mem_cons.mp hp with rfl | hp
  · rw [hm] at hq2
    cases hq2
    exact h c hc
  · exact t p hp q2 hq2 c hc
theorem zF_nil {q : eM × Nat} : ∀ c ∈ ([] : List aCon), zH E J q c := fun c hc => absurd hc List.not_mem_nil
theorem zF_cons {q : eM × Nat} {c0 : aCon} {cs : List aCon} (h0 : zH E J q c0) (h : ∀ c ∈ cs, zH E J q c) : ∀ c ∈ c0 :: cs, zH E J q c := fun c hc => by
  rcases List.mem_cons.mp hc with rfl | hc
  · exact h0
  · exact h c hc
theorem z_val (B : zB E) (A : zA E J) (P : zP E J L) : aVal E.1 E.2.1 E.2.2.1 E.2.2.2.1 E.2.2.2.2.1 E.2.2.2.2.2.1 E.2.2.2.2.2.2.1 E.2.2.2.2.2.2.2.1 E.2.2.2.2.2.2.2.2.1 E.2.2.2.2.2.2.2.2.2.1 E.2.2.2.2.2.2.2.2.2.2.1 (zso E) (zad E) gST J gFL gCL gMT gKI gKL (gCA L) :=
  ⟨B.1, B.2.1, B.2.2.1, B.2.2.2.1, A.1, B.2.2.2.2.1, B.2.2.2.2.2.1, A.2.1, A.2.2, fun mno q hq c hc => by
    obtain ⟨p, p1, p2, p3⟩ := gCA_ok hc
    subst p2
    exact P p p1 q hq c p3⟩
theorem z_chk (B : zB E) (A : zA E J) (P : zP E J L) {q : eM × Nat} {xt : aXt} {c : aCon} (hk : ¬ q.1.2.2.2.2.2.1 = 20) (hlen : elens q.1 = true) (h : acck gFL gCL gMT gXT gKI gKL gST (gCA L) J 100000 q.1 xt c = true) : zH E J q c := c_holds (XT := gXT) (z_val B A P) hk (fun t ht => List.all_eq_true.mp hlen t ht) h
/-- another room: the same method -/
def zalt (a q : eM × Nat) : Prop := a.2 = q.2 ∧ a.1.1 = q.1.1 ∧ a.1.2.2.2.2.2 = q.1.2.2.2.2.2
theorem gMok_alt {Tb : List Cond} {CN : Nat → String} {a q : eM × Nat} {y : MethodName} {cc : ByteArray} {ret : Option FieldType} (h : zalt a q) (ok : gMok Tb CN q y cc ret) : gMok Tb CN a y cc ret := by
  obtain ⟨h1, h2, h3⟩ := h
  unfold gMok at ok ⊢
  rw [h1, h2, h3]
  exact ok
theorem z_chkr (B : zB E) (A : zA E J) (P : zP E J L) {a b : eM × Nat} {ca cb : List aCon} (ha : zalt a (gm_52, 8)) (hb : zalt b (gm_55, 7)) (Pa : ∀ c ∈ ca, zH E J a c) (Pb : ∀ c ∈ cb, zH E J b c) (hL : (L.all fun p => bif Nat.beq p.1 52 || Nat.beq p.1 55 then false else true) = true) {q : eM × Nat} {xt : aXt} {c : aCon} (hk : ¬ q.1.2.2.2.2.2.1 = 20) (hlen : elens q.1 = true) (h : acck gFL gCL (gMTr a b) gXT gKI gKL gST (gCA ((52, ca) :: (55, cb) :: L)) J 100000 q.1 xt c = true) : zH E J q c := by
  have hM : ∀ mno q', gMTr a b mno = some q' → ∃ q0, gMT mno = some q0 ∧ zalt q' q0 := by
    intro mno q' hq
    unfold gMTr at hq
    cases h1 : Nat.beq mno 52 with
    | true =>
      rw [h1, cond_true] at hq
      cases hq
      rw [Nat.eq_of_beq_eq_true h1]
      exact ⟨_, rfl, ha⟩
    | false =>
      rw [h1, cond_false] at hq
      cases h2 : Nat.beq mno 55 with
      | true =>
        rw [h2, cond_true] at hq
        cases hq
        rw [Nat.eq_of_beq_eq_true h2]
        exact ⟨_, rfl, hb⟩
      | false =>
        rw [h2, cond_false] at hq
        exact ⟨q', hq, rfl, rfl, rfl⟩
  refine c_holds (XT := gXT) (MT := gMTr a b) (CT := gCA ((52, ca) :: (55, cb) :: L)) ⟨B.1, B.2.1, B.2.2.1, ?_, A.1, B.2.2.2.2.1, B.2.2.2.2.2.1, A.2.1, A.2.2, fun mno q' hq c hc => ?_⟩ hk (fun t ht => List.all_eq_true.mp hlen t ht) h
  · intro o idx kd mno n hcl hkd q' hq'
    obtain ⟨q0, g1, g2⟩ := hM mno q' hq'
    obtain ⟨y, cc, ret, k1, k2, k3⟩ := B.2.2.2.1 o idx kd mno n hcl hkd q0 g1
    exact ⟨y, cc, ret, gMok_alt g2 k1, k2, fun h => by rw [g2.2.1]; exact k3 h⟩
  · obtain ⟨p, p1, p2, p3⟩ := gCA_ok hc
    subst p2
    rcases List.mem_cons.mp p1 with rfl | p1
    · cases hq
      exact Pa c p3
    · rcases List.mem_cons.mp p1 with rfl | p1
      · cases hq
        exact Pb c p3
      · have hn := List.all_eq_true.mp hL p p1
        unfold gMTr at hq
        cases h1 : Nat.beq p.1 52 with
        | true => rw [h1] at hn; cases hn
        | false =>
          cases h2 : Nat.beq p.1 55 with
          | true => rw [h1, h2] at hn; cases hn
          | false =>
            rw [h1, h2] at hq
            exact P p p1 q' hq c p3
end ZC
