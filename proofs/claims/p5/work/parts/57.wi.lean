/-! THE CLASS READS A SENTENCE: addWord, readOne, readCond. -/
noncomputable section
def vt48 : vSpL := fun vs σ K => match vs with
  | [.inr (.inl 102), .inl a, .inl v] => ((0 ≤ a ∧ a ≤ 29) ∧ 0 ≤ v ∧ v ≤ 6299) ∧ ∀ σ2 : vS, cSg σ σ2 → σ2 102 4 = σ 102 4 → K none σ2
  | _ => False
def qN (x : qX) (S : qS) (w : Bool) (d b : Int) (L : List Int) (o p : Int) : qA := qQ x S.2.2 (S.2.1 0) (S.2.1 1) w d b L o p
def vt55 (k : Int) : vSpL := fun vs σ K => match vs with
  | [.inr (.inl 102), .inr (.inl 7), .inr (.inl 93), .inl d] => d = k ∧ ∃ (x : qX) (p : Int) (S : qS), (cT x p σ ∧ cSn S σ ∧ x.2.1 ≤ 940) ∧ (∀ (k p2 o2 : Int) (σ2 : vS), ¬ k = 0 → (∀ (b : Int) (L : List Int), qN x S false d b L (σ 102 4) p = (k, p2, o2)) → cFl x k p2 σ2 → cSf σ σ2 → K (some (.inl 0)) σ2) ∧ (∀ (p2 : Int) (σ2 : vS), cT x p2 σ2 → cSf σ σ2 → (σ 102 4 + 1 ≤ σ2 102 4 ∧ σ2 102 4 ≤ 20) → (∀ (b : Int) (L : List Int), qN x S false d b L (σ 102 4) p = qN x S true b b L (σ2 102 4) p2) → K (some (.inl 1)) σ2)
  | _ => False
def vt52 (k : Int) : vSpL := fun vs σ K => match vs with
  | [.inr (.inl 102), .inr (.inl 7), .inr (.inl 93), .inl d] => d = k ∧ ∃ (x : qX) (p : Int) (S : qS), (cT x p σ ∧ cSn S σ ∧ x.2.1 ≤ 940) ∧ (∀ (k p2 o2 : Int) (σ2 : vS), ¬ k = 0 → (∀ L : List Int, qN x S false d d L (σ 102 4) p = (k, p2, o2)) → cFl x k p2 σ2 → cSf σ σ2 → K (some (.inl 0)) σ2) ∧ (∀ (p2 : Int) (σ2 : vS), cT x p2 σ2 → cSf σ σ2 → (σ 102 4 + 1 ≤ σ2 102 4 ∧ σ2 102 4 ≤ 20) → (∀ L : List Int, qN x S false d d L (σ 102 4) p = qN x S true d d L (σ2 102 4) p2) → ¬ (qisw x p2 (qrw 20) = true ∨ qisw x p2 (qrw 19) = true) → K (some (.inl 1)) σ2)
  | _ => False
end
section QNL
variable {x : qX} {S : qS} {d b o p : Int} {L : List Int} {σ σ2 σ3 : vS}
theorem cFl_sg {k : Int} (h : cFl x k p σ) (g : cSg σ σ2) : cFl x k p σ2 := by
  unfold cFl at h ⊢
  rw [g 7 (by decide)]
  exact h
theorem qN_nc {b2 : Int} {L2 : List Int} (hj : ¬ (qisw x p (qrw 20) = true ∨ qisw x p (qrw 19) = true)) (hs : qsn x p 41 = false) : qN x S true d b (b2 :: L2) o p = (1, p, o) := by
  by_cases k : qkd x.1 x.2.1 x.2.2 p = 0
  · exact qQ_b k
  · exact qQ_bf k (qbh_f hj (by rw [hs]; exact Bool.false_ne_true)) (by decide)
theorem qN_cl {b2 : Int} {L2 : List Int} (hT : cT x p σ) (hn : x.2.1 ≤ 940) (hj : ¬ (qisw x p (qrw 20) = true ∨ qisw x p (qrw 19) = true)) (hs : qsn x p 41 = true) : qN x S true d b (b2 :: L2) o p = qN x S true b2 b2 L2 o (qnx x.1 x.2.1 p) := by
  have k := qsn_k hs
  exact (qQ_bg hT.2.2.2.1 hn hT.2.2.1.1 hT.2.2.1.2 (by omega) (qbh_p hj hs)).trans qQ_d
theorem qN_jn (hT : cT x p σ) (hn : x.2.1 ≤ 940) (hj : qisw x p (qrw 20) = true ∨ qisw x p (qrw 19) = true) : qN x S true d b L o p = qN x S false b b L o (qnx x.1 x.2.1 p) := by
  have k : qkd x.1 x.2.1 x.2.2 p = 1 := hj.elim qisw_k qisw_k
  exact qQ_bg hT.2.2.2.1 hn hT.2.2.1.1 hT.2.2.1.2 (by omega) (qbh_j hj)
theorem qN_og (hT : cT x p σ) (hn : x.2.1 ≤ 940) {w2 : Bool} {d2 b2 o2 p2 : Int} {L2 : List Int} (e : qop x S.2.2 (S.2.1 0) (S.2.1 1) d b L o p = (0, (p2, w2, d2, b2, L2, o2))) : qN x S false d b L o p = qN x S w2 d2 b2 L2 o2 p2 := qQ_og hT.2.2.2.1 hn hT.2.2.1.1 hT.2.2.1.2 e
theorem qN_of {k p2 o2 d2 b2 : Int} {w2 : Bool} {L2 : List Int} (e : qop x S.2.2 (S.2.1 0) (S.2.1 1) d b L o p = (k, (p2, w2, d2, b2, L2, o2))) (hk : ¬ k = 0) : qN x S false d b L o p = (k, p2, o2) := qQ_of e hk
theorem qN_d {d2 : Int} : qN x S true d b L o p = qN x S true d2 b L o p := qQ_d
theorem qof_b (hH : cHn S) {k : Int} (hk : k = 2 ∨ k = 3) : qofn x S.2.2 (S.2.1 0) (S.2.1 1) k p ≤ 5 ∧ -3 ≤ qofn x S.2.2 (S.2.1 0) (S.2.1 1) k p ∧ (0 ≤ qofn x S.2.2 (S.2.1 0) (S.2.1 1) k p → qkd x.1 x.2.1 x.2.2 p = 1) := by
  obtain ⟨a, c, -⟩ := hH
  have e1 := qfd_b (f := S.2.2) (a := 6) (x := qwd x.1 x.2.1 p) (m := S.2.1 1) (by omega)
  have e2 := qfd_b (f := S.2.2) (a := 0) (x := qwd x.1 x.2.1 p) (m := S.2.1 0) (by omega)
  unfold qofn
  rw [qlf_eq]
  by_cases hn : qnmp x p = true
  · have := qnmp_k hn
    rw [if_pos hn]
    rcases hk with rfl | rfl
    · rw [if_pos (rfl : (2 : Int) = 2), if_pos (rfl : (2 : Int) = 2)]
      split <;> omega
    · rw [if_neg (by decide : ¬ (3 : Int) = 2), if_neg (by decide : ¬ (3 : Int) = 2)]
      split <;> omega
  · rw [if_neg hn]
    omega
end QNL
section ZVS
variable {E : zE} {w : va_W} {σ : vS} {K : vKL}
noncomputable section
def vLA : List (Nat × vSpL) := (48, vt48) :: (74, vs74) :: (75, vt75) :: (71, cs71) :: vT2
end
set_option maxRecDepth 8192 in
theorem vt_48 (X : zX gKX E) (B : zB E) : zOKC E md72 w 48 vt48 := by
  intro q hq vs σ K h
  cases (show gMT 48 = some (gm_48, 3) from rfl).symm.trans hq
  unfold vt48 at h
  split at h
  · rename_i a v
    obtain ⟨⟨ha, hv⟩, h⟩ := h
    have h : True ∧ ∀ σ2 : vS, cSg σ σ2 → σ2 102 4 = σ 102 4 → K none σ2 := ⟨trivial, h⟩
    show zGC E md72 w gm_48 0 [(0, .inr (.inl 102)), (1, .inl a), (2, .inl v)] σ K
    refine zbdC (fun hb => zgoC X B zS_nilC [] [] (fun m => false) (by decide +kernel) ?_)
    have f1 : 0 ≤ σ 102 3 ∧ σ 102 3 ≤ 40 := zfC hb (t := 102) (f := 3) (by decide +kernel)
    refine And.intro (fun (c2 : 40 ≤ (σ 102 3)) => ?_) (fun (c3 : (σ 102 3) < 40) => ?_)
    · exact h.2 _ (fun t (ht : t < 102) => rfl) rfl
    · refine And.intro (show 0 ≤ (σ 102 3) ∧ (σ 102 3) < 40 from by omega) ?_
      refine And.intro (show 0 ≤ a ∧ a ≤ 29 from by omega) ?_
      refine And.intro (show 0 ≤ (σ 102 3) ∧ (σ 102 3) < 40 from by omega) ?_
      refine And.intro (show 0 ≤ v ∧ v ≤ 6299 from by omega) ?_
      refine And.intro (show -2147483648 ≤ ((σ 102 3) + 1) ∧ ((σ 102 3) + 1) ≤ 2147483647 from by omega) ?_
      refine And.intro (show 0 ≤ ((σ 102 3) + 1) ∧ ((σ 102 3) + 1) ≤ 40 from by omega) ?_
      exact h.2 _ (fun t (ht : t < 102) => ((vup_fr (by omega)).trans ((vup_fr (by omega)).trans ((vup_fr (by omega)).trans rfl)))) rfl
  · exact absurd h id
abbrev zGoR (a b : eM × Nat) (KX : Nat → Nat → Option Int) (E : zE) (md : aMd) (w : va_W) (L : List (Nat × vSpL)) (wd : List Nat) (C : List (Nat × List Nat)) (m0 : eM → Bool) (mi : eM) (pc : Nat) (ls : List (Nat × vVL)) (σ : vS) (K : vKL) : Prop := vGoL gFL gCL (gMTr a b) gKI KX gSTc [] md uqc (zspL L) (zGC E md w) wd C m0 1000 mi pc ls σ K
def zOKR (E : zE) (md : aMd) (w : va_W) (q : eM × Nat) (sp : vSpL) : Prop := ∀ vs σ K, sp vs σ K → zGC E md w q.1 0 (vargsL vs 0) σ K
def vNo : vSpL := fun _ _ _ => False
theorem zOKR_no {md : aMd} {q : eM × Nat} : zOKR E md w q vNo := fun _ _ _ h => h.elim
/-- the walk, where the two that call each other have another room -/
theorem zgoR {a b : eM × Nat} {sa sb : vSpL} {md : aMd} {L : List (Nat × vSpL)} {mi : eM} {pc : Nat} {ls : List (Nat × vVL)} (ha : zalt a (gm_52, 8)) (hb : zalt b (gm_55, 7)) (X : zX gKX E) (B : zB E) (Sa : zOKR E md w a sa) (Sb : zOKR E md w b sb) (S : zSC E md w L) (hL : (L.all fun p => bif Nat.beq p.1 52 || Nat.beq p.1 55 then false else true) = true) (wd : List Nat) (C : List (Nat × List Nat)) (m0 : eM → Bool) (hlen : elens mi = true) (h : zGoR a b gKX E md w ((52, sa) :: (55, sb) :: L) wd C m0 mi pc ls σ K) : zGC E md w mi pc ls σ K := by
  obtain ⟨b1, b2, b3, b4, b5, b6, b7, b8⟩ := B
  have hM : ∀ mno q', gMTr a b mno = some q' → ∃ q0, gMT mno = some q0 ∧ zalt q' q0 := by
    intro mno q' hq
    unfold gMTr at hq
    cases h1 : Nat.beq mno 52 with
    | true =>
      rw [h1, cond_true] at hq
      cases hq
      rw [Nat.eq_of_beq_eq_true h1]
      exact ⟨_, rfl, ha⟩
    | false =>
      rw [h1, cond_false] at hq
      cases h2 : Nat.beq mno 55 with
      | true =>
        rw [h2, cond_true] at hq
        cases hq
        rw [Nat.eq_of_beq_eq_true h2]
        exact ⟨_, rfl, hb⟩
      | false =>
        rw [h2, cond_false] at hq
        exact ⟨q', hq, rfl, rfl, rfl⟩
  refine v_goL (MT := gMTr a b) (SP := zspL ((52, sa) :: (55, sb) :: L)) ⟨b1, b2, b3, ?_, b5, X, zsoc_2, ?_⟩ wd C m0 1000 (fun q hq => List.all_eq_true.mp hlen q hq) h
  · intro o idx kd mno n hcl hkd q' hq'
    obtain ⟨q0, g1, g2⟩ := hM mno q' hq'
    obtain ⟨y, cc, ret, k1, k2, k3⟩ := b4 o idx kd mno n hcl hkd q0 g1
    exact ⟨y, cc, ret, gMok_alt g2 k1, k2, fun h => by rw [g2.2.1]; exact k3 h⟩
  · intro mno q sp hq hsp vs σ K hv
    rcases List.mem_cons.mp (zsp_okL hsp) with e | e
    · cases e
      cases hq
      exact Sa vs σ K hv
    rcases List.mem_cons.mp e with e | e
    · cases e
      cases hq
      exact Sb vs σ K hv
    · have hm := List.all_eq_true.mp hL _ e
      have hm : (bif Nat.beq mno 52 || Nat.beq mno 55 then false else true) = true := hm
      unfold gMTr at hq
      cases h1 : Nat.beq mno 52 with
      | true => rw [h1] at hm; exact absurd hm Bool.false_ne_true
      | false =>
        cases h2 : Nat.beq mno 55 with
        | true => rw [h1, h2] at hm; exact absurd hm Bool.false_ne_true
        | false =>
          rw [h1, cond_false, h2, cond_false] at hq
          exact S _ e q hq vs σ K hv
theorem vLA_ok (X : zX gKX E) (B : zB E) : zSC E md72 w vLA := zS_consC (vt_48 X B) (zS_consC (vk_74 X B) (zS_consC (vt_75 X B) (zS_consC (ck_71 X B) (vT2_ok X B))))
end ZVS
