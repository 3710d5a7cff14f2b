/-! THE REFERENCE'S SENTENCE, a step: what holds between two steps -/
noncomputable section
def rQ (x : qX) (σ0 : vS) (w : Bool) (d b : Int) (L : List Int) (o p u : Int) (σ : vS) : Prop := rT x p σ ∧ zIv σ u ∧ (σ 12 50 = (if w = true then 1 else 0) ∧ σ 12 47 = o) ∧ (rst (σ 72) L (σ 12 48) d b ∧ σ 12 49 = d ∧ d ≤ 9) ∧ σ 55 = σ0 55 ∧ σ 52 = σ0 52
/-- but ONES, and the reader's own cells, all is as it was -/
def rSm (σ σ1 : vS) : Prop := (∀ t : Nat, ¬ t = 12 → σ1 t = σ t) ∧ σ1 12 46 = σ 12 46 ∧ σ1 12 48 = σ 12 48 ∧ σ1 12 49 = σ 12 49 ∧ σ1 12 50 = σ 12 50
end
section RQ
variable {x : qX} {σ0 σ σ1 σ2 : vS} {d b o p p1 u : Int} {L : List Int}
theorem rTB_w {i v : Int} (h : rTB x σ) (hi : 18 ≤ i) : rTB x (vup σ 12 i v) := by
  obtain ⟨⟨h1, h2, h3, h4, h5⟩, h6, h7⟩ := h
  have e : ∀ j : Int, j < 18 → vup σ 12 i v 12 j = σ 12 j := fun j hj => vup_ne 12 j (fun q => by have := q.2; omega)
  refine ⟨⟨?_, (e 3 (by decide)).trans h2, (e 5 (by decide)).trans h3, (e 2 (by decide)).trans h4, vX_fr h5 (vup_fr (by decide)) (vup_fr (by decide))⟩, fun j a b => by rw [vup_fr (by decide)]; exact h6 j a b, (e 15 (by decide)).trans h7⟩
  rw [← h1]
  unfold rtx
  rw [vup_fr (by decide)]
theorem rT_u {i v : Int} (h : rT x p σ) (hi : 18 ≤ i) : rT x p (vup σ 12 i v) := ⟨rTB_w h.1 hi, qTr_eq h.2.1 (fun j hj => vup_ne 12 j (fun q => by have := q.2; omega)), h.2.2⟩
theorem rT_zfd (h : rT x p σ) (g : zfd σ σ1) : rT x p σ1 := by
  obtain ⟨⟨⟨h1, h2, h3, h4, h5⟩, h6, h7⟩, h8, h9⟩ := h
  have e : ∀ i : Int, i ≤ 18 → σ1 12 i = σ 12 i := fun i hi => g.2 i (by omega) (by omega) (by omega)
  refine ⟨⟨⟨?_, (e 3 (by decide)).trans h2, (e 5 (by decide)).trans h3, (e 2 (by decide)).trans h4, vX_fr h5 (g.1 52 (by decide) (by decide)) (g.1 74 (by decide) (by decide))⟩, fun j a b => by rw [g.1 56 (by decide) (by decide)]; exact h6 j a b, (e 15 (by decide)).trans h7⟩, qTr_eq h8 (fun i hi => e i (by omega)), h9⟩
  rw [← h1]
  unfold rtx
  rw [g.1 51 (by decide) (by decide)]
theorem rSm_of {v : Int} (h : rfr (vup σ 12 47 v) σ1) : rSm σ σ1 ∧ σ1 12 47 = v := by
  have e : ∀ i : Int, 18 ≤ i → ¬ i = 47 → σ1 12 i = σ 12 i := fun i h1 h2 => (h.2 i (by omega) (by omega) (by omega) (by omega) (by omega) (by omega)).trans (vup_ne 12 i (fun q => h2 q.2))
  exact ⟨⟨fun t ht => (h.1 t ht).trans (vup_fr ht), e 46 (by decide) (by decide), e 48 (by decide) (by decide), e 49 (by decide) (by decide), e 50 (by decide) (by decide)⟩, (h.2 47 (by decide) (by decide) (by decide) (by decide) (by decide) (by decide)).trans vup_eq⟩
theorem zIv_0 (h : rQ x σ0 false d b L o p u σ) (hs : rSm σ σ1) : zIw (σ1 54) (σ1 72) (σ1 12 46) (σ1 12 48) o 0 u := by
  obtain ⟨-, hI, ⟨h1, h2⟩, -⟩ := h
  unfold zIv at hI
  rw [h1, h2] at hI
  rw [hs.1 54 (by decide), hs.1 72 (by decide), hs.2.1, hs.2.2.1]
  exact hI
theorem rQ_n (h : rQ x σ0 false d b L o p u σ) (ho : o + 1 ≤ 20) (hd : d ≤ 8) (hs : rSm σ σ1) (e47 : σ1 12 47 = o + 1) (hT : rT x p1 σ1) : rQ x σ0 false (d + 1) b L (o + 1) p1 (u + 1) (vup (vup (vup σ1 72 (σ1 12 48) 20) 12 48 (σ1 12 48 + 1)) 12 49 (σ1 12 49 + 1)) := by
  have hI := zIv_0 h hs
  obtain ⟨-, -, ⟨h1, h2⟩, ⟨h3, h4, h5⟩, h6, h7⟩ := h
  have h1 : σ 12 50 = 0 := h1
  refine ⟨rT_u (rT_u (rT_t hT (by decide)) (by decide)) (by decide), ?_, ⟨?_, ?_⟩, ⟨?_, ?_, by omega⟩, ?_, ?_⟩
  · show zIw (σ1 54) (vup (vup (vup σ1 72 (σ1 12 48) 20) 12 48 (σ1 12 48 + 1)) 12 49 (σ1 12 49 + 1) 72) (σ1 12 46) (σ1 12 48 + 1) (σ1 12 47) (σ1 12 50) (u + 1)
    rw [e47, hs.2.2.2.2, h1, show vup (vup (vup σ1 72 (σ1 12 48) 20) 12 48 (σ1 12 48 + 1)) 12 49 (σ1 12 49 + 1) 72 = ful (σ1 72) (σ1 12 48) 20 from vup_f]
    exact zIw_push hI (by omega) ho
  · exact hs.2.2.2.2.trans h1
  · exact e47
  · show rst (vup (vup (vup σ1 72 (σ1 12 48) 20) 12 48 (σ1 12 48 + 1)) 12 49 (σ1 12 49 + 1) 72) L (σ1 12 48 + 1) (d + 1) b
    rw [show vup (vup (vup σ1 72 (σ1 12 48) 20) 12 48 (σ1 12 48 + 1)) 12 49 (σ1 12 49 + 1) 72 = ful (σ1 72) (σ1 12 48) 20 from vup_f, hs.1 72 (by decide), hs.2.2.1]
    exact rst_n h3
  · show σ1 12 49 + 1 = d + 1
    rw [hs.2.2.2.1, h4]
  · exact (hs.1 55 (by decide)).trans h6
  · exact (hs.1 52 (by decide)).trans h7
theorem rQ_o (h : rQ x σ0 false d b L o p u σ) (ho : o + 1 ≤ 20) (hd : d ≤ 8) (hs : rSm σ σ1) (e47 : σ1 12 47 = o + 1) (hT : rT x p1 σ1) : rQ x σ0 false (d + 1) (d + 1) (b :: L) (o + 1) p1 (u + 1) (vup (vup (vup σ1 72 (σ1 12 48) 23) 12 48 (σ1 12 48 + 1)) 12 49 (σ1 12 49 + 1)) := by
  have hI := zIv_0 h hs
  obtain ⟨-, -, ⟨h1, h2⟩, ⟨h3, h4, h5⟩, h6, h7⟩ := h
  have h1 : σ 12 50 = 0 := h1
  refine ⟨rT_u (rT_u (rT_t hT (by decide)) (by decide)) (by decide), ?_, ⟨?_, ?_⟩, ⟨?_, ?_, by omega⟩, ?_, ?_⟩
  · show zIw (σ1 54) (vup (vup (vup σ1 72 (σ1 12 48) 23) 12 48 (σ1 12 48 + 1)) 12 49 (σ1 12 49 + 1) 72) (σ1 12 46) (σ1 12 48 + 1) (σ1 12 47) (σ1 12 50) (u + 1)
    rw [e47, hs.2.2.2.2, h1, show vup (vup (vup σ1 72 (σ1 12 48) 23) 12 48 (σ1 12 48 + 1)) 12 49 (σ1 12 49 + 1) 72 = ful (σ1 72) (σ1 12 48) 23 from vup_f]
    exact zIw_push hI (by omega) ho
  · exact hs.2.2.2.2.trans h1
  · exact e47
  · show rst (vup (vup (vup σ1 72 (σ1 12 48) 23) 12 48 (σ1 12 48 + 1)) 12 49 (σ1 12 49 + 1) 72) (b :: L) (σ1 12 48 + 1) (d + 1) (d + 1)
    rw [show vup (vup (vup σ1 72 (σ1 12 48) 23) 12 48 (σ1 12 48 + 1)) 12 49 (σ1 12 49 + 1) 72 = ful (σ1 72) (σ1 12 48) 23 from vup_f, hs.1 72 (by decide), hs.2.2.1]
    exact rst_o h3
  · show σ1 12 49 + 1 = d + 1
    rw [hs.2.2.2.1, h4]
  · exact (hs.1 55 (by decide)).trans h6
  · exact (hs.1 52 (by decide)).trans h7
/-- a leaf is written behind the words so far -/
theorem rQ_l {k : Int} (h : rQ x σ0 false d b L o p u σ) (ho : o + 1 ≤ 20) (hk : 0 ≤ k ∧ k ≤ 7) (hf : ∀ t : Nat, ¬ t = 12 → ¬ t = 54 → σ2 t = σ t) (e46 : σ2 12 46 = σ 12 46 + 1) (e47 : σ2 12 47 = o + 1) (e48 : σ2 12 48 = σ 12 48) (e49 : σ2 12 49 = σ 12 49) (e50 : σ2 12 50 = 1) (hR : ∀ j : Int, 0 ≤ j → j < 3 * σ 12 46 → σ2 54 j = σ 54 j) (hx : σ2 54 (3 * σ 12 46) = k) (hT : rT x p1 σ2) : rQ x σ0 true d b L (o + 1) p1 u σ2 := by
  obtain ⟨-, hI, ⟨h1, h2⟩, ⟨h3, h4, h5⟩, h6, h7⟩ := h
  have h1 : σ 12 50 = 0 := h1
  refine ⟨hT, ?_, ⟨e50, e47⟩, ⟨?_, e49.trans h4, h5⟩, (hf 55 (by decide) (by decide)).trans h6, (hf 52 (by decide) (by decide)).trans h7⟩
  · unfold zIv at hI ⊢
    rw [h1, h2] at hI
    rw [hf 72 (by decide) (by decide), e46, e47, e48, e50]
    exact zIw_leaf hI hR hx hk ho
  · rw [hf 72 (by decide) (by decide), e48]
    exact h3
/-- a joint is put on the row -/
theorem rQ_j {k u2 : Int} (h : rQ x σ0 true d b L o p u σ) (hk : k = 21 ∨ k = 22) (hI : zIv σ1 u2) (hz : zfd σ σ1) (hS : rst (σ 72) L (σ1 12 48) b b) (hD : σ1 12 49 = b) (hb : b ≤ 9) (hf : rfr (vup (vup (vup σ1 72 (σ1 12 48) k) 12 48 (σ1 12 48 + 1)) 12 50 0) σ2) (hT : rT x p1 σ2) : rQ x σ0 false b b L o p1 u2 σ2 := by
  obtain ⟨-, -, ⟨h1, h2⟩, ⟨h3, h4, h5⟩, h6, h7⟩ := h
  have h1 : σ 12 50 = 1 := h1
  have e : ∀ i : Int, 18 ≤ i → σ2 12 i = vup (vup (vup σ1 72 (σ1 12 48) k) 12 48 (σ1 12 48 + 1)) 12 50 0 12 i := fun i hi => hf.2 i (by omega) (by omega) (by omega) (by omega) (by omega) (by omega)
  have e72 : σ2 72 = ful (σ1 72) (σ1 12 48) k := (hf.1 72 (by decide)).trans vup_f
  have o1 : σ1 12 50 = 1 := (hz.2 50 (by decide) (by decide) (by decide)).trans h1
  have o2 : σ1 12 47 = o := (hz.2 47 (by decide) (by decide) (by decide)).trans h2
  have x48 : σ2 12 48 = σ1 12 48 + 1 := e 48 (by decide)
  have x46 : σ2 12 46 = σ1 12 46 := e 46 (by decide)
  have x47 : σ2 12 47 = σ1 12 47 := e 47 (by decide)
  have x49 : σ2 12 49 = σ1 12 49 := e 49 (by decide)
  have x50 : σ2 12 50 = 0 := e 50 (by decide)
  have x54 : σ2 54 = σ1 54 := hf.1 54 (by decide)
  refine ⟨hT, ?_, ⟨x50, x47.trans o2⟩, ⟨?_, x49.trans hD, hb⟩, ?_, ?_⟩
  · unfold zIv at hI ⊢
    rw [o1] at hI
    rw [e72, x46, x47, x48, x50, x54]
    exact zIw_op hI hk
  · rw [e72, x48, hz.1 72 (by decide) (by decide)]
    exact rst_j hk hS
  · exact ((hf.1 55 (by decide)).trans (hz.1 55 (by decide) (by decide))).trans h6
  · exact ((hf.1 52 (by decide)).trans (hz.1 52 (by decide) (by decide))).trans h7
/-- a bracket is shut -/
theorem rQ_p {b2 u2 : Int} {L2 : List Int} (h : rQ x σ0 true d b L o p u σ) (hI : zIv σ1 u2) (hz : zfd σ σ1) (ht : 0 < σ1 12 48) (hj : ¬ zj (σ1 72) (σ1 12 48 - 1)) (hS : rst (σ 72) L2 (σ1 12 48 - 1) (b - 1) b2) (hD : σ1 12 49 = b) (hb : b ≤ 9) (hf : rfr (vup (vup σ1 12 48 (σ1 12 48 - 1)) 12 49 (σ1 12 49 - 1)) σ2) (hT : rT x p1 σ2) : rQ x σ0 true (b - 1) b2 L2 o p1 (u2 - 1) σ2 := by
  obtain ⟨-, -, ⟨h1, h2⟩, ⟨h3, h4, h5⟩, h6, h7⟩ := h
  have h1 : σ 12 50 = 1 := h1
  have e : ∀ i : Int, 18 ≤ i → σ2 12 i = vup (vup σ1 12 48 (σ1 12 48 - 1)) 12 49 (σ1 12 49 - 1) 12 i := fun i hi => hf.2 i (by omega) (by omega) (by omega) (by omega) (by omega) (by omega)
  have o1 : σ1 12 50 = 1 := (hz.2 50 (by decide) (by decide) (by decide)).trans h1
  have o2 : σ1 12 47 = o := (hz.2 47 (by decide) (by decide) (by decide)).trans h2
  have x48 : σ2 12 48 = σ1 12 48 - 1 := e 48 (by decide)
  have x46 : σ2 12 46 = σ1 12 46 := e 46 (by decide)
  have x47 : σ2 12 47 = σ1 12 47 := e 47 (by decide)
  have x49 : σ2 12 49 = σ1 12 49 - 1 := e 49 (by decide)
  have x50 : σ2 12 50 = σ1 12 50 := e 50 (by decide)
  have x54 : σ2 54 = σ1 54 := hf.1 54 (by decide)
  have x72 : σ2 72 = σ1 72 := hf.1 72 (by decide)
  refine ⟨hT, ?_, ⟨x50.trans o1, x47.trans o2⟩, ⟨?_, by rw [x49, hD], by omega⟩, ?_, ?_⟩
  · unfold zIv at hI ⊢
    rw [x72, x46, x47, x48, x50, x54]
    exact zIw_pop hI ht hj
  · rw [x72, x48, hz.1 72 (by decide) (by decide)]
    exact hS
  · exact ((hf.1 55 (by decide)).trans (hz.1 55 (by decide) (by decide))).trans h6
  · exact ((hf.1 52 (by decide)).trans (hz.1 52 (by decide) (by decide))).trans h7
end RQ
