/-! THE REFERENCE'S BOOK, from where its LINES are read on: checked -/
noncomputable section
def gc_184_r : aCon := ([.inr (.inl 12), .inl (.ofNat 0, .ofNat 1)], [], [(some (.inl (.negSucc 999, .ofNat 39)), [])], [(12, 22, 23), (12, 44, 45), (52, 179, 221), (57, 0, 336), (58, 0, 42), (71, 0, 4)])
def gx_184r : aXt := [(121, [((0, 0), [(0, .inl 0), (1, .inl 0), (2, .inl 0), (3, .inr (.inl (.negSucc 0, .ofNat 39), none)), (4, .inr (.inl (.ofNat 0, .ofNat 40), none))], [], [(52, 180, 181), (71, 0, 2)], [], some (true, .inl 4))]), (140, [((4, 4), [], [], [], [], none)]), (319, [((2, 0), [], [], [], [], some (true, .inr (0, 22)))])]
end
theorem gkr_184 : acckm gFL gCL gMT gXTm gKI gKL gST (gCA [(177, [gc_177_0]), (188, [gc_188_0]), (198, [gc_198_0]), (207, [gc_207_0, gc_207_1, gc_207_2, gc_207_3, gc_207_4]), (223, [gc_223_0]), (232, [gc_232_0]), (240, [gc_240_0]), (271, [gc_271_w]), (281, [gc_281_0]), (288, [gc_288_0])]) gjl 100000 gm_184 gx_184r gc_184_r 83 (match ej ga_184 83 with
  | some cd => cd
  | none => []) = true := by decide +kernel
section ZVM
variable {E : zE} {md : aMd} {w : va_W} {σ : vS} {K : vKL}
theorem jr_of {ws : va_W} (hs : vsgL (zso E) zuq ws σ) {i : Nat} {w0 w1 w2 w3 : Int × Int} (h0 : ∀ z : Int32, z.toInt = σ 54 (4 * (i : Int)) → w0.1 ≤ z.toInt ∧ z.toInt ≤ w0.2) (h1 : ∀ z : Int32, z.toInt = σ 54 (4 * (i : Int) + 1) → w1.1 ≤ z.toInt ∧ z.toInt ≤ w1.2) (h2 : ∀ z : Int32, z.toInt = σ 54 (4 * (i : Int) + 2) → w2.1 ≤ z.toInt ∧ z.toInt ≤ w2.2) (h3 : ∀ z : Int32, z.toInt = σ 54 (4 * (i : Int) + 3) → w3.1 ≤ z.toInt ∧ z.toInt ≤ w3.2) : jRow (zso E) ws i [(8, 54, 4, 0), (8, 54, 4, 1), (8, 54, 4, 2), (8, 54, 4, 3)] [w0, w1, w2, w3] := by
  refine ⟨rfl, fun c q w hq hw o z ho hz => ?_⟩
  have key : ∀ k : Nat, (zso E)[o]? = some 54 → gcv ws o (4 * i + k) = some (.int z) → z.toInt = σ 54 (4 * (i : Int) + (k : Int)) := fun k hk hg => by
    have e := hs.1 o 54 (4 * i + k) z hk rfl hg
    rw [e]
    congr 1
  match c, hq, hw with
  | 0, hq, hw => cases hq; cases hw; exact h0 z (by have e := key 0 ho hz; rw [show 4 * (i : Int) + ((0 : Nat) : Int) = 4 * (i : Int) by omega] at e; exact e)
  | 1, hq, hw => cases hq; cases hw; exact h1 z (key 1 ho hz)
  | 2, hq, hw => cases hq; cases hw; exact h2 z (key 2 ho hz)
  | 3, hq, hw => cases hq; cases hw; exact h3 z (key 3 ho hz)
  | n + 4, hq, hw => exact absurd hq (by intro q2; cases q2)
theorem z_jr {ws : va_W} (h : jOk (zso E) gJ1 ws) (hs : vsgL (zso E) zuq ws σ) (hr : ∀ i : Int, 0 ≤ i → i < σ 12 42 → rRow (σ 54) i) : jOk (zso E) gjl ws := by
  intro J hJ o y ho hy i hi
  rcases List.mem_cons.mp (show J ∈ [_, _] from hJ) with rfl | hJ
  · exact h _ List.mem_cons_self o y ho hy i hi
  · have e := List.mem_singleton.mp hJ
    subst e
    have hy2 := hs.1 o 12 42 y ho rfl hy
    have hi2 : (i : Int) < σ 12 42 := by rw [← show y.toInt = σ 12 42 from hy2]; exact hi
    have full : ∀ z : Int32, ∀ q : Int, z.toInt = q → Int.negSucc 2147483647 ≤ z.toInt ∧ z.toInt ≤ Int.ofNat 2147483647 := fun z _ _ => ⟨Int32.le_toInt z, Int32.toInt_le z⟩
    rcases hr (i : Int) (by omega) hi2 with ⟨a, ⟨b, c⟩, d⟩ | ⟨a, ⟨b, c⟩, d, d2⟩ | ⟨a, ⟨b, c⟩, d⟩ | ⟨a, b⟩ | ⟨a, b⟩ | ⟨a, b⟩ | ⟨a, b⟩
    · exact ⟨_, List.mem_cons_self, jr_of hs (fun z q => by rw [q, a]; decide) (fun z q => by rw [q]; exact ⟨b, c⟩) (fun z q => by rw [q]; exact d) (fun z q => full z _ q)⟩
    · exact ⟨_, List.mem_cons_of_mem _ List.mem_cons_self, jr_of hs (fun z q => by rw [q, a]; decide) (fun z q => by rw [q]; exact ⟨b, c⟩) (fun z q => by rw [q]; exact d) (fun z q => by rw [q]; exact d2)⟩
    · exact ⟨_, List.mem_cons_of_mem _ (List.mem_cons_of_mem _ List.mem_cons_self), jr_of hs (fun z q => by rw [q]; exact a) (fun z q => by rw [q]; exact ⟨b, c⟩) (fun z q => full z _ q) (fun z q => by rw [q]; exact d)⟩
    · exact ⟨_, List.mem_cons_of_mem _ (List.mem_cons_of_mem _ (List.mem_cons_of_mem _ List.mem_cons_self)), jr_of hs (fun z q => by rw [q, a]; decide) (fun z q => by rw [q]; exact b) (fun z q => full z _ q) (fun z q => full z _ q)⟩
    · exact ⟨_, List.mem_cons_of_mem _ (List.mem_cons_of_mem _ (List.mem_cons_of_mem _ (List.mem_cons_of_mem _ List.mem_cons_self))), jr_of hs (fun z q => by rw [q]; exact a) (fun z q => by rw [q]; exact b) (fun z q => full z _ q) (fun z q => full z _ q)⟩
    · exact ⟨_, List.mem_cons_of_mem _ (List.mem_cons_of_mem _ (List.mem_cons_of_mem _ (List.mem_cons_of_mem _ (List.mem_cons_of_mem _ List.mem_cons_self)))), jr_of hs (fun z q => by rw [q, a]; decide) (fun z q => by rw [q]; exact b) (fun z q => full z _ q) (fun z q => full z _ q)⟩
    · exact ⟨_, List.mem_cons_of_mem _ (List.mem_cons_of_mem _ (List.mem_cons_of_mem _ (List.mem_cons_of_mem _ (List.mem_cons_of_mem _ (List.mem_cons_of_mem _ List.mem_cons_self))))), jr_of hs (fun z q => by rw [q, a]; decide) (fun z q => by rw [q]; exact b) (fun z q => full z _ q) (fun z q => full z _ q)⟩
theorem z_midL (B : zB E) {mi : eM} {pc : Nat} {c : aCon} (hc : ∀ (asx : List Value) (ws : va_W), wOk (zso E) (zad E) E.2.2.2.2.2.2.1 gST ws → jOk (zso E) gjl ws → vsOk (zso E) (zad E) c.1 asx → gG E.1 E.2.1 E.2.2.1 E.2.2.2.1 E.2.2.2.2.1 E.2.2.2.2.2.1 E.2.2.2.2.2.2.1 E.2.2.2.2.2.2.2.1 E.2.2.2.2.2.2.2.2.1 E.2.2.2.2.2.2.2.2.2.1 E.2.2.2.2.2.2.2.2.2.2.1 mi pc (lv_args 0 asx) [] ws 0 0 (cPost E.2.2.2.2.2.2.1 (zso E) (zad E) gST gjl c asx ws)) (hj : ∀ ws, jOk (zso E) gJ1 ws → vsgL (zso E) zuq ws σ → jOk (zso E) gjl ws) {vs : List vVL} (h1 : vFitsL c.1 vs) (h2 : vX σ) (h3 : amds md c.2.2.2 = true) (h4 : ∀ al ∈ c.2.2.1, ∀ (ret : Option vVL) (σ2 : vS), vFrL al.1 ret → vX σ2 → (∀ (t : Nat) (i : Int), zuq t = true → 0 ≤ i → (∀ q ∈ c.2.2.2, ¬ (q.1 = t ∧ (q.2.1 : Int) ≤ i ∧ i < (q.2.2 : Int))) → σ2 t i = σ t i) → K ret σ2) : zGL E gJ1 md w mi pc (vargsL vs 0) σ K := by
  have hU := B.2.2.2.2.2.2.1
  have hex : (∃ o : Nat, (zso E)[o]? = some 52) ∧ ∃ o : Nat, (zso E)[o]? = some 74 := ⟨B.2.2.2.2.2.2.2 52 rfl, B.2.2.2.2.2.2.2 74 rfl⟩
  intro Kg lv stA ws hW hl hs hK
  have e0 := vsR_nilL hs
  subst e0
  obtain ⟨asx, k1, k2⟩ := vargs_invL hl
  refine gG_sub k2 (gG_mono ?_ (hc asx ws (w_ofL z_vXh ⟨rfl, rfl⟩ hW h2) (hj ws hW.2.1 hW.2.2.2) (v_vsOkL h1 k1)))
  intro rv ws2 ⟨p1, p2, p3, al, p4, p5, p6⟩
  obtain ⟨σ2, s1, s2⟩ := sg_exL hU ws2 σ
  have hj1 : jOk (zso E) gJ1 ws2 := fun J hJ => p2 J (by
    rcases List.mem_cons.mp (show J ∈ [_] from hJ) with rfl | h
    · exact List.mem_cons_self
    · exact absurd h List.not_mem_nil)
  have hW2 : vWL _ (zso E) (zad E) gST gJ1 md w zuq ws2 σ2 := ⟨⟨p1.1, p1.2.1, fun o t q hq ht => (p1.2.2 o t q hq ht).1⟩, hj1, fRel_tr hW.2.2.1 p3 (amds_ok h3), s1⟩
  obtain ⟨ret, r1, r2⟩ : ∃ ret, vFrL al.1 ret ∧ vRtL (zso E) (zad E) ret rv := by
    cases hal : al.1 with
    | none =>
      rw [hal] at p5
      cases rv with
      | none => exact ⟨none, trivial, trivial⟩
      | some x => exact absurd p5 id
    | some f =>
      rw [hal] at p5
      cases rv with
      | none => exact absurd p5 id
      | some x =>
        obtain ⟨v, v1, v2⟩ := vOk_vL (show vOk (zso E) (zad E) f x from p5)
        exact ⟨some v, v1, v2⟩
  refine hK ret σ2 ws2 rv (h4 al p4 ret σ2 r1 (of_wL z_vXh ⟨rfl, rfl⟩ hex hW2 p1) ?_) hW2 r2
  intro t i hut hi hno
  refine s2 t i (fun o z ho hi hz => ?_) (fun o z ho hi hz => ?_)
  · have e := p3 o t i.toNat ho (fun q hq hh => hno q hq ⟨hh.1, by omega, by omega⟩)
    rw [e] at hz
    have := hW.2.2.2.1 o t i.toNat z ho hut hz
    rw [this, Int.toNat_of_nonneg hi]
  · have e := p3 o t i.toNat ho (fun q hq hh => hno q hq ⟨hh.1, by omega, by omega⟩)
    rw [e] at hz
    have := hW.2.2.2.2 o t i.toNat z ho hut hz
    rw [this, Int.toNat_of_nonneg hi]
end ZVM
