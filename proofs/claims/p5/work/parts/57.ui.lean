/-! THE CLASS READS A TERRACE, in the words of 14.ua, 14.ub: takeSign, indexOf, isTold, toldName. -/
noncomputable section
/-- the codes of the thirty words -/
def qkl : List Int := [4562600, 8434683, 365647, 90090, 365288, 47, 6477035, 161370, 6562612, 148870, 10204885, 240400, 40600, 85447, 12409381, 10270711, 8290585, 1489744, 191610176, 423, 1111, 10631, 1489745, 131360, 411, 257, 232546955, 2432449, 12532058, 212302449]
def qkc (j : Int) : Int := match qkl[j.toNat]? with
  | some x => x
  | none => 0
def cTB (x : qX) (σ : vS) : Prop := (ctx σ = x.1 ∧ σ 7 1 = x.2.1 ∧ σ 7 9 = x.2.2) ∧ (∀ j : Int, 0 ≤ j → j < 30 → σ 35 j = qkc j) ∧ σ 7 2 = 0
/-- the token that is looked at -/
def cTk (x : qX) (p : Int) (σ : vS) : Prop := σ 7 5 = qat x.1 x.2.1 x.2.2 p ∧ ((qkd x.1 x.2.1 x.2.2 p = 0 ∧ σ 7 4 = 0) ∨ (qkd x.1 x.2.1 x.2.2 p = 4 ∧ σ 7 4 = 1) ∨ (σ 7 10 = qnx x.1 x.2.1 p ∧ ((qkd x.1 x.2.1 x.2.2 p = 3 ∧ σ 7 4 = 5 ∧ σ 7 6 = qvl x.1 x.2.1 p) ∨ (qkd x.1 x.2.1 x.2.2 p = 2 ∧ σ 7 4 = 4 ∧ σ 7 6 = qvl x.1 x.2.1 p) ∨ (qkd x.1 x.2.1 x.2.2 p = 1 ∧ (0 ≤ σ 7 7 ∧ σ 7 7 < 10460353203) ∧ qwd x.1 x.2.1 p = tph 7 (σ 7 7) ∧ ((qnm (qwd x.1 x.2.1 p) = true ∧ σ 7 4 = 3) ∨ (qnm (qwd x.1 x.2.1 p) = false ∧ σ 7 4 = 2 ∧ (0 ≤ σ 7 6 ∧ σ 7 6 < 30) ∧ qwd x.1 x.2.1 p = qrw (σ 7 6)))))))
def cT (x : qX) (p : Int) (σ : vS) : Prop := cTB x σ ∧ cTk x p σ ∧ (0 ≤ p ∧ p ≤ x.2.1) ∧ (0 ≤ x.2.2 ∧ x.2.2 ≤ 900)
def cFl (x : qX) (k p : Int) (σ : vS) : Prop := σ 7 2 = k ∧ σ 7 3 = qat x.1 x.2.1 x.2.2 p
/-- but the reader's own cells -/
def cg (σ σ2 : vS) : Prop := (∀ t, ¬ t = 7 → σ2 t = σ t) ∧ ∀ i : Int, ¬ (2 ≤ i ∧ i ≤ 7) → ¬ i = 10 → σ2 7 i = σ 7 i
def vs74 : vSpL := fun vs σ K => match vs with
  | [.inr (.inl 7), .inl c] => ∃ x p, cT x p σ ∧ (qsn x p c = false → ∀ σ2, cFl x 1 p σ2 → cg σ σ2 → K (some (.inl 0)) σ2) ∧ (qsn x p c = true → ∀ σ2, cT x (qnx x.1 x.2.1 p) σ2 → cg σ σ2 → K (some (.inl 1)) σ2)
  | _ => False
/-- the first on of a sort's names -/
def vs81 : vSpL := fun vs σ K => match vs with
  | [.inr (.inl 78), .inl sort, .inr (.inr code)] => (sort = 0 ∨ sort = 1 ∨ sort = 2) ∧ (sort = 0 → ∀ r : Int, rfd (σ 80) 0 (σ 79 0) code r → K (some (.inl r)) σ) ∧ (sort = 1 → ∀ r : Int, rfd (σ 81) 0 (σ 79 1) code r → K (some (.inl r)) σ) ∧ (sort = 2 → ∀ r : Int, rfd (σ 82) 0 (σ 79 2) code r → K (some (.inl r)) σ)
  | _ => False
/-- the names of a sort are those of the words -/
def cNm (f : Int → Int) (m : Int) (nm : Int → Int) (b : Int) : Prop := ∀ i : Int, 0 ≤ i → i < m → (0 ≤ f i ∧ f i < 10460353203) ∧ nm (b + i) = tph 7 (f i)
end
theorem qkc_ok : ∀ j : Nat, j < 30 → tph 7 (qkc (j : Int)) = qrw (j : Int) ∧ 0 ≤ qkc (j : Int) ∧ qkc (j : Int) < 10460353203 := by decide +kernel
theorem cg_refl {σ : vS} : cg σ σ := ⟨fun _ _ => rfl, fun _ _ _ => rfl⟩
theorem cg_tr {σ0 σ1 σ2 : vS} (h : cg σ0 σ1) (h2 : cg σ1 σ2) : cg σ0 σ2 := ⟨fun t ht => (h2.1 t ht).trans (h.1 t ht), fun i a b => (h2.2 i a b).trans (h.2 i a b)⟩
theorem cg_of {σ0 σ : vS} (h : cfr σ0 σ) : cg σ0 σ := ⟨h.1, fun i a b => h.2 i (fun q => a (by omega)) (fun q => a (by omega)) (fun q => a (by omega)) (fun q => a (by omega)) b⟩
theorem cTk_of {x : qX} {p : Int} {σ : vS} (hk : ∀ j : Int, 0 ≤ j → j < 30 → σ 35 j = qkc j) (h : qTc (σ 35) x.1 x.2.1 x.2.2 p σ) : cTk x p σ := by
  obtain ⟨h1, h2⟩ := h
  refine ⟨h1, ?_⟩
  rcases h2 with h2 | h2 | ⟨a, ⟨b, c, d⟩ | ⟨b, c, d⟩ | ⟨b, c, d, e, g⟩⟩
  · exact Or.inl h2
  · exact Or.inr (Or.inl h2)
  · exact Or.inr (Or.inr ⟨a, Or.inl ⟨b, c, d⟩⟩)
  · exact Or.inr (Or.inr ⟨a, Or.inr (Or.inl ⟨b, c, d⟩)⟩)
  · refine Or.inr (Or.inr ⟨a, Or.inr (Or.inr ⟨b, c, d, ?_⟩)⟩)
    rcases e with ⟨e1, e2⟩ | ⟨e1, e2, e3⟩
    · refine Or.inl ⟨qnm_iff.mpr (fun j j0 j1 q => ?_), by omega⟩
      obtain ⟨n, rfl⟩ := Int.eq_ofNat_of_zero_le j0
      obtain ⟨k1, k2, k3⟩ := qkc_ok n (by omega)
      rw [d, ← k1] at q
      have := tph_inj 7 c.1 k2 c.2 k3 q
      exact e2 n (by omega) (by omega) ((hk n (by omega) (by omega)).trans this.symm)
    · refine Or.inr ⟨Bool.eq_false_iff.mpr (fun q => ?_), by omega, e1, ?_⟩
      · have q := qnm_iff.mp q (σ 7 6) e1.1 e1.2
        obtain ⟨n, hn⟩ := Int.eq_ofNat_of_zero_le e1.1
        have k := qkc_ok n (by omega)
        rw [← hn] at k
        exact q (by rw [d, ← e2, hk _ e1.1 e1.2]; exact k.1)
      · obtain ⟨n, hn⟩ := Int.eq_ofNat_of_zero_le e1.1
        have k := qkc_ok n (by omega)
        rw [← hn] at k
        rw [d, ← e2, hk _ e1.1 e1.2]
        exact k.1
theorem cTB_cg {x : qX} {σ σ2 : vS} (h : cTB x σ) (g : cg σ σ2) (e2 : σ2 7 2 = σ 7 2) : cTB x σ2 := by
  obtain ⟨⟨h1, h2, h3⟩, h4, h5⟩ := h
  refine ⟨⟨?_, (g.2 1 (by omega) (by omega)).trans h2, (g.2 9 (by omega) (by omega)).trans h3⟩, fun j a b => ?_, e2.trans h5⟩
  · rw [← h1]
    unfold ctx
    rw [g.1 34 (by decide)]
  · rw [g.1 35 (by decide)]
    exact h4 j a b
theorem cT_adv {x : qX} {p s : Int} {σ σ2 : vS} (h : cTB x σ) (h10 : σ 7 10 = p) (hp : 0 ≤ p ∧ p ≤ x.2.1) (hl : 0 ≤ x.2.2 ∧ x.2.2 ≤ 900) (hs : s ≤ σ 7 1 ∧ s ≤ σ 7 9 ∧ (s = σ 7 1 ∨ s = σ 7 9)) (hf : cfr σ σ2) (ht : ctk (ctx σ) (σ 35) (σ 7 1) (σ 7 9) s (tE (fun q => tbk (ctx σ q)) s (σ 7 10)) σ2) : cT x p σ2 := by
  have g := cg_of hf
  have hB := cTB_cg h g (hf.2 2 (by decide) (by decide) (by decide) (by decide) (by decide))
  refine ⟨hB, ?_, hp, hl⟩
  obtain ⟨⟨h1, h2, h3⟩, h4, h5⟩ := h
  rw [h1, h2, h3, h10] at ht
  rw [h2, h3] at hs
  have e35 : σ2 35 = σ 35 := hf.1 35 (by decide)
  refine cTk_of hB.2.1 ?_
  rw [e35]
  exact q_ctk hs hp.2 ht
theorem cT_fl {x : qX} {p k : Int} {σ : vS} (h : cT x p σ) (hk : 0 ≤ k ∧ k ≤ 4) : (0 ≤ k ∧ k ≤ 4) ∧ 0 ≤ σ 7 5 ∧ σ 7 5 ≤ 900 := by
  have := (q_bd (τ := x.1) h.2.2.1.1 h.2.2.1.2 h.2.2.2.1).1
  have := h.2.2.2
  rw [h.2.1.1]
  omega
theorem cT_10 {x : qX} {p : Int} {σ : vS} (h : cT x p σ) (hk : ¬ qkd x.1 x.2.1 x.2.2 p = 0 ∧ ¬ qkd x.1 x.2.1 x.2.2 p = 4) : σ 7 10 = qnx x.1 x.2.1 p := by
  rcases h.2.1.2 with a | a | a
  · exact absurd a.1 hk.1
  · exact absurd a.1 hk.2
  · exact a.1
theorem cT_nx {x : qX} {p : Int} {σ : vS} (h : cT x p σ ∧ ¬ qkd x.1 x.2.1 x.2.2 p = 0 ∧ ¬ qkd x.1 x.2.1 x.2.2 p = 4) : 0 ≤ σ 7 10 ∧ 0 ≤ σ 7 9 ∧ σ 7 9 ≤ 900 := by
  rw [cT_10 h.1 h.2, h.1.1.1.2.2]
  have := (q_bd (τ := x.1) h.1.2.2.1.1 h.1.2.2.1.2 h.1.2.2.2.1).2.2
  have := h.1.2.2.2
  omega
theorem cT_next {x : qX} {p s : Int} {σ σ2 : vS} (h : cT x p σ) (hk : ¬ qkd x.1 x.2.1 x.2.2 p = 0 ∧ ¬ qkd x.1 x.2.1 x.2.2 p = 4) (hs : s ≤ σ 7 1 ∧ s ≤ σ 7 9 ∧ (s = σ 7 1 ∨ s = σ 7 9)) (hf : cfr σ σ2) (ht : ctk (ctx σ) (σ 35) (σ 7 1) (σ 7 9) s (tE (fun q => tbk (ctx σ q)) s (σ 7 10)) σ2) : cT x (qnx x.1 x.2.1 p) σ2 := cT_adv h.1 (cT_10 h hk) (q_bd h.2.2.1.1 h.2.2.1.2 h.2.2.2.1).2.2 h.2.2.2 hs hf ht
theorem cFl_of {x : qX} {p k : Int} {σ : vS} (h : cT x p σ) : cFl x k p (cfl σ k) := by
  unfold cFl cfl
  refine ⟨?_, ?_⟩
  · rw [vup_ne 7 2 (fun q => by have := q.2; omega), vup_eq]
  · rw [vup_eq]; exact h.2.1.1
theorem cg_fl {σ : vS} {k : Int} : cg σ (cfl σ k) := by
  unfold cfl
  exact ⟨fun t ht => by rw [vup_fr ht, vup_fr ht], fun i a b => by rw [vup_ne 7 i (fun q => by have := q.2; omega), vup_ne 7 i (fun q => by have := q.2; omega)]⟩
theorem cT_sn {x : qX} {p c : Int} {σ : vS} (h : cT x p σ) : qsn x p c = true ↔ σ 7 4 = 5 ∧ σ 7 6 = c := by
  unfold qsn
  rw [Bool.and_eq_true, decide_eq_true_iff, decide_eq_true_iff]
  rcases h.2.1.2 with ⟨a, b⟩ | ⟨a, b⟩ | ⟨a, ⟨b, c, d⟩ | ⟨b, c, d⟩ | ⟨b, c, d, e⟩⟩
  · omega
  · omega
  · omega
  · omega
  · rcases e with e | e <;> omega
theorem cT_k {x : qX} {p : Int} {σ : vS} (h : cT x p σ) : (σ 7 4 = 0 ↔ qkd x.1 x.2.1 x.2.2 p = 0) ∧ (σ 7 4 = 3 ↔ qnmp x p = true) := by
  unfold qnmp
  rw [Bool.and_eq_true, decide_eq_true_iff]
  rcases h.2.1.2 with ⟨a, b⟩ | ⟨a, b⟩ | ⟨a, ⟨b, c, d⟩ | ⟨b, c, d⟩ | ⟨b, c, d, ⟨e1, e2⟩ | ⟨e1, e3, -⟩⟩⟩
  · omega
  · omega
  · omega
  · omega
  · rw [e1]; exact ⟨by omega, fun _ => ⟨b, rfl⟩, fun _ => e2⟩
  · rw [e1]; exact ⟨by omega, fun q => by omega, fun q => absurd q.2 Bool.false_ne_true⟩
theorem cT_w {x : qX} {p : Int} {σ : vS} (h : cT x p σ) (hn : qnmp x p = true) : (0 ≤ σ 7 7 ∧ σ 7 7 < 10460353203) ∧ qwd x.1 x.2.1 p = tph 7 (σ 7 7) := by
  have hk := qnmp_k hn
  rcases h.2.1.2 with ⟨a, b⟩ | ⟨a, b⟩ | ⟨a, ⟨b, c, d⟩ | ⟨b, c, d⟩ | ⟨b, c, d, e⟩⟩
  · omega
  · omega
  · omega
  · omega
  · exact ⟨c, d⟩
theorem rfd_tr {f g : Int → Int} {a b m x y r : Int} (h : ∀ i : Int, 0 ≤ i → i < m → (f (a + i) = x ↔ g (b + i) = y)) (hr : rfd f a m x r) : rfd g b m y r := by
  rcases hr with ⟨h1, h2⟩ | ⟨h1, h2, h3⟩
  · exact Or.inl ⟨h1, fun j j0 j1 q => h2 j j0 j1 ((h j j0 j1).mpr q)⟩
  · exact Or.inr ⟨h1, (h r h1.1 h1.2).mp h2, fun j j0 j1 q => h3 j j0 j1 ((h j j0 (by omega)).mpr q)⟩
/-- a sort's names looked through: as the words do -/
theorem cNm_fd {x : qX} {p m b r : Int} {f nm : Int → Int} {σ : vS} (h : cT x p σ) (hn : qnmp x p = true) (hN : cNm f m nm b) (hm : 0 ≤ m) (hr : rfd f 0 m (σ 7 7) r) : r = qfd nm b m (qwd x.1 x.2.1 p) := by
  obtain ⟨c, d⟩ := cT_w h hn
  refine qfd_of hm (rfd_tr (fun i i0 i1 => ?_) hr)
  obtain ⟨e, g⟩ := hN i i0 i1
  rw [Int.zero_add, g, d]
  exact ⟨fun q => by rw [q], fun q => tph_inj 7 e.1 c.1 e.2 c.2 q⟩
section ZV1
variable {E : zE} {w : va_W} {σ : vS} {K : vKL}
noncomputable section
def vL1 : List (Nat × vSpL) := [(60, cs60), (65, cs65), (68, cs68), (69, cs69)]
end
theorem vL1_ok (X : zX gKX E) (B : zB E) : zSC E md72 w vL1 := zS_consC (ck_60 X B) (zS_consC (ck_65 X B) (zS_consC (ck_68 X B) (zS_consC (ck_69 X B) zS_nilC)))
set_option maxRecDepth 8192 in
theorem vk_74 (X : zX gKX E) (B : zB E) : zOKC E md72 w 74 vs74 := by
  intro q hq vs σ K h
  cases (show gMT 74 = some (gm_74, 2) from rfl).symm.trans hq
  unfold vs74 at h
  split at h
  · rename_i c
    show zGC E md72 w gm_74 0 [(0, .inr (.inl 7)), (1, .inl c)] σ K
    obtain ⟨x, p, hT, h1, h2⟩ := h
    have kS : (σ 7 4 = 5 ∧ σ 7 6 = c) → ¬ qkd x.1 x.2.1 x.2.2 p = 0 ∧ ¬ qkd x.1 x.2.1 x.2.2 p = 4 := fun q => by
      have q := (cT_sn hT).mpr q
      unfold qsn at q
      rw [Bool.and_eq_true, decide_eq_true_iff] at q
      omega
    refine zbdC (fun hb => zgoC X B (vL1_ok X B) [] [] (fun m => false) (by decide +kernel) ?_)
    refine fun z (t1 : (z = 1 ∧ σ 7 4 = 5 ∧ σ 7 6 = c) ∨ (z = 0 ∧ ¬ (σ 7 4 = 5 ∧ σ 7 6 = c))) => ?_
    rcases t1 with ⟨rfl, t1⟩ | ⟨rfl, t1⟩
    · refine And.intro (fun _ => ?_) (fun (q : 1 = 0) => absurd q (by decide))
      refine And.intro (cT_nx ⟨hT, kS t1⟩) (fun s1 (σ1 : vS) hs1 f9 t9 => ?_)
      refine And.intro (show 0 ≤ 1 ∧ 1 ≤ 1 from by omega) ?_
      exact h2 ((cT_sn hT).mpr t1) _ (cT_next hT (kS t1) hs1 f9 t9) (cg_of f9)
    · refine And.intro (fun (q : ¬ 0 = 0) => absurd q (by decide)) (fun _ => ?_)
      refine And.intro (cT_fl hT (by omega)) ?_
      refine And.intro (show 0 ≤ 0 ∧ 0 ≤ 1 from by omega) ?_
      exact h1 (Bool.eq_false_iff.mpr (fun q => t1 ((cT_sn hT).mp q))) _ (cFl_of hT) cg_fl
  · exact absurd h id
set_option maxRecDepth 8192 in
theorem vk_81l0 (X : zX gKX E) (B : zB E) {code m0 : Int} (hm : 0 ≤ m0 ∧ m0 ≤ 6) (hK : ∀ r : Int, rfd (σ 80) 0 m0 code r → K (some (.inl r)) σ) : ∀ (m : Nat) (i : Int), m0 - i < (m : Int) → 0 ≤ i → i ≤ m0 → (∀ j : Int, 0 ≤ j → j < i → ¬ σ 80 j = code) → zGC E md72 w gm_81 23 [(0, .inr (.inl 78)), (1, .inl 0), (2, .inr (.inr code)), (4, .inr (.inl 80)), (5, .inl m0), (6, .inl i)] σ K := by
  intro m
  induction m with
  | zero => intro i h; omega
  | succ m ih =>
    intro i hM i0 i1 hn
    refine zbdC (fun hb => zgoC X B zS_nilC [] [(23, [0, 1, 2, 4, 5, 6])] (fun m => Nat.beq m.2.2.2.2.2.2.length 28) (by decide +kernel) ?_)
    refine And.intro (fun (c1 : m0 ≤ i) => ?_) (fun (c2 : i < m0) => ?_)
    · exact hK _ (Or.inl ⟨rfl, fun j j0 j1 => by rw [Int.zero_add]; exact hn j j0 (by omega)⟩)
    · refine And.intro (show 0 ≤ i ∧ i < 6 from by omega) ?_
      refine And.intro (fun (c3 : (σ 80 i) < code) => ?_) (And.intro (fun (c4 : (σ 80 i) = code) => ?_) (fun (c5 : code < (σ 80 i)) => ?_))
      · refine And.intro (fun _ => ?_) (fun (q : (-1) = 0) => absurd q (by decide))
        refine And.intro (show -2147483648 ≤ (i + 1) ∧ (i + 1) ≤ 2147483647 from by omega) ?_
        show zGC E md72 w gm_81 23 [(0, .inr (.inl 78)), (1, .inl 0), (2, .inr (.inr code)), (4, .inr (.inl 80)), (5, .inl m0), (6, .inl (i + 1))] σ K
        exact ih (i + 1) (by omega) (by omega) (by omega) (fun j j0 j1 => by
          by_cases e : j = i
          · rw [e]; omega
          · exact hn j j0 (by omega))
      · refine And.intro (fun (q : ¬ 0 = 0) => absurd q (by decide)) (fun _ => ?_)
        exact hK _ (Or.inr ⟨by omega, by rw [Int.zero_add]; omega, fun j j0 j1 => by rw [Int.zero_add]; exact hn j j0 j1⟩)
      · refine And.intro (fun _ => ?_) (fun (q : 1 = 0) => absurd q (by decide))
        refine And.intro (show -2147483648 ≤ (i + 1) ∧ (i + 1) ≤ 2147483647 from by omega) ?_
        show zGC E md72 w gm_81 23 [(0, .inr (.inl 78)), (1, .inl 0), (2, .inr (.inr code)), (4, .inr (.inl 80)), (5, .inl m0), (6, .inl (i + 1))] σ K
        exact ih (i + 1) (by omega) (by omega) (by omega) (fun j j0 j1 => by
          by_cases e : j = i
          · rw [e]; omega
          · exact hn j j0 (by omega))
set_option maxRecDepth 8192 in
theorem vk_81l1 (X : zX gKX E) (B : zB E) {code m0 : Int} (hm : 0 ≤ m0 ∧ m0 ≤ 6) (hK : ∀ r : Int, rfd (σ 81) 0 m0 code r → K (some (.inl r)) σ) : ∀ (m : Nat) (i : Int), m0 - i < (m : Int) → 0 ≤ i → i ≤ m0 → (∀ j : Int, 0 ≤ j → j < i → ¬ σ 81 j = code) → zGC E md72 w gm_81 23 [(0, .inr (.inl 78)), (1, .inl 1), (2, .inr (.inr code)), (4, .inr (.inl 81)), (5, .inl m0), (6, .inl i)] σ K := by
  intro m
  induction m with
  | zero => intro i h; omega
  | succ m ih =>
    intro i hM i0 i1 hn
    refine zbdC (fun hb => zgoC X B zS_nilC [] [(23, [0, 1, 2, 4, 5, 6])] (fun m => Nat.beq m.2.2.2.2.2.2.length 28) (by decide +kernel) ?_)
    refine And.intro (fun (c1 : m0 ≤ i) => ?_) (fun (c2 : i < m0) => ?_)
    · exact hK _ (Or.inl ⟨rfl, fun j j0 j1 => by rw [Int.zero_add]; exact hn j j0 (by omega)⟩)
    · refine And.intro (show 0 ≤ i ∧ i < 6 from by omega) ?_
      refine And.intro (fun (c3 : (σ 81 i) < code) => ?_) (And.intro (fun (c4 : (σ 81 i) = code) => ?_) (fun (c5 : code < (σ 81 i)) => ?_))
      · refine And.intro (fun _ => ?_) (fun (q : (-1) = 0) => absurd q (by decide))
        refine And.intro (show -2147483648 ≤ (i + 1) ∧ (i + 1) ≤ 2147483647 from by omega) ?_
        show zGC E md72 w gm_81 23 [(0, .inr (.inl 78)), (1, .inl 1), (2, .inr (.inr code)), (4, .inr (.inl 81)), (5, .inl m0), (6, .inl (i + 1))] σ K
        exact ih (i + 1) (by omega) (by omega) (by omega) (fun j j0 j1 => by
          by_cases e : j = i
          · rw [e]; omega
          · exact hn j j0 (by omega))
      · refine And.intro (fun (q : ¬ 0 = 0) => absurd q (by decide)) (fun _ => ?_)
        exact hK _ (Or.inr ⟨by omega, by rw [Int.zero_add]; omega, fun j j0 j1 => by rw [Int.zero_add]; exact hn j j0 j1⟩)
      · refine And.intro (fun _ => ?_) (fun (q : 1 = 0) => absurd q (by decide))
        refine And.intro (show -2147483648 ≤ (i + 1) ∧ (i + 1) ≤ 2147483647 from by omega) ?_
        show zGC E md72 w gm_81 23 [(0, .inr (.inl 78)), (1, .inl 1), (2, .inr (.inr code)), (4, .inr (.inl 81)), (5, .inl m0), (6, .inl (i + 1))] σ K
        exact ih (i + 1) (by omega) (by omega) (by omega) (fun j j0 j1 => by
          by_cases e : j = i
          · rw [e]; omega
          · exact hn j j0 (by omega))
set_option maxRecDepth 8192 in
theorem vk_81l2 (X : zX gKX E) (B : zB E) {code m0 : Int} (hm : 0 ≤ m0 ∧ m0 ≤ 12) (hK : ∀ r : Int, rfd (σ 82) 0 m0 code r → K (some (.inl r)) σ) : ∀ (m : Nat) (i : Int), m0 - i < (m : Int) → 0 ≤ i → i ≤ m0 → (∀ j : Int, 0 ≤ j → j < i → ¬ σ 82 j = code) → zGC E md72 w gm_81 23 [(0, .inr (.inl 78)), (1, .inl 2), (2, .inr (.inr code)), (4, .inr (.inl 82)), (5, .inl m0), (6, .inl i)] σ K := by
  intro m
  induction m with
  | zero => intro i h; omega
  | succ m ih =>
    intro i hM i0 i1 hn
    refine zbdC (fun hb => zgoC X B zS_nilC [] [(23, [0, 1, 2, 4, 5, 6])] (fun m => Nat.beq m.2.2.2.2.2.2.length 28) (by decide +kernel) ?_)
    refine And.intro (fun (c1 : m0 ≤ i) => ?_) (fun (c2 : i < m0) => ?_)
    · exact hK _ (Or.inl ⟨rfl, fun j j0 j1 => by rw [Int.zero_add]; exact hn j j0 (by omega)⟩)
    · refine And.intro (show 0 ≤ i ∧ i < 12 from by omega) ?_
      refine And.intro (fun (c3 : (σ 82 i) < code) => ?_) (And.intro (fun (c4 : (σ 82 i) = code) => ?_) (fun (c5 : code < (σ 82 i)) => ?_))
      · refine And.intro (fun _ => ?_) (fun (q : (-1) = 0) => absurd q (by decide))
        refine And.intro (show -2147483648 ≤ (i + 1) ∧ (i + 1) ≤ 2147483647 from by omega) ?_
        show zGC E md72 w gm_81 23 [(0, .inr (.inl 78)), (1, .inl 2), (2, .inr (.inr code)), (4, .inr (.inl 82)), (5, .inl m0), (6, .inl (i + 1))] σ K
        exact ih (i + 1) (by omega) (by omega) (by omega) (fun j j0 j1 => by
          by_cases e : j = i
          · rw [e]; omega
          · exact hn j j0 (by omega))
      · refine And.intro (fun (q : ¬ 0 = 0) => absurd q (by decide)) (fun _ => ?_)
        exact hK _ (Or.inr ⟨by omega, by rw [Int.zero_add]; omega, fun j j0 j1 => by rw [Int.zero_add]; exact hn j j0 j1⟩)
      · refine And.intro (fun _ => ?_) (fun (q : 1 = 0) => absurd q (by decide))
        refine And.intro (show -2147483648 ≤ (i + 1) ∧ (i + 1) ≤ 2147483647 from by omega) ?_
        show zGC E md72 w gm_81 23 [(0, .inr (.inl 78)), (1, .inl 2), (2, .inr (.inr code)), (4, .inr (.inl 82)), (5, .inl m0), (6, .inl (i + 1))] σ K
        exact ih (i + 1) (by omega) (by omega) (by omega) (fun j j0 j1 => by
          by_cases e : j = i
          · rw [e]; omega
          · exact hn j j0 (by omega))
set_option maxRecDepth 8192 in
theorem vk_81 (X : zX gKX E) (B : zB E) : zOKC E md72 w 81 vs81 := by
  intro q hq vs σ K h
  cases (show gMT 81 = some (gm_81, 7) from rfl).symm.trans hq
  unfold vs81 at h
  split at h
  · rename_i sort code
    show zGC E md72 w gm_81 0 [(0, .inr (.inl 78)), (1, .inl sort), (2, .inr (.inr code))] σ K
    obtain ⟨hs, h0, h1, h2⟩ := h
    rcases hs with rfl | rfl | rfl
    · refine zbdC (fun hb => zgoC X B zS_nilC [] [(23, [0, 1, 2, 4, 5, 6])] (fun m => Nat.beq m.2.2.2.2.2.2.length 28) (by decide +kernel) ?_)
      refine And.intro (fun (q : ¬ 0 = 0) => absurd q (by decide)) (fun _ => ?_)
      refine And.intro (fun (q : 0 < 0) => absurd q (by decide)) (fun _ => ?_)
      refine And.intro (fun (q : 3 ≤ 0) => absurd q (by decide)) (fun _ => ?_)
      refine And.intro (show 0 ≤ 1 ∧ 1 ≤ 1 from by omega) ?_
      refine And.intro (fun (q : 1 = 0) => absurd q (by decide)) (fun _ => ?_)
      refine And.intro (show 0 ≤ 0 ∧ 0 < 3 from by omega) ?_
      have f1 : 0 ≤ σ 79 0 ∧ σ 79 0 ≤ 6 := zbC hb (t := 79) (a := 0) (n := 2) (i := 0) (by decide +kernel) (by omega) (by omega)
      refine And.intro (fun (c2 : 6 < (σ 79 0)) => ?_) (fun (c3 : (σ 79 0) ≤ 6) => ?_)
      · show zGC E md72 w gm_81 23 [(0, .inr (.inl 78)), (1, .inl 0), (2, .inr (.inr code)), (4, .inr (.inl 80)), (5, .inl 6), (6, .inl 0)] σ K
        exact vk_81l0 X B (by omega) (fun r hr => h0 rfl r (by first | exact hr | (rw [show σ 79 0 = 6 by omega]; exact hr))) 20 0 (by omega) (by omega) (by omega) (fun j j0 j1 => by omega)
      · show zGC E md72 w gm_81 23 [(0, .inr (.inl 78)), (1, .inl 0), (2, .inr (.inr code)), (4, .inr (.inl 80)), (5, .inl (σ 79 0)), (6, .inl 0)] σ K
        exact vk_81l0 X B (by omega) (fun r hr => h0 rfl r (by first | exact hr | (rw [show σ 79 0 = 6 by omega]; exact hr))) 20 0 (by omega) (by omega) (by omega) (fun j j0 j1 => by omega)
    · refine zbdC (fun hb => zgoC X B zS_nilC [] [(23, [0, 1, 2, 4, 5, 6])] (fun m => Nat.beq m.2.2.2.2.2.2.length 28) (by decide +kernel) ?_)
      refine And.intro (fun _ => ?_) (fun (q : 1 = 0) => absurd q (by decide))
      refine And.intro (fun (q : ¬ 1 = 1) => absurd q (by decide)) (fun _ => ?_)
      refine And.intro (fun (q : 1 < 0) => absurd q (by decide)) (fun _ => ?_)
      refine And.intro (fun (q : 3 ≤ 1) => absurd q (by decide)) (fun _ => ?_)
      refine And.intro (show 0 ≤ 1 ∧ 1 ≤ 1 from by omega) ?_
      refine And.intro (fun (q : 1 = 0) => absurd q (by decide)) (fun _ => ?_)
      refine And.intro (show 0 ≤ 1 ∧ 1 < 3 from by omega) ?_
      have f1 : 0 ≤ σ 79 1 ∧ σ 79 1 ≤ 6 := zbC hb (t := 79) (a := 0) (n := 2) (i := 1) (by decide +kernel) (by omega) (by omega)
      refine And.intro (fun (c2 : 6 < (σ 79 1)) => ?_) (fun (c3 : (σ 79 1) ≤ 6) => ?_)
      · show zGC E md72 w gm_81 23 [(0, .inr (.inl 78)), (1, .inl 1), (2, .inr (.inr code)), (4, .inr (.inl 81)), (5, .inl 6), (6, .inl 0)] σ K
        exact vk_81l1 X B (by omega) (fun r hr => h1 rfl r (by first | exact hr | (rw [show σ 79 1 = 6 by omega]; exact hr))) 20 0 (by omega) (by omega) (by omega) (fun j j0 j1 => by omega)
      · show zGC E md72 w gm_81 23 [(0, .inr (.inl 78)), (1, .inl 1), (2, .inr (.inr code)), (4, .inr (.inl 81)), (5, .inl (σ 79 1)), (6, .inl 0)] σ K
        exact vk_81l1 X B (by omega) (fun r hr => h1 rfl r (by first | exact hr | (rw [show σ 79 1 = 6 by omega]; exact hr))) 20 0 (by omega) (by omega) (by omega) (fun j j0 j1 => by omega)
    · refine zbdC (fun hb => zgoC X B zS_nilC [] [(23, [0, 1, 2, 4, 5, 6])] (fun m => Nat.beq m.2.2.2.2.2.2.length 28) (by decide +kernel) ?_)
      refine And.intro (fun _ => ?_) (fun (q : 2 = 0) => absurd q (by decide))
      refine And.intro (fun _ => ?_) (fun (q : 2 = 1) => absurd q (by decide))
      refine And.intro (fun (q : 2 < 0) => absurd q (by decide)) (fun _ => ?_)
      refine And.intro (fun (q : 3 ≤ 2) => absurd q (by decide)) (fun _ => ?_)
      refine And.intro (show 0 ≤ 1 ∧ 1 ≤ 1 from by omega) ?_
      refine And.intro (fun (q : 1 = 0) => absurd q (by decide)) (fun _ => ?_)
      refine And.intro (show 0 ≤ 2 ∧ 2 < 3 from by omega) ?_
      have f1 : 0 ≤ σ 79 2 ∧ σ 79 2 ≤ 12 := zbC hb (t := 79) (a := 2) (n := 3) (i := 2) (by decide +kernel) (by omega) (by omega)
      refine And.intro (fun (c2 : 12 < (σ 79 2)) => ?_) (fun (c3 : (σ 79 2) ≤ 12) => ?_)
      · show zGC E md72 w gm_81 23 [(0, .inr (.inl 78)), (1, .inl 2), (2, .inr (.inr code)), (4, .inr (.inl 82)), (5, .inl 12), (6, .inl 0)] σ K
        exact vk_81l2 X B (by omega) (fun r hr => h2 rfl r (by first | exact hr | (rw [show σ 79 2 = 12 by omega]; exact hr))) 20 0 (by omega) (by omega) (by omega) (fun j j0 j1 => by omega)
      · show zGC E md72 w gm_81 23 [(0, .inr (.inl 78)), (1, .inl 2), (2, .inr (.inr code)), (4, .inr (.inl 82)), (5, .inl (σ 79 2)), (6, .inl 0)] σ K
        exact vk_81l2 X B (by omega) (fun r hr => h2 rfl r (by first | exact hr | (rw [show σ 79 2 = 12 by omega]; exact hr))) 20 0 (by omega) (by omega) (by omega) (fun j j0 j1 => by omega)
  · exact absurd h id
noncomputable section
def cRd (S : qS) (σ : vS) : Prop := (σ 79 0 = S.2.1 0 ∧ σ 79 1 = S.2.1 1 ∧ σ 79 2 = S.2.1 2) ∧ cNm (σ 80) (S.2.1 0) S.2.2 0 ∧ cNm (σ 81) (S.2.1 1) S.2.2 6 ∧ cNm (σ 82) (S.2.1 2) S.2.2 12
def cHn (S : qS) : Prop := (0 ≤ S.2.1 0 ∧ S.2.1 0 ≤ 6) ∧ (0 ≤ S.2.1 1 ∧ S.2.1 1 ≤ 6) ∧ (0 ≤ S.2.1 2 ∧ S.2.1 2 ≤ 12)
def vs83 : vSpL := fun vs σ K => match vs with
  | [.inr (.inl 78), .inr (.inr code)] => ∃ x S, cT x S.1 σ ∧ cRd S σ ∧ cHn S ∧ qnmp x S.1 = true ∧ code = σ 7 7 ∧ (qTold x S = true → K (some (.inl 1)) σ) ∧ (qTold x S = false → K (some (.inl 0)) σ)
  | _ => False
def vs75 : vSpL := fun vs σ K => match vs with
  | [.inr (.inl 7), .inr (.inl 78), .inl sort] => (sort = 0 ∨ sort = 1 ∨ sort = 2) ∧ ∃ x S m, cT x S.1 σ ∧ cRd S σ ∧ cHn S ∧ (sort = 0 → m = S.2.1 0 ∧ (qlk x 0 m S < 0 → ∀ σ2, cFl x (-(qlk x 0 m S)) S.1 σ2 → cg σ σ2 → K (some (.inl (-1))) σ2) ∧ (0 ≤ qlk x 0 m S → K (some (.inl (qlk x 0 m S))) σ)) ∧ (sort = 1 → m = S.2.1 1 ∧ (qlk x 6 m S < 0 → ∀ σ2, cFl x (-(qlk x 6 m S)) S.1 σ2 → cg σ σ2 → K (some (.inl (-1))) σ2) ∧ (0 ≤ qlk x 6 m S → K (some (.inl (qlk x 6 m S))) σ)) ∧ (sort = 2 → m = S.2.1 2 ∧ (qlk x 12 m S < 0 → ∀ σ2, cFl x (-(qlk x 12 m S)) S.1 σ2 → cg σ σ2 → K (some (.inl (-1))) σ2) ∧ (0 ≤ qlk x 12 m S → K (some (.inl (qlk x 12 m S))) σ))
  | _ => False
def vL2 : List (Nat × vSpL) := (81, vs81) :: vL1
end
theorem vL2_ok (X : zX gKX E) (B : zB E) : zSC E md72 w vL2 := zS_consC (vk_81 X B) (vL1_ok X B)
set_option maxRecDepth 8192 in
theorem vk_83 (X : zX gKX E) (B : zB E) : zOKC E md72 w 83 vs83 := by
  intro q hq vs σ K h
  cases (show gMT 83 = some (gm_83, 3) from rfl).symm.trans hq
  unfold vs83 at h
  split at h
  · rename_i code
    show zGC E md72 w gm_83 0 [(0, .inr (.inl 78)), (1, .inr (.inr code))] σ K
    obtain ⟨x, S, hT, hR, hH, hn, ec, g1, g0⟩ := h
    refine zbdC (fun hb => zgoC X B (vL2_ok X B) [] [] (fun m => false) (by decide +kernel) ?_)
    refine ⟨(by omega), (fun _ => ?_), (fun q => absurd q (by decide)), (fun q => absurd q (by decide))⟩
    refine fun (r1 : Int) t2 => ?_
    have er1 : r1 = qfd S.2.2 0 (S.2.1 0) (qwd x.1 x.2.1 S.1) := by
      rw [hR.1.1, ec] at t2
      exact cNm_fd hT hn hR.2.1 (by have := hH.1; have := hH.2.1; have := hH.2.2; omega) t2
    have br1 := qfd_b (f := S.2.2) (a := 0) (x := qwd x.1 x.2.1 S.1) (m := S.2.1 0) (by have := hH.1; have := hH.2.1; have := hH.2.2; omega)
    refine And.intro (fun (c3 : ¬ r1 = (-1)) => ?_) (fun (c4 : r1 = (-1)) => ?_)
    · refine And.intro (show 0 ≤ 1 ∧ 1 ≤ 1 from by omega) ?_
      exact g1 (by
        unfold qTold
        simp only [Bool.or_eq_true, Bool.or_eq_false_iff, decide_eq_true_iff, decide_eq_false_iff_not]
        omega)
    · refine ⟨(by omega), (fun q => absurd q (by decide)), (fun _ => ?_), (fun q => absurd q (by decide))⟩
      refine fun (r5 : Int) t6 => ?_
      have er5 : r5 = qfd S.2.2 6 (S.2.1 1) (qwd x.1 x.2.1 S.1) := by
        rw [hR.1.2.1, ec] at t6
        exact cNm_fd hT hn hR.2.2.1 (by have := hH.1; have := hH.2.1; have := hH.2.2; omega) t6
      have br5 := qfd_b (f := S.2.2) (a := 6) (x := qwd x.1 x.2.1 S.1) (m := S.2.1 1) (by have := hH.1; have := hH.2.1; have := hH.2.2; omega)
      refine And.intro (fun (c7 : ¬ r5 = (-1)) => ?_) (fun (c8 : r5 = (-1)) => ?_)
      · refine And.intro (show 0 ≤ 1 ∧ 1 ≤ 1 from by omega) ?_
        exact g1 (by
          unfold qTold
          simp only [Bool.or_eq_true, Bool.or_eq_false_iff, decide_eq_true_iff, decide_eq_false_iff_not]
          omega)
      · refine ⟨(by omega), (fun q => absurd q (by decide)), (fun q => absurd q (by decide)), (fun _ => ?_)⟩
        refine fun (r9 : Int) t10 => ?_
        have er9 : r9 = qfd S.2.2 12 (S.2.1 2) (qwd x.1 x.2.1 S.1) := by
          rw [hR.1.2.2, ec] at t10
          exact cNm_fd hT hn hR.2.2.2 (by have := hH.1; have := hH.2.1; have := hH.2.2; omega) t10
        have br9 := qfd_b (f := S.2.2) (a := 12) (x := qwd x.1 x.2.1 S.1) (m := S.2.1 2) (by have := hH.1; have := hH.2.1; have := hH.2.2; omega)
        refine And.intro (fun (c11 : r9 = (-1)) => ?_) (fun (c12 : ¬ r9 = (-1)) => ?_)
        · refine And.intro (show 0 ≤ 0 ∧ 0 ≤ 1 from by omega) ?_
          exact g0 (by
            unfold qTold
            simp only [Bool.or_eq_true, Bool.or_eq_false_iff, decide_eq_true_iff, decide_eq_false_iff_not]
            omega)
        · refine And.intro (show 0 ≤ 1 ∧ 1 ≤ 1 from by omega) ?_
          exact g1 (by
            unfold qTold
            simp only [Bool.or_eq_true, Bool.or_eq_false_iff, decide_eq_true_iff, decide_eq_false_iff_not]
            omega)
  · exact absurd h id
set_option maxRecDepth 8192 in
theorem vk_75 (X : zX gKX E) (B : zB E) : zOKC E md72 w 75 vs75 := by
  intro q hq vs σ K h
  cases (show gMT 75 = some (gm_75, 4) from rfl).symm.trans hq
  unfold vs75 at h
  split at h
  · rename_i sort
    show zGC E md72 w gm_75 0 [(0, .inr (.inl 7)), (1, .inr (.inl 78)), (2, .inl sort)] σ K
    obtain ⟨hs, x, S, m, hT, hR, hH, h0, h1, h2⟩ := h
    rcases hs with rfl | rfl | rfl
    · obtain ⟨em, h0⟩ := h0 rfl
      subst em
      have h0 := fun (_ : True) => h0
      refine zbdC (fun hb => zgoC X B (vL2_ok X B) [] [] (fun m => false) (by decide +kernel) ?_)
      have f1 : 0 ≤ σ 7 4 ∧ σ 7 4 ≤ 5 := zfC hb (t := 7) (f := 4) (by decide +kernel)
      refine And.intro (fun (c2 : (σ 7 4) = 3) => ?_) (fun (c3 : ¬ (σ 7 4) = 3) => ?_)
      · have hn : qnmp x S.1 = true := (cT_k hT).2.mp (by omega)
        refine ⟨(by omega), (fun _ => ?_), (fun q => absurd q (by decide)), (fun q => absurd q (by decide))⟩
        refine fun (r4 : Int) t5 => ?_
        have er4 : r4 = qfd S.2.2 0 (S.2.1 0) (qwd x.1 x.2.1 S.1) := by
          rw [hR.1.1] at t5
          exact cNm_fd hT hn hR.2.1 (by have := hH.1; have := hH.2.1; have := hH.2.2; omega) t5
        have br4 := qfd_b (f := S.2.2) (a := 0) (x := qwd x.1 x.2.1 S.1) (m := S.2.1 0) (by have := hH.1; have := hH.2.1; have := hH.2.2; omega)
        refine And.intro (fun (c6 : ¬ r4 = (-1)) => ?_) (fun (c7 : r4 = (-1)) => ?_)
        · have el : (qlk x 0 (S.2.1 0) S) = r4 := by
            show qlf x S.2.2 0 (S.2.1 0) S.1 = _
            rw [qlf_eq, if_pos hn, ← er4, if_pos (by omega)]
          rw [el] at h0
          exact (h0 trivial).2 (by omega)
        · refine And.intro (cT_fl hT (by omega)) ?_
          have el : (qlk x 0 (S.2.1 0) S) = -3 := by
            show qlf x S.2.2 0 (S.2.1 0) S.1 = -3
            rw [qlf_eq, if_pos hn, ← er4, if_neg (by omega)]
          rw [el] at h0
          have em : r4 = -1 := by omega
          rw [em]
          exact (h0 trivial).1 (by omega) _ (cFl_of hT) cg_fl
      · refine And.intro (cT_fl hT (by omega)) ?_
        have el : (qlk x 0 (S.2.1 0) S) = -1 := by
          show qlf x S.2.2 0 (S.2.1 0) S.1 = -1
          rw [qlf_eq]
          exact if_neg (fun q => by have := (cT_k hT).2.mpr q; omega)
        rw [el] at h0
        exact (h0 trivial).1 (by omega) _ (cFl_of hT) cg_fl
    · obtain ⟨em, h1⟩ := h1 rfl
      subst em
      have h1 := fun (_ : True) => h1
      refine zbdC (fun hb => zgoC X B (vL2_ok X B) [] [] (fun m => false) (by decide +kernel) ?_)
      have f1 : 0 ≤ σ 7 4 ∧ σ 7 4 ≤ 5 := zfC hb (t := 7) (f := 4) (by decide +kernel)
      refine And.intro (fun (c2 : (σ 7 4) = 3) => ?_) (fun (c3 : ¬ (σ 7 4) = 3) => ?_)
      · have hn : qnmp x S.1 = true := (cT_k hT).2.mp (by omega)
        refine ⟨(by omega), (fun q => absurd q (by decide)), (fun _ => ?_), (fun q => absurd q (by decide))⟩
        refine fun (r4 : Int) t5 => ?_
        have er4 : r4 = qfd S.2.2 6 (S.2.1 1) (qwd x.1 x.2.1 S.1) := by
          rw [hR.1.2.1] at t5
          exact cNm_fd hT hn hR.2.2.1 (by have := hH.1; have := hH.2.1; have := hH.2.2; omega) t5
        have br4 := qfd_b (f := S.2.2) (a := 6) (x := qwd x.1 x.2.1 S.1) (m := S.2.1 1) (by have := hH.1; have := hH.2.1; have := hH.2.2; omega)
        refine And.intro (fun (c6 : ¬ r4 = (-1)) => ?_) (fun (c7 : r4 = (-1)) => ?_)
        · have el : (qlk x 6 (S.2.1 1) S) = r4 := by
            show qlf x S.2.2 6 (S.2.1 1) S.1 = _
            rw [qlf_eq, if_pos hn, ← er4, if_pos (by omega)]
          rw [el] at h1
          exact (h1 trivial).2 (by omega)
        · refine And.intro (cT_fl hT (by omega)) ?_
          have el : (qlk x 6 (S.2.1 1) S) = -3 := by
            show qlf x S.2.2 6 (S.2.1 1) S.1 = -3
            rw [qlf_eq, if_pos hn, ← er4, if_neg (by omega)]
          rw [el] at h1
          have em : r4 = -1 := by omega
          rw [em]
          exact (h1 trivial).1 (by omega) _ (cFl_of hT) cg_fl
      · refine And.intro (cT_fl hT (by omega)) ?_
        have el : (qlk x 6 (S.2.1 1) S) = -1 := by
          show qlf x S.2.2 6 (S.2.1 1) S.1 = -1
          rw [qlf_eq]
          exact if_neg (fun q => by have := (cT_k hT).2.mpr q; omega)
        rw [el] at h1
        exact (h1 trivial).1 (by omega) _ (cFl_of hT) cg_fl
    · obtain ⟨em, h2⟩ := h2 rfl
      subst em
      have h2 := fun (_ : True) => h2
      refine zbdC (fun hb => zgoC X B (vL2_ok X B) [] [] (fun m => false) (by decide +kernel) ?_)
      have f1 : 0 ≤ σ 7 4 ∧ σ 7 4 ≤ 5 := zfC hb (t := 7) (f := 4) (by decide +kernel)
      refine And.intro (fun (c2 : (σ 7 4) = 3) => ?_) (fun (c3 : ¬ (σ 7 4) = 3) => ?_)
      · have hn : qnmp x S.1 = true := (cT_k hT).2.mp (by omega)
        refine ⟨(by omega), (fun q => absurd q (by decide)), (fun q => absurd q (by decide)), (fun _ => ?_)⟩
        refine fun (r4 : Int) t5 => ?_
        have er4 : r4 = qfd S.2.2 12 (S.2.1 2) (qwd x.1 x.2.1 S.1) := by
          rw [hR.1.2.2] at t5
          exact cNm_fd hT hn hR.2.2.2 (by have := hH.1; have := hH.2.1; have := hH.2.2; omega) t5
        have br4 := qfd_b (f := S.2.2) (a := 12) (x := qwd x.1 x.2.1 S.1) (m := S.2.1 2) (by have := hH.1; have := hH.2.1; have := hH.2.2; omega)
        refine And.intro (fun (c6 : ¬ r4 = (-1)) => ?_) (fun (c7 : r4 = (-1)) => ?_)
        · have el : (qlk x 12 (S.2.1 2) S) = r4 := by
            show qlf x S.2.2 12 (S.2.1 2) S.1 = _
            rw [qlf_eq, if_pos hn, ← er4, if_pos (by omega)]
          rw [el] at h2
          exact (h2 trivial).2 (by omega)
        · refine And.intro (cT_fl hT (by omega)) ?_
          have el : (qlk x 12 (S.2.1 2) S) = -3 := by
            show qlf x S.2.2 12 (S.2.1 2) S.1 = -3
            rw [qlf_eq, if_pos hn, ← er4, if_neg (by omega)]
          rw [el] at h2
          have em : r4 = -1 := by omega
          rw [em]
          exact (h2 trivial).1 (by omega) _ (cFl_of hT) cg_fl
      · refine And.intro (cT_fl hT (by omega)) ?_
        have el : (qlk x 12 (S.2.1 2) S) = -1 := by
          show qlf x S.2.2 12 (S.2.1 2) S.1 = -1
          rw [qlf_eq]
          exact if_neg (fun q => by have := (cT_k hT).2.mpr q; omega)
        rw [el] at h2
        exact (h2 trivial).1 (by omega) _ (cFl_of hT) cg_fl
  · exact absurd h id
end ZV1
