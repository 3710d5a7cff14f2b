/-! WHAT A SENTENCE SAYS, without its measure; what the class's token tells of it. -/
noncomputable section
def qQ (x : qX) (nm : Int → Int) (mh mo : Int) (w : Bool) (d b : Int) (L : List Int) (o p : Int) : qA := qsq x nm mh mo 1000 w d b L o p
/-- the names of the TERRACE that stands -/
def cSn (S : qS) (σ : vS) : Prop := cRe S σ ∧ cHn S
/-- all is as it was, but the tape and the SENTENCE that is read -/
def cSf (σ σ2 : vS) : Prop := ∀ t : Nat, ¬ t = 7 → t < 102 → σ2 t = σ t
/-- .. the tape too -/
def cSg (σ σ2 : vS) : Prop := ∀ t : Nat, t < 102 → σ2 t = σ t
end
section QQ
variable {x : qX} {nm : Int → Int} {mh mo d b o p : Int} {L : List Int} {w : Bool}
theorem qsq_fu (hl : 0 ≤ x.2.2) (hn : x.2.1 ≤ 940) : ∀ (n : Nat) (w : Bool) (d b : Int) (L : List Int) (o p : Int), 0 ≤ p → p ≤ x.2.1 → 941 ≤ (n : Int) + p → qsq x nm mh mo (n + 1) w d b L o p = qsq x nm mh mo n w d b L o p := by
  intro n
  induction n with
  | zero => intro w d b L o p h0 h1 h2; omega
  | succ n ih =>
    intro w d b L o p h0 h1 h2
    cases w with
    | false =>
      by_cases c : (qop x nm mh mo d b L o p).1 = 0
      · have g := qop_up hl h0 h1 c
        rw [qsq_og c, qsq_og c]
        exact ih _ _ _ _ _ _ (by omega) g.2 (by omega)
      · rw [qsq_of c, qsq_of c]
    | true =>
      by_cases k : qkd x.1 x.2.1 x.2.2 p = 0
      · cases L with
        | nil => rw [qsq_e k, qsq_e k]
        | cons b2 L2 => rw [qsq_b k, qsq_b k]
      · by_cases c : (qbh x b L o p).1 = 0
        · have g := qbh_up hl h0 h1 c
          rw [qsq_bg k c, qsq_bg k c]
          exact ih _ _ _ _ _ _ (by omega) g.2 (by omega)
        · rw [qsq_bf k c, qsq_bf k c]
theorem qQ_e (h : qkd x.1 x.2.1 x.2.2 p = 0) : qQ x nm mh mo true d b [] o p = (0, p, o) := qsq_e (n := 999) h
theorem qQ_b {b2 : Int} {L2 : List Int} (h : qkd x.1 x.2.1 x.2.2 p = 0) : qQ x nm mh mo true d b (b2 :: L2) o p = (1, p, o) := qsq_b (n := 999) h
theorem qQ_bg (hl : 0 ≤ x.2.2) (hn : x.2.1 ≤ 940) (h0 : 0 ≤ p) (h1 : p ≤ x.2.1) (h : ¬ qkd x.1 x.2.1 x.2.2 p = 0) {w2 : Bool} {d2 b2 o2 p2 : Int} {L2 : List Int} (e : qbh x b L o p = (0, (p2, w2, d2, b2, L2, o2))) : qQ x nm mh mo true d b L o p = qQ x nm mh mo w2 d2 b2 L2 o2 p2 := by
  have c : (qbh x b L o p).1 = 0 := by rw [e]
  have g := qbh_up hl h0 h1 c
  have t := qsq_bg (nm := nm) (mh := mh) (mo := mo) (d := d) (n := 999) h c
  rw [e] at g t
  exact t.trans (qsq_fu hl hn 999 _ _ _ _ _ _ (by show 0 ≤ p2; have : p + 1 ≤ p2 := g.1; omega) g.2 (by show (941 : Int) ≤ 999 + p2; have : p + 1 ≤ p2 := g.1; omega)).symm
theorem qQ_bf (h : ¬ qkd x.1 x.2.1 x.2.2 p = 0) {k : Int} {s : Int × Bool × Int × Int × List Int × Int} (e : qbh x b L o p = (k, s)) (hk : ¬ k = 0) : qQ x nm mh mo true d b L o p = (k, s.1, s.2.2.2.2.2) := by
  have t := qsq_bf (nm := nm) (mh := mh) (mo := mo) (d := d) (b := b) (L := L) (o := o) (n := 999) h (by rw [e]; exact hk)
  rw [e] at t
  exact t
theorem qQ_og (hl : 0 ≤ x.2.2) (hn : x.2.1 ≤ 940) (h0 : 0 ≤ p) (h1 : p ≤ x.2.1) {w2 : Bool} {d2 b2 o2 p2 : Int} {L2 : List Int} (e : qop x nm mh mo d b L o p = (0, (p2, w2, d2, b2, L2, o2))) : qQ x nm mh mo false d b L o p = qQ x nm mh mo w2 d2 b2 L2 o2 p2 := by
  have c : (qop x nm mh mo d b L o p).1 = 0 := by rw [e]
  have g := qop_up hl h0 h1 c
  have t := qsq_og (n := 999) c
  rw [e] at g t
  exact t.trans (qsq_fu hl hn 999 _ _ _ _ _ _ (by show 0 ≤ p2; have : p + 1 ≤ p2 := g.1; omega) g.2 (by show (941 : Int) ≤ 999 + p2; have : p + 1 ≤ p2 := g.1; omega)).symm
theorem qQ_of {k : Int} {s : Int × Bool × Int × Int × List Int × Int} (e : qop x nm mh mo d b L o p = (k, s)) (hk : ¬ k = 0) : qQ x nm mh mo false d b L o p = (k, s.1, s.2.2.2.2.2) := by
  have t := qsq_of (nm := nm) (mh := mh) (mo := mo) (d := d) (b := b) (L := L) (o := o) (n := 999) (by rw [e]; exact hk)
  rw [e] at t
  exact t
/-- how deep it is says nothing behind a ONE -/
theorem qQ_d {d2 : Int} : qQ x nm mh mo true d b L o p = qQ x nm mh mo true d2 b L o p := by
  by_cases k : qkd x.1 x.2.1 x.2.2 p = 0
  · cases L with
    | nil => rw [qQ_e k, qQ_e k]
    | cons b2 L2 => rw [qQ_b k, qQ_b k]
  · by_cases c : (qbh x b L o p).1 = 0
    · exact (qsq_bg (n := 999) k c).trans (qsq_bg (n := 999) k c).symm
    · exact (qsq_bf (n := 999) k c).trans (qsq_bf (n := 999) k c).symm
end QQ
theorem qrw_ne : ((List.range 30).all fun i => (List.range 30).all fun j => Nat.beq i j || decide (¬ qrw (i : Int) = qrw (j : Int))) = true := by decide +kernel
theorem qrw_inj {i j : Int} (hi : 0 ≤ i ∧ i < 30) (hj : 0 ≤ j ∧ j < 30) (h : qrw i = qrw j) : i = j := by
  obtain ⟨a, rfl⟩ := Int.eq_ofNat_of_zero_le hi.1
  obtain ⟨b, rfl⟩ := Int.eq_ofNat_of_zero_le hj.1
  have g := List.all_eq_true.mp (List.all_eq_true.mp qrw_ne a (List.mem_range.mpr (by omega))) b (List.mem_range.mpr (by omega))
  rw [Bool.or_eq_true, decide_eq_true_iff] at g
  rcases g with g | g
  · rw [Nat.eq_of_beq_eq_true g]
  · exact absurd h g
section CW
variable {x : qX} {nm : Int → Int} {mh mo p : Int} {σ σ2 σ3 : vS}
/-- the word that is looked at -/
theorem cT_kws (h : cT x p σ) {j : Int} (hj : 0 ≤ j ∧ j < 30) : qisw x p (qrw j) = true ↔ (σ 7 4 = 2 ∧ σ 7 6 = j) := by
  unfold qisw
  rw [Bool.and_eq_true, decide_eq_true_iff, decide_eq_true_iff]
  rcases h.2.1.2 with ⟨a, b⟩ | ⟨a, b⟩ | ⟨a, ⟨b, c, d⟩ | ⟨b, c, d⟩ | ⟨b, c, d, ⟨e1, e2⟩ | ⟨e1, e3, e4, e5⟩⟩⟩
  · omega
  · omega
  · omega
  · omega
  · exact ⟨fun q => absurd q.2 (qnm_iff.mp e1 j hj.1 hj.2), fun q => by omega⟩
  · exact ⟨fun q => ⟨e3, qrw_inj e4 hj (e5.symm.trans q.2)⟩, fun q => ⟨b, e5.trans (by rw [q.2])⟩⟩
theorem cT_lf (h : cT x p σ) : (σ 7 4 = 2 ∧ 22 ≤ σ 7 6 ∧ σ 7 6 ≤ 29 → qlfi x p = σ 7 6 - 22) ∧ (¬ (σ 7 4 = 2 ∧ 22 ≤ σ 7 6 ∧ σ 7 6 ≤ 29) → qlfi x p = -1) := by
  unfold qlfi
  have k22 := cT_kws h (j := 22) (by decide)
  have k23 := cT_kws h (j := 23) (by decide)
  have k24 := cT_kws h (j := 24) (by decide)
  have k25 := cT_kws h (j := 25) (by decide)
  have k26 := cT_kws h (j := 26) (by decide)
  have k27 := cT_kws h (j := 27) (by decide)
  have k28 := cT_kws h (j := 28) (by decide)
  have k29 := cT_kws h (j := 29) (by decide)
  simp only [k22, k23, k24, k25, k26, k27, k28, k29]
  constructor
  · intro q
    repeat' split
    all_goals omega
  · intro q
    repeat' split
    all_goals omega
/-- what a ONE begins with, by the class's token -/
theorem cT_bg (h : cT x p σ) : (σ 7 4 = 5 ∧ σ 7 6 = 40 → qbeg x p = 9) ∧ (σ 7 4 = 2 ∧ σ 7 6 = 21 → qbeg x p = 8) ∧ (σ 7 4 = 2 ∧ 22 ≤ σ 7 6 ∧ σ 7 6 ≤ 29 → qbeg x p = σ 7 6 - 22) ∧ (¬ (σ 7 4 = 5 ∧ σ 7 6 = 40) → ¬ (σ 7 4 = 2 ∧ 21 ≤ σ 7 6 ∧ σ 7 6 ≤ 29) → qbeg x p = -1) := by
  have l := cT_lf h
  unfold qbeg
  have k21 := cT_kws h (j := 21) (by decide)
  have ks := cT_sn h (c := 40)
  simp only [k21, ks]
  refine ⟨fun q => ?_, fun q => ?_, fun q => ?_, fun q q2 => ?_⟩
  · rw [if_neg (by omega), if_pos q]
  · rw [if_pos q]
  · rw [if_neg (by omega), if_neg (by omega)]; exact l.1 q
  · rw [if_neg (by omega), if_neg q]; exact l.2 (by omega)
theorem cT_nks (h : cT x p σ) : (2 ≤ σ 7 4 → ¬ qkd x.1 x.2.1 x.2.2 p = 0 ∧ ¬ qkd x.1 x.2.1 x.2.2 p = 4) ∧ (qkd x.1 x.2.1 x.2.2 p = 2 ↔ σ 7 4 = 4) ∧ (qkd x.1 x.2.1 x.2.2 p = 0 ↔ σ 7 4 = 0) := by
  rcases h.2.1.2 with ⟨a, b⟩ | ⟨a, b⟩ | ⟨a, ⟨b, c, d⟩ | ⟨b, c, d⟩ | ⟨b, c, d, ⟨e1, e2⟩ | ⟨e1, e3, e4, e5⟩⟩⟩
  all_goals omega
theorem cT_s3 (h : cT x p σ) : qsg3 x p = true ↔ σ 7 4 = 5 ∧ 60 ≤ σ 7 6 ∧ σ 7 6 ≤ 62 := by
  unfold qsg3
  rw [Bool.and_eq_true, Bool.and_eq_true, decide_eq_true_iff, decide_eq_true_iff, decide_eq_true_iff]
  rcases h.2.1.2 with ⟨a, b⟩ | ⟨a, b⟩ | ⟨a, ⟨b, c, d⟩ | ⟨b, c, d⟩ | ⟨b, c, d, ⟨e1, e2⟩ | ⟨e1, e3, e4, e5⟩⟩⟩
  · omega
  · omega
  · rw [d]; omega
  · omega
  · omega
  · omega
theorem cT_v (h : cT x p σ) (h4 : σ 7 4 = 4) : 0 ≤ σ 7 6 ∧ σ 7 6 ≤ 99 := by
  have k := (cT_nks h).2.1.mpr h4
  rcases h.2.1.2 with ⟨a, b⟩ | ⟨a, b⟩ | ⟨a, ⟨b, c, d⟩ | ⟨b, c, d⟩ | ⟨b, c, d, ⟨e1, e2⟩ | ⟨e1, e3, e4, e5⟩⟩⟩
  · omega
  · omega
  · omega
  · rw [d]; exact qvl_d b
  · omega
  · omega
theorem cSf_refl : cSf σ σ := fun _ _ _ => rfl
theorem cSf_tr (h : cSf σ σ2) (g : cSf σ2 σ3) : cSf σ σ3 := fun t a b => (g t a b).trans (h t a b)
theorem cSf_cg (h : cSf σ σ2) (g : cg σ2 σ3) : cSf σ σ3 := fun t a b => (g.1 t a).trans (h t a b)
theorem cSf_sg (h : cSf σ σ2) (g : cSg σ2 σ3) : cSf σ σ3 := fun t a b => (g t b).trans (h t a b)
theorem cSf_up {i v : Int} {t : Nat} (ht : 102 ≤ t) (h : cSf σ σ2) : cSf σ (vup σ2 t i v) := fun s a b => (vup_fr (by omega)).trans (h s a b)
theorem cSn_f {S : qS} (h : cSn S σ) (g : cSf σ σ2) : cSn S σ2 := by
  unfold cSn cRe at h ⊢
  rw [g 94 (by decide) (by decide), g 95 (by decide) (by decide), g 96 (by decide) (by decide), g 97 (by decide) (by decide)]
  exact h
theorem cT_sg (h : cT x p σ) (g : cSg σ σ2) : cT x p σ2 := by
  have e7 := g 7 (by decide)
  have e34 := g 34 (by decide)
  have e35 := g 35 (by decide)
  have ec : ctx σ2 = ctx σ := by unfold ctx; rw [e34]
  unfold cT cTB cTk at h ⊢
  rw [e7, e35, ec]
  exact h
end CW
