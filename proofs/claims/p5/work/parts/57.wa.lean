/-! WHAT A SENTENCE TELLS, as a function of the text: ONE by ONE, with the brackets that stand open. -/
noncomputable section
def qisw (x : qX) (p w : Int) : Bool := decide (qkd x.1 x.2.1 x.2.2 p = 1) && decide (qwd x.1 x.2.1 p = w)
/-- the word of a leaf at p: 0 burnt .. 7 number; -1 none -/
def qlfi (x : qX) (p : Int) : Int := if qisw x p (qrw 22) = true then 0 else if qisw x p (qrw 23) = true then 1 else if qisw x p (qrw 24) = true then 2 else if qisw x p (qrw 25) = true then 3 else if qisw x p (qrw 26) = true then 4 else if qisw x p (qrw 27) = true then 5 else if qisw x p (qrw 28) = true then 6 else if qisw x p (qrw 29) = true then 7 else -1
/-- what a ONE begins with: a leaf; 8 not; 9 a bracket; -1 nothing that can -/
def qbeg (x : qX) (p : Int) : Int := if qisw x p (qrw 21) = true then 8 else if qsn x p 40 = true then 9 else qlfi x p
def qsg3 (x : qX) (p : Int) : Bool := decide (qkd x.1 x.2.1 x.2.2 p = 3) && (decide (60 ≤ qvl x.1 x.2.1 p) && decide (qvl x.1 x.2.1 p ≤ 62))
/-- the kind of the FAULT (0: none), where its token begins, how many ONES -/
abbrev qA : Type := Int × Int × Int
/-- a step: the kind of the FAULT; place, whether a ONE is behind, how deep it is, how deep the COND is, the CONDs around it, ONES -/
abbrev qP : Type := Int × (Int × Bool × Int × Int × List Int × Int)
section QST
variable (x : qX) (nm : Int → Int) (mh mo : Int)
/-- the NAME behind 'of', 'in' -/
def qofn (k p : Int) : Int := qlf x nm (if k = 2 then 6 else 0) (if k = 2 then mo else mh) p
/-- a ONE is wanted -/
def qop (d b : Int) (L : List Int) (o p : Int) : qP :=
  if qbeg x p = -1 then (1, (p, false, d, b, L, o)) else if o = 20 ∨ 8 < d then (4, (p, false, d, b, L, o)) else
  if qbeg x p = 8 then (0, (qnx x.1 x.2.1 p, false, d + 1, b, L, o + 1)) else
  if qbeg x p = 9 then (0, (qnx x.1 x.2.1 p, false, d + 1, d + 1, b :: L, o + 1)) else
  if qbeg x p < 2 then (0, (qnx x.1 x.2.1 p, true, d, b, L, o + 1)) else
  if qbeg x p < 4 then (if qofn x nm mh mo (qbeg x p) (qnx x.1 x.2.1 p) < 0 then (-(qofn x nm mh mo (qbeg x p) (qnx x.1 x.2.1 p)), (qnx x.1 x.2.1 p, true, d, b, L, o + 1)) else (0, (qnx x.1 x.2.1 (qnx x.1 x.2.1 p), true, d, b, L, o + 1))) else
  if qsg3 x (qnx x.1 x.2.1 p) = true then (if qkd x.1 x.2.1 x.2.2 (qnx x.1 x.2.1 (qnx x.1 x.2.1 p)) = 2 then (0, (qnx x.1 x.2.1 (qnx x.1 x.2.1 (qnx x.1 x.2.1 p)), true, d, b, L, o + 1)) else (1, (qnx x.1 x.2.1 (qnx x.1 x.2.1 p), true, d, b, L, o + 1)))
  else (1, (qnx x.1 x.2.1 p, true, d, b, L, o + 1))
/-- a ONE is behind, and there is a token -/
def qbh (b : Int) (L : List Int) (o p : Int) : qP :=
  if qisw x p (qrw 20) = true ∨ qisw x p (qrw 19) = true then (0, (qnx x.1 x.2.1 p, false, b, b, L, o)) else
  match L with
  | [] => (1, (p, true, b, b, [], o))
  | b2 :: L2 => if qsn x p 41 = true then (0, (qnx x.1 x.2.1 p, true, b - 1, b2, L2, o)) else (1, (p, true, b, b, b2 :: L2, o))
def qsp (w : Bool) (d b : Int) (L : List Int) (o p : Int) : qP := match w with
  | false => qop x nm mh mo d b L o p
  | true => qbh x b L o p
def qsq : Nat → Bool → Int → Int → List Int → Int → Int → qA
  | 0, _, _, _, _, o, p => (0, p, o)
  | n + 1, w, d, b, L, o, p => if w = true ∧ qkd x.1 x.2.1 x.2.2 p = 0 then (if L = [] then (0, p, o) else (1, p, o)) else
    if (qsp x nm mh mo w d b L o p).1 = 0 then qsq n (qsp x nm mh mo w d b L o p).2.2.1 (qsp x nm mh mo w d b L o p).2.2.2.1 (qsp x nm mh mo w d b L o p).2.2.2.2.1 (qsp x nm mh mo w d b L o p).2.2.2.2.2.1 (qsp x nm mh mo w d b L o p).2.2.2.2.2.2 (qsp x nm mh mo w d b L o p).2.1
    else ((qsp x nm mh mo w d b L o p).1, (qsp x nm mh mo w d b L o p).2.1, (qsp x nm mh mo w d b L o p).2.2.2.2.2.2)
end QST
/-- what waits in the row: the nots of this COND, its joints below them, its bracket below these, and so on -/
def rbs (S : Int → Int) : List Int → Int → Int → Prop
  | [], t0, b => t0 = 0 ∧ b = 1
  | b2 :: L, t0, b => (1 ≤ t0 ∧ S (t0 - 1) = 23) ∧ ∃ u0 u1 : Int, ((0 ≤ u0 ∧ u0 ≤ u1 ∧ u1 ≤ t0 - 1) ∧ t0 - 1 - u1 = b - 1 - b2) ∧ (∀ i : Int, u1 ≤ i → i < t0 - 1 → S i = 20) ∧ (∀ i : Int, u0 ≤ i → i < u1 → S i = 21 ∨ S i = 22) ∧ rbs S L u0 b2
def rst (S : Int → Int) (L : List Int) (t d b : Int) : Prop := ∃ t0 t1 : Int, ((0 ≤ t0 ∧ t0 ≤ t1 ∧ t1 ≤ t) ∧ t - t1 = d - b) ∧ (∀ i : Int, t1 ≤ i → i < t → S i = 20) ∧ (∀ i : Int, t0 ≤ i → i < t1 → S i = 21 ∨ S i = 22) ∧ rbs S L t0 b
end
theorem qlfi_b {x : qX} {p : Int} : -1 ≤ qlfi x p ∧ qlfi x p ≤ 7 := by
  unfold qlfi
  repeat' split
  all_goals omega
theorem rbs_cg {S Q : Int → Int} : ∀ {L : List Int} {t0 b : Int}, (∀ i : Int, 0 ≤ i → i < t0 → Q i = S i) → rbs S L t0 b → rbs Q L t0 b
  | [], _, _, _, h => h
  | b2 :: L, t0, b, e, h => by
    obtain ⟨⟨h1, h2⟩, u0, u1, ⟨h3, h4⟩, h5, h6, h7⟩ := h
    refine ⟨⟨h1, (e _ (by omega) (by omega)).trans h2⟩, u0, u1, ⟨h3, h4⟩, fun i a c => (e i (by omega) (by omega)).trans (h5 i a c), fun i a c => ?_, rbs_cg (fun i a c => e i a (by omega)) h7⟩
    rw [e i (by omega) (by omega)]
    exact h6 i a c
theorem rbs_b {S : Int → Int} : ∀ {L : List Int} {t0 b : Int}, rbs S L t0 b → 1 ≤ b
  | [], _, _, h => by have := h.2; omega
  | b2 :: L, t0, b, h => by
    obtain ⟨⟨h1, h2⟩, u0, u1, ⟨h3, h4⟩, h5, h6, h7⟩ := h
    have := rbs_b h7
    omega
theorem rst_cg {S Q : Int → Int} {L : List Int} {t d b : Int} (e : ∀ i : Int, 0 ≤ i → i < t → Q i = S i) (h : rst S L t d b) : rst Q L t d b := by
  obtain ⟨t0, t1, ⟨h1, h2⟩, h3, h4, h5⟩ := h
  refine ⟨t0, t1, ⟨h1, h2⟩, fun i a c => (e i (by omega) (by omega)).trans (h3 i a c), fun i a c => ?_, rbs_cg (fun i a c => e i a (by omega)) h5⟩
  rw [e i (by omega) (by omega)]
  exact h4 i a c
theorem rst_b {S : Int → Int} {L : List Int} {t d b : Int} (h : rst S L t d b) : 1 ≤ b ∧ b ≤ d ∧ 0 ≤ t := by
  obtain ⟨t0, t1, ⟨h1, h2⟩, h3, h4, h5⟩ := h
  have := rbs_b h5
  omega
theorem rst_0 {S : Int → Int} : rst S [] 0 1 1 := ⟨0, 0, ⟨by omega, by omega⟩, fun i a c => by omega, fun i a c => by omega, rfl, rfl⟩
/-- not -/
theorem rst_n {S : Int → Int} {L : List Int} {t d b : Int} (h : rst S L t d b) : rst (ful S t 20) L (t + 1) (d + 1) b := by
  obtain ⟨t0, t1, ⟨h1, h2⟩, h3, h4, h5⟩ := h
  refine ⟨t0, t1, ⟨by omega, by omega⟩, fun i a c => ?_, fun i a c => ?_, rbs_cg (fun i a c => ful_ne (by omega)) h5⟩
  · by_cases e : i = t
    · rw [e, ful_at]
    · rw [ful_ne e]; exact h3 i a (by omega)
  · rw [ful_ne (by omega)]; exact h4 i a c
/-- a bracket -/
theorem rst_o {S : Int → Int} {L : List Int} {t d b : Int} (h : rst S L t d b) : rst (ful S t 23) (b :: L) (t + 1) (d + 1) (d + 1) := by
  obtain ⟨t0, t1, ⟨h1, h2⟩, h3, h4, h5⟩ := h
  refine ⟨t + 1, t + 1, ⟨by omega, by omega⟩, fun i a c => by omega, fun i a c => by omega, ⟨by omega, by rw [show t + 1 - 1 = t by omega, ful_at]⟩, t0, t1, ⟨by omega, by omega⟩, fun i a c => ?_, fun i a c => ?_, rbs_cg (fun i a c => ful_ne (by omega)) h5⟩
  · rw [ful_ne (by omega)]; exact h3 i a (by omega)
  · rw [ful_ne (by omega)]; exact h4 i a c
/-- a joint -/
theorem rst_j {S : Int → Int} {L : List Int} {t b x : Int} (hx : x = 21 ∨ x = 22) (h : rst S L t b b) : rst (ful S t x) L (t + 1) b b := by
  obtain ⟨t0, t1, ⟨h1, h2⟩, h3, h4, h5⟩ := h
  have e : t1 = t := by omega
  subst e
  refine ⟨t0, t1 + 1, ⟨by omega, by omega⟩, fun i a c => by omega, fun i a c => ?_, rbs_cg (fun i a c => ful_ne (by omega)) h5⟩
  by_cases e : i = t1
  · rw [e, ful_at]; exact hx
  · rw [ful_ne e]; exact h4 i a (by omega)
/-- a not is done -/
theorem rst_m {S : Int → Int} {L : List Int} {t d b : Int} (h : rst S L t d b) (h0 : 0 < t) (hs : S (t - 1) = 20) : rst S L (t - 1) (d - 1) b := by
  obtain ⟨t0, t1, ⟨h1, h2⟩, h3, h4, h5⟩ := h
  have : ¬ t1 = t := fun e => by
    subst e
    by_cases e2 : t0 = t1
    · subst e2
      cases L with
      | nil => have := h5.1; omega
      | cons b2 L => have := h5.1.2; omega
    · have := h4 (t1 - 1) (by omega) (by omega)
      omega
  exact ⟨t0, t1, ⟨by omega, by omega⟩, fun i a c => h3 i a (by omega), h4, h5⟩
theorem rst_e {S : Int → Int} {L : List Int} {t d b : Int} (h : rst S L t d b) (hs : t ≤ 0 ∨ ¬ S (t - 1) = 20) : d = b := by
  obtain ⟨t0, t1, ⟨h1, h2⟩, h3, h4, h5⟩ := h
  by_cases e : t1 = t
  · omega
  · have := h3 (t - 1) (by omega) (by omega)
    omega
/-- a joint is done -/
theorem rst_k {S : Int → Int} {L : List Int} {t b : Int} (h : rst S L t b b) (h0 : 0 < t) (hs : S (t - 1) = 21 ∨ S (t - 1) = 22) : rst S L (t - 1) b b := by
  obtain ⟨t0, t1, ⟨h1, h2⟩, h3, h4, h5⟩ := h
  have e : t1 = t := by omega
  subst e
  have : ¬ t0 = t1 := fun e2 => by
    subst e2
    cases L with
    | nil => have := h5.1; omega
    | cons b2 L => have := h5.1.2; omega
  exact ⟨t0, t1 - 1, ⟨by omega, by omega⟩, fun i a c => by omega, fun i a c => h4 i a (by omega), h5⟩
/-- no joint waits: the bracket, or nothing -/
theorem rst_z {S : Int → Int} {L : List Int} {t b : Int} (h : rst S L t b b) (hs : t ≤ 0 ∨ ¬ (S (t - 1) = 21 ∨ S (t - 1) = 22)) : (L = [] ∧ t = 0) ∨ (∃ b2 L2, L = b2 :: L2 ∧ 0 < t ∧ S (t - 1) = 23 ∧ 2 ≤ b ∧ rst S L2 (t - 1) (b - 1) b2) := by
  obtain ⟨t0, t1, ⟨h1, h2⟩, h3, h4, h5⟩ := h
  have e : t1 = t := by omega
  subst e
  have e2 : t0 = t1 := by
    by_cases e2 : t0 = t1
    · exact e2
    · have := h4 (t1 - 1) (by omega) (by omega)
      omega
  subst e2
  cases L with
  | nil => exact Or.inl ⟨rfl, h5.1⟩
  | cons b2 L =>
    obtain ⟨⟨g1, g2⟩, u0, u1, ⟨g3, g4⟩, g5, g6, g7⟩ := h5
    have := rbs_b g7
    exact Or.inr ⟨b2, L, rfl, by omega, g2, by omega, u0, u1, ⟨g3, by omega⟩, g5, g6, g7⟩
