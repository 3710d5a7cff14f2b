/-! WHAT A TERRACE TELLS, LINE BY LINE: the same words for both readers. A state: where the token that is looked at begins (with its blanks), the told numbers, the told names. -/
noncomputable section
/-- a text: its octets, how many, how many there may be -/
abbrev qX : Type := (Int → Int) × Int × Int
abbrev qS : Type := Int × (Int → Int) × (Int → Int)
/-- 0: done; else the kind of the FAULT, in the state where it is -/
abbrev qR : Type := Int × qS
def qup (f : Int → Int) (i x : Int) : Int → Int := fun j => if j = i then x else f j
/-- the thirty reserved words -/
def qrl : List Int := [448546567013, 478745093490, 1919905645, 1685024626, 1919902309, 24948, 465557354085, 1751476594, 465625113971, 1735353715, 495622843507, 1818588275, 1650553459, 1684628851, 512869821555, 495673767027, 478627065459, 422877228659, 120299592184933, 28530, 6385252, 7237492, 422877228660, 1718773093, 28518, 26990, 123580963646565, 431366304371, 512970880104, 121450625394034]
def qrw (j : Int) : Int := match qrl[j.toNat]? with
  | some x => x
  | none => 0
def qnm (w : Int) : Bool := qrl.all fun x => !(decide (w = x))
/-- the first from a on that is x -/
def qfi (f : Int → Int) (a x : Int) : Nat → Int → Int
  | 0, _ => -1
  | k + 1, i => if f (a + i) = x then i else qfi f a x k (i + 1)
def qfd (f : Int → Int) (a m x : Int) : Int := qfi f a x m.toNat 0
section QT
variable (x : qX)
def qtk (S : qS) : Int := qkd x.1 x.2.1 x.2.2 S.1
def qName (S : qS) : Bool := decide (qtk x S = 1) && qnm (qwd x.1 x.2.1 S.1)
def qIs (S : qS) (w : Int) : Bool := decide (qtk x S = 1) && decide (qwd x.1 x.2.1 S.1 = w)
def qSign (S : qS) (c : Int) : Bool := decide (qtk x S = 3) && decide (qvl x.1 x.2.1 S.1 = c)
def qadv (S : qS) : qS := (qnx x.1 x.2.1 S.1, S.2)
/-- the number of the NAME that is looked at; -1, -3: the FAULT -/
def qlf (f : Int → Int) (a m p : Int) : Int := if (decide (qkd x.1 x.2.1 x.2.2 p = 1) && qnm (qwd x.1 x.2.1 p)) = true then (if 0 ≤ qfd f a m (qwd x.1 x.2.1 p) then qfd f a m (qwd x.1 x.2.1 p) else -3) else -1
def qlk (a m : Int) (S : qS) : Int := qlf x S.2.2 a m S.1
def qbd (r : qR) (c : qS → qR) : qR := if r.1 = 0 then c r.2 else r
def qTold (S : qS) : Bool := decide (0 ≤ qfd S.2.2 0 (S.2.1 0) (qwd x.1 x.2.1 S.1)) || (decide (0 ≤ qfd S.2.2 6 (S.2.1 1) (qwd x.1 x.2.1 S.1)) || decide (0 ≤ qfd S.2.2 12 (S.2.1 2) (qwd x.1 x.2.1 S.1)))
/-- a new NAME -/
def qfr (to : Int) (S : qS) : qR := if qName x S = true then (if qTold x S = true then (3, S) else (0, qadv x (S.1, S.2.1, qup S.2.2 to (qwd x.1 x.2.1 S.1)))) else (1, S)
def qinc (k : Int) (S : qS) : qS := (S.1, qup S.2.1 k (S.2.1 k + 1), S.2.2)
/-- a NAME that is told -/
def qtn (a m : Int) (S : qS) (c : Int → qS → qR) : qR := if qlk x a m S < 0 then (-(qlk x a m S), S) else c (qlk x a m S) S
/-- house, owner -/
def qNew (k b most : Int) (S : qS) : qR := if S.2.1 k = most then (4, S) else qbd (qfr x (b + S.2.1 k) (qadv x S)) (fun S => (0, qinc k S))
def qRoom (S : qS) : qR := if S.2.1 2 = 12 then (4, S) else qbd (qfr x (12 + S.2.1 2) (qadv x S)) (fun S => qtn x 0 (S.2.1 0) S fun _ S => qtn x 6 (S.2.1 1) (qadv x S) fun _ S => (0, qinc 2 (qadv x S)))
/-- both are joined already -/
def qjn (h : Int → Int) (a b : Int) : Nat → Bool
  | 0 => false
  | k + 1 => qjn h a b k || ((decide (h (29 + (k : Int)) = a) && decide (h (49 + (k : Int)) = b)) || (decide (h (29 + (k : Int)) = b) && decide (h (49 + (k : Int)) = a)))
def qJoin (robe a b : Int) (S : qS) : qS := (S.1, qup (qup (qup (qup S.2.1 (29 + S.2.1 3) a) (49 + S.2.1 3) b) 4 (S.2.1 4 + robe)) 3 (S.2.1 3 + 1), S.2.2)
def qPas (robe : Int) (S : qS) : qR := if S.2.1 3 = 20 then (4, S) else qtn x 12 (S.2.1 2) (qadv x S) fun a S => qtn x 12 (S.2.1 2) (qadv x S) fun b S => if a = b ∨ qjn S.2.1 a b (S.2.1 3).toNat = true then (3, S) else (0, qadv x (qJoin robe a b S))
def qst (i v : Int) (S : qS) : qS := (S.1, qup S.2.1 i v, S.2.2)
def qAt (S : qS) : qR := qtn x 6 (S.2.1 1) (qadv x S) fun q S => if 0 < S.2.1 (89 + q) then (3, S) else qtn x 12 (S.2.1 2) (qadv x S) fun r S => (0, qadv x (qst (89 + q) (r + 1) S))
def qLet (S : qS) : qR := qtn x 6 (S.2.1 1) (qadv x S) fun q S => qtn x 6 (S.2.1 1) (qadv x S) fun g S => if g = q ∨ tb (S.2.1 (95 + q)) g = true then (3, S) else (0, qadv x (qst (95 + q) (vor (S.2.1 (95 + q)) (vshl 1 g)) S))
def qHeir (S : qS) : qR := qtn x 6 (S.2.1 1) (qadv x S) fun q S => if 0 < S.2.1 (101 + q) then (3, S) else qtn x 6 (S.2.1 1) (qadv x S) fun g S => if g = q then (3, S) else (0, qadv x (qst (101 + q) (g + 1) S))
def qLike (S : qS) : qR := qtn x 6 (S.2.1 1) (qadv x S) fun q S => qtn x 12 (S.2.1 2) (qadv x S) fun r S => if 0 < S.2.1 (107 + 12 * q + r) then (3, S) else (if qtk x (qadv x S) = 2 then (if 1 ≤ qvl x.1 x.2.1 (qadv x S).1 ∧ qvl x.1 x.2.1 (qadv x S).1 ≤ 9 then (0, qadv x (qst (107 + 12 * q + r) (qvl x.1 x.2.1 (qadv x S).1) (qadv x S))) else (2, qadv x S)) else (1, qadv x S))
def qline (S : qS) : qR := if qIs x S 448546567013 = true then qNew x 0 0 6 S else if qIs x S 478745093490 = true then qNew x 1 6 6 S else if qIs x S 1919905645 = true then qRoom x S else if qIs x S 1685024626 = true then qPas x 0 S else if qIs x S 1919902309 = true then qPas x 1 S else if qIs x S 24948 = true then qAt x S else if qIs x S 465557354085 = true then qLet x S else if qIs x S 1751476594 = true then qHeir x S else if qIs x S 465625113971 = true then qLike x S else (1, S)
/-- a LINE and its ; -/
def qfull (S : qS) : qR := qbd (qline x S) (fun S => if qSign x S 59 = true then (0, qadv x S) else (1, S))
/-- the answer, the kind of the FAULT, the state -/
def qloop : Nat → Int → qS → Int × Int × qS
  | 0, l, S => (l, 0, S)
  | k + 1, l, S => if qtk x S = 0 then (l, 0, S) else if (qfull x S).1 = 0 then qloop k (l + 1) (qfull x S).2 else (-1 - qat x.1 x.2.1 x.2.2 (qfull x S).2.1, (qfull x S).1, (qfull x S).2)
/-- what there may be of each -/
def qSb (S : qS) : Prop := (0 ≤ S.1 ∧ S.1 ≤ x.2.1) ∧ (0 ≤ S.2.1 0 ∧ S.2.1 0 ≤ 6) ∧ (0 ≤ S.2.1 1 ∧ S.2.1 1 ≤ 6) ∧ (0 ≤ S.2.1 2 ∧ S.2.1 2 ≤ 12) ∧ (0 ≤ S.2.1 3 ∧ S.2.1 3 ≤ 20) ∧ (0 ≤ S.2.1 4 ∧ S.2.1 4 ≤ S.2.1 3) ∧ (∀ i, 0 ≤ i → i < S.2.1 3 → (0 ≤ S.2.1 (29 + i) ∧ S.2.1 (29 + i) ≤ 11) ∧ (0 ≤ S.2.1 (49 + i) ∧ S.2.1 (49 + i) ≤ 11)) ∧ (∀ i, 0 ≤ i → i < 6 → (0 ≤ S.2.1 (89 + i) ∧ S.2.1 (89 + i) ≤ 12) ∧ (0 ≤ S.2.1 (101 + i) ∧ S.2.1 (101 + i) ≤ 6)) ∧ ∀ i, 0 ≤ i → i < 72 → 0 ≤ S.2.1 (107 + i) ∧ S.2.1 (107 + i) ≤ 9
end QT
end
theorem qup_s {f : Int → Int} {i x : Int} : qup f i x i = x := if_pos rfl
theorem qup_n {f : Int → Int} {i j x : Int} (h : ¬ j = i) : qup f i x j = f j := if_neg h
theorem qrw_at : ∀ j : Nat, j < 30 → qrl[j]? = some (qrw j) := by decide +kernel
theorem qnm_iff {w : Int} : qnm w = true ↔ ∀ j : Int, 0 ≤ j → j < 30 → ¬ w = qrw j := by
  unfold qnm
  rw [List.all_eq_true]
  constructor
  · intro h j h0 h1 e
    obtain ⟨k, rfl⟩ := Int.eq_ofNat_of_zero_le h0
    have := h _ (List.mem_of_getElem? (qrw_at k (by omega)))
    rw [← e] at this
    simp at this
  · intro h x hx
    obtain ⟨k, hk, e⟩ := List.mem_iff_getElem?.mp hx |>.imp fun k hk => (⟨(List.getElem?_eq_some_iff.mp hk).1, hk⟩ : k < qrl.length ∧ qrl[k]? = some x)
    have hk : k < 30 := hk
    rw [qrw_at k hk] at e
    cases e
    have := h (k : Int) (by omega) (by omega)
    simp [this]
theorem qfi_spec {f : Int → Int} {a x m r : Int} : ∀ (k : Nat) (i : Int), m = i + (k : Int) → 0 ≤ i → (∀ j : Int, 0 ≤ j → j < i → ¬ f (a + j) = x) → rfd f a m x r → r = qfi f a x k i
  | 0, i, hm, h0, hn, h => by
    rcases h with ⟨h1, h2⟩ | ⟨h1, h2, h3⟩
    · exact h1
    · exact absurd h2 (hn r (by omega) (by omega))
  | k + 1, i, hm, h0, hn, h => by
    show r = if f (a + i) = x then i else qfi f a x k (i + 1)
    by_cases hx : f (a + i) = x
    · rw [if_pos hx]
      rcases h with ⟨h1, h2⟩ | ⟨h1, h2, h3⟩
      · exact absurd hx (h2 i (by omega) (by omega))
      · rcases Int.lt_trichotomy r i with q | q | q
        · exact absurd h2 (hn r (by omega) q)
        · exact q
        · exact absurd hx (h3 i h0 q)
    · rw [if_neg hx]
      exact qfi_spec k (i + 1) (by omega) (by omega) (fun j j0 j1 => by
        by_cases e : j = i
        · rw [e]; exact hx
        · exact hn j j0 (by omega)) h
theorem qfd_of {f : Int → Int} {a m x r : Int} (hm : 0 ≤ m) (h : rfd f a m x r) : r = qfd f a m x := qfi_spec m.toNat 0 (by omega) (Int.le_refl _) (fun j j0 j1 => by omega) h
theorem qfi_rfd {f : Int → Int} {a x m : Int} : ∀ (k : Nat) (i : Int), m = i + (k : Int) → 0 ≤ i → (∀ j : Int, 0 ≤ j → j < i → ¬ f (a + j) = x) → rfd f a m x (qfi f a x k i)
  | 0, i, hm, h0, hn => Or.inl ⟨rfl, fun j j0 j1 => hn j j0 (by omega)⟩
  | k + 1, i, hm, h0, hn => by
    show rfd f a m x (if f (a + i) = x then i else qfi f a x k (i + 1))
    by_cases hx : f (a + i) = x
    · rw [if_pos hx]
      exact Or.inr ⟨by omega, hx, hn⟩
    · rw [if_neg hx]
      exact qfi_rfd k (i + 1) (by omega) (by omega) (fun j j0 j1 => by
        by_cases e : j = i
        · rw [e]; exact hx
        · exact hn j j0 (by omega))
theorem qfd_rfd {f : Int → Int} {a m x : Int} (hm : 0 ≤ m) : rfd f a m x (qfd f a m x) := qfi_rfd m.toNat 0 (by omega) (Int.le_refl _) (fun j j0 j1 => by omega)
theorem qfd_b {f : Int → Int} {a m x : Int} (hm : 0 ≤ m) : -1 ≤ qfd f a m x ∧ (qfd f a m x < m ∨ qfd f a m x = -1) := by
  rcases qfd_rfd (f := f) (a := a) (x := x) hm with ⟨h1, -⟩ | ⟨h1, -⟩ <;> omega
theorem qjn_iff {h : Int → Int} {a b : Int} : ∀ k : Nat, qjn h a b k = true ↔ ∃ i : Int, (0 ≤ i ∧ i < (k : Int)) ∧ ((h (29 + i) = a ∧ h (49 + i) = b) ∨ (h (29 + i) = b ∧ h (49 + i) = a))
  | 0 => ⟨fun q => absurd q Bool.false_ne_true, fun ⟨i, q, _⟩ => by omega⟩
  | k + 1 => by
    show (qjn h a b k || ((decide (h (29 + (k : Int)) = a) && decide (h (49 + (k : Int)) = b)) || (decide (h (29 + (k : Int)) = b) && decide (h (49 + (k : Int)) = a)))) = true ↔ _
    rw [Bool.or_eq_true, qjn_iff k]
    simp only [Bool.or_eq_true, Bool.and_eq_true, decide_eq_true_iff]
    constructor
    · rintro (⟨i, q, r⟩ | r)
      · exact ⟨i, by omega, r⟩
      · exact ⟨(k : Int), by omega, r⟩
    · rintro ⟨i, q, r⟩
      by_cases e : i = (k : Int)
      · subst e; exact Or.inr r
      · exact Or.inl ⟨i, by omega, r⟩
