/-! THE THINGS AT THE START: their sorts, in the order in which they are made -/
noncomputable section
def zso0 : List Nat := [11, 7, 34, 35, 8, 36, 37, 38, 39, 40, 41, 42, 43, 1, 17, 18, 19, 20, 21, 1, 17, 18, 19, 20, 21, 5, 30, 1, 17, 18, 19, 20, 21, 1, 17, 18, 19, 20, 21, 1, 17, 18, 19, 20, 21, 1, 17, 18, 19, 20, 21, 1, 17, 18, 19, 20, 21, 1, 17, 18, 19, 20, 21, 1, 17, 18, 19, 20, 21, 1, 17, 18, 19, 20, 21, 1, 17, 18, 19, 20, 21, 6, 31, 32, 33, 6, 31, 32, 33, 9, 8, 36, 37, 38, 39, 40, 41, 42, 43, 1, 17, 18, 19, 20, 21, 0, 13, 14, 15, 16, 10, 44, 45, 46, 47, 3, 22, 23, 4, 24, 25, 26, 27, 28, 29, 2, 48, 49, 50, 8, 36, 37, 38, 39, 40, 41, 42, 43, 1, 17, 18, 19, 20, 21, 6, 31, 32, 33, 8, 36, 37, 38, 39, 40, 41, 42, 43, 1, 17, 18, 19, 20, 21, 6, 31, 32, 33, 12, 51, 52, 53, 54, 55, 56, 57, 58, 59, 60, 61, 62, 63, 64, 65, 66, 67, 68, 69, 70, 71, 72, 73, 74, 75, 76, 77]
/-- the sorts that are many -/
def zmny : List Nat := [1, 6, 8, 17, 18, 19, 20, 21, 31, 32, 33, 36, 37, 38, 39, 40, 41, 42, 43]
def zu1 (t : Nat) : Bool := zmny.all fun n => !(Nat.beq n t)
def zps0 : List Nat := [105, 0, 125, 115, 118, 25, 0, 1, 0, 89, 110, 0, 167, 106, 107, 108, 109, 0, 0, 0, 0, 0, 116, 117, 119, 120, 121, 122, 123, 124, 26, 0, 0, 0, 2, 3, 0, 0, 0, 0, 0, 0, 0, 0, 111, 112, 113, 114, 126, 127, 128, 168, 169, 170, 171, 172, 173, 174, 175, 176, 177, 178, 179, 180, 181, 182, 183, 184, 185, 186, 187, 188, 189, 190, 191, 192, 193, 194]
def zps (t : Nat) : Nat := match zps0[t]? with
  | some p => p
  | none => 0
end
theorem so_chk : (zso0.zipIdx.all fun q => !(zu1 q.1) || Nat.beq q.2 (zps q.1)) = true := by decide +kernel
theorem so_one {o t : Nat} (h : zso0[o]? = some t) (hu : zu1 t = true) : o = zps t := by
  have h2 := List.all_eq_true.mp so_chk (t, o) (List.mem_zipIdx_iff_getElem?.mpr h)
  rw [hu] at h2
  exact Nat.eq_of_beq_eq_true h2
theorem so_two {o o2 t : Nat} (hu : zu1 t = true) (h : zso0[o]? = some t) (h2 : zso0[o2]? = some t) : o = o2 := (so_one h hu).trans (so_one h2 hu).symm
theorem so_uq : ∀ t, t < 77 → zuq t = true → zu1 t = true ∧ zso0[zps t]? = some t := by decide +kernel
theorem zuq_lt {t : Nat} (h : zuq t = true) : t < 77 := by
  unfold zuq at h
  rw [Bool.or_eq_true, Bool.and_eq_true] at h
  rcases h with h | h
  · have := Nat.eq_of_beq_eq_true h
    omega
  · have := Nat.le_of_ble_eq_true h.2
    omega
theorem so_u1 : ∀ t, zuq t = true → ∀ o o2 : Nat, zso0[o]? = some t → zso0[o2]? = some t → o = o2 := fun t h _ _ h1 h2 => so_two (so_uq t (zuq_lt h) h).1 h1 h2
theorem so_u2 : ∀ t, zuq t = true → ∃ o : Nat, zso0[o]? = some t := fun t h => ⟨_, (so_uq t (zuq_lt h) h).2⟩
/-- what jWf asks, to be computed -/
def jwf (ST : Nat → Option aS) (JL : List aJ) : Bool := JL.all fun J => zu1 J.1 && (match ST J.1 with
  | some (.inl ob) => J.2.2.1.all fun q => (match ob.2[q.1]? with
    | some (.inr (.inl t)) => Nat.beq t q.2.1
    | _ => false) && (match ST q.2.1 with
    | some (.inr ob2) => Nat.beq ob2.1 0
    | _ => false) && zu1 q.2.1 && Nat.blt q.2.2.2 q.2.2.1 && J.2.2.1.all fun q2 => !(Nat.beq q2.2.1 q.2.1) || Nat.beq q2.2.2.1 q.2.2.1
  | _ => false)
theorem jwf_ok {ST : Nat → Option aS} {JL : List aJ} (h : jwf ST JL = true) : jWf ST zso0 JL := by
  intro J hJ
  have h1 := List.all_eq_true.mp h J hJ
  rw [Bool.and_eq_true] at h1
  obtain ⟨h1, h2⟩ := h1
  split at h2
  · rename_i ob hob
    refine ⟨⟨ob, hob, fun q hq => ?_⟩, fun o o2 a b => so_two h1 a b, fun q hq => ?_⟩
    · have h3 := List.all_eq_true.mp h2 q hq
      simp only [Bool.and_eq_true] at h3
      obtain ⟨⟨⟨⟨k1, k2⟩, k3⟩, k4⟩, k5⟩ := h3
      split at k1
      · rename_i t ht
        rw [ht, Nat.eq_of_beq_eq_true k1]
      · cases k1
    · have h3 := List.all_eq_true.mp h2 q hq
      simp only [Bool.and_eq_true] at h3
      obtain ⟨⟨⟨⟨k1, k2⟩, k3⟩, k4⟩, k5⟩ := h3
      refine ⟨?_, fun o o2 a b => so_two k3 a b, Nat.le_of_ble_eq_true k4, fun q2 hq2 e => ?_⟩
      · split at k2
        · rename_i ob2 hob2
          exact ⟨ob2, hob2, Nat.eq_of_beq_eq_true k2⟩
        · cases k2
      · have h4 := List.all_eq_true.mp k5 q2 hq2
        rw [e, Nat.beq_refl] at h4
        exact Nat.eq_of_beq_eq_true h4
  · cases h2
theorem so_j1 : jWf gST zso0 gJ1 := jwf_ok (by decide +kernel)
theorem so_jl : jWf gST zso0 gjl := jwf_ok (by decide +kernel)
