/-! WHAT THE LOOP RESTS ON, at the start -/
section ST0
variable {b base LS : Nat} {xs : Nat → Int32} {D : va_G} {tys : List (ClassId × FieldType)} {l : Launch} {ad : List Nat}
theorem z_B0 : zB (zE1 b base LS xs D tys l zso0 ad) := ⟨tb_good, v_NF base, v_FL, v_CL nf_G, v_KI, v_KL, so_u1, so_u2⟩
theorem z_A1 (h : zin (zE1 b base LS xs D tys l zso0 ad)) : zA (zE1 b base LS xs D tys l zso0 ad) gJ1 := ⟨v_cy, h, so_j1⟩
theorem z_Al (h : zin (zE1 b base LS xs D tys l zso0 ad)) : zA (zE1 b base LS xs D tys l zso0 ad) gjl := ⟨v_cy, h, so_jl⟩
theorem ead_in {A : Nat → Prop} {ws : va_W} (h : va_D A ws) : ∀ o o2 a : Nat, (ead ws)[o]? = some a → (ead ws)[o2]? = some a → o = o2 := by
  intro o o2 a h1 h2
  unfold ead at h1 h2
  rw [List.getElem?_map] at h1 h2
  cases q1 : ws[o]? with
  | none => rw [q1] at h1; cases h1
  | some p =>
    cases q2 : ws[o2]? with
    | none => rw [q2] at h2; cases h2
    | some q =>
      rw [q1] at h1
      rw [q2] at h2
      have h1 : some p.1 = some a := h1
      have h2 : some q.1 = some a := h2
      exact h.1 o o2 p q q1 q2 ((Option.some.inj h1).trans (Option.some.inj h2).symm)
theorem z_F0 {ax am ao : Nat} (h0 : ad[0]? = some ax) (h1 : ad[167]? = some am) (h2 : ad[194]? = some ao) : zFx (zE1 b base LS xs D tys l zso0 ad) 0 167 194 1 ax am ao :=
  ⟨⟨(show zso0[0]? = some 11 from by decide +kernel), h0⟩, ⟨(show zso0[167]? = some 12 from by decide +kernel), h1⟩, ⟨(show zso0[194]? = some 77 from by decide +kernel), h2⟩, (show zso0[1]? = some 7 from by decide +kernel), fun o h => (so_two (t := 7) (by decide +kernel) h (by decide +kernel))⟩
/-- from the first switch on: whatever it is switched by -/
theorem z_cases (hst : l.stackTraces = false) (h : zin (zE1 b base LS xs D tys l zso0 ad)) {ax am ao : Nat} (h0 : ad[0]? = some ax) (h1 : ad[167]? = some am) (h2 : ad[194]? = some ao) (hLS : LS ≤ 3072) (h6 : 6 ≤ LS) {ws : va_W} {ce sl : Nat} (hce : ce ≤ 300000) (hsl : sl ≤ 3000000) (W : zWl (zE1 b base LS xs D tys l zso0 ad) 167 1 0 ws) (k : Nat) :
    zGl (zE1 b base LS xs D tys l zso0 ad) (zpc k) (zlv (zE1 b base LS xs D tys l zso0 ad) ax am ao 0) [] ws ce sl zK1 := by
  have B := z_B0 (b := b) (base := base) (LS := LS) (xs := xs) (D := D) (tys := tys) (l := l) (ad := ad)
  have A := z_A1 h
  have F := z_F0 (b := b) (base := base) (LS := LS) (xs := xs) (D := D) (tys := tys) (l := l) h0 h1 h2
  have R := z_rm hst B A F hLS
  have c0 : (0 : Int32).toInt = 0 := rfl
  have c6 : ((0 : Int32) + 6).toInt = 6 := rfl
  refine zl_all v_KX B A (z_Al h) R F hLS (z := 0) ⟨⟨by rw [c0]; omega, by rw [c0]; show (0 : Int) + 6 ≤ (LS : Int); omega⟩, zWl_b F W, W, by omega, by omega⟩ (fun ws2 z2 ac as W2 ha hs => ?_) k
  refine z_loop v_KX B A (z_Al h) R F hLS (LS + 1) (0 + 6) z2 ws2 (ce + ac) (sl + as) ?_ ?_ ?_ ?_ ?_ W2
  · rw [c6]; show (LS : Int) - 6 < ((LS + 1 : Nat) : Int); omega
  · rw [c6]; omega
  · rw [c6]; show (6 : Int) ≤ (LS : Int); omega
  · rw [c6]; show ((ce + ac : Nat) : Int) + ((LS : Int) - 6) ≤ 601024; omega
  · rw [c6]; show ((sl + as : Nat) : Int) + 6 * ((LS : Int) - 6) ≤ 7293034; omega
end ST0
