/-! THE LAW'S LOOP, its cases -/
section ZL3
variable {E : zE} {oX oM oO oT ax am ao : Nat}
noncomputable section
def zc9 (lo hi : Int) : aC := (lo, hi, (0, .negSucc 2147483647), 0, 0)
/-- what holds at a case's beginning -/
def zBg (E : zE) (oM oT : Nat) (i z : Int32) (ws : va_W) (ce sl : Nat) : Prop := (0 ≤ i.toInt ∧ i.toInt + 6 ≤ (E.2.2.1 : Int)) ∧ (0 ≤ z.toInt ∧ z.toInt ≤ 940) ∧ zWl E oM oT z ws ∧ ce + 2 ≤ 601024 ∧ sl + 12 ≤ 7293034
/-- the law's own room: it comes back, the lengths are as they were -/
def zRm (E : zE) (oM oT ax am ao : Nat) : Prop := ∀ (i z : Int32) (ws : va_W) (ce sl : Nat) (K : gK), zBg E oM oT i z ws ce sl → (∀ (ws2 : va_W) (ac as : Nat), zWl E oM oT z ws2 → ac ≤ 1 → as ≤ 6 → zGl E 383 (zlv E ax am ao i) [] ws2 (ce + ac) (sl + as) K) → zGl E 364 (zlv E ax am ao i) [] ws ce sl K
def zNx (E : zE) (oM oT ax am ao : Nat) (i : Int32) (ce sl : Nat) (K : gK) : Prop := ∀ (ws2 : va_W) (z2 : Int32) (ac as : Nat), zWl E oM oT z2 ws2 → ac ≤ 1 → as ≤ 6 → zGl E 23 (zlv E ax am ao (i + 6)) [] ws2 (ce + ac) (sl + as) K
end
theorem zρ_0 (i z : Int32) : zρ E i z 0 = 0 := rfl
theorem zρ_1 (i z : Int32) : zρ E i z 1 = (E.2.2.1 : Int) := rfl
theorem zρ_2 (i z : Int32) : zρ E i z 2 = i.toInt := rfl
theorem zρ_9 (i z : Int32) : zρ E i z 9 = z.toInt := rfl
theorem zρ_s (i z : Int32) : ∀ c : Nat, c < 6 → zρ E i z (3 + c) = (E.2.2.2.1 (zρ E i z 2 + (c : Int)).toNat).toInt := by
  intro c hc
  have h1 : ¬ 3 + c = 0 := by omega
  have h2 : ¬ 3 + c = 1 := by omega
  have h3 : ¬ 3 + c = 2 := by omega
  have h4 : 3 + c < 9 := by omega
  show (if 3 + c = 0 then _ else _) = _
  rw [if_neg h1, if_neg h2, if_neg h3, if_pos h4]
  have e : i.toInt + (((3 + c : Nat) : Int) - 3) = zρ E i z 2 + (c : Int) := by
    show i.toInt + (((3 + c : Nat) : Int) - 3) = i.toInt + (c : Int)
    omega
  rw [e]
theorem zρ_r (i z : Int32) : ∀ c : Nat, c < 6 → -2147483648 ≤ zρ E i z (3 + c) ∧ zρ E i z (3 + c) ≤ 2147483647 := fun c hc => by
  rw [zρ_s i z c hc]
  exact ⟨Int32.le_toInt _, Int32.toInt_le _⟩
theorem cOk_i {ρ : Nat → Int} {k : Nat} {lo hi : Int} (h0 : ρ 0 = 0) (h1 : lo ≤ ρ k ∧ ρ k ≤ hi) (h2 : -2147483648 ≤ ρ k) : cOk ρ 10 k (zc9 lo hi) := ⟨h1.1, h1.2, (by decide : (0 : Nat) < 10), by show ρ 0 + Int.negSucc 2147483647 ≤ ρ k; omega, fun z => absurd rfl z⟩
/-- a case that leaves the room and the lengths as the run says -/
theorem z_case (B : zB E) (A : zA E gJ1) {L : List (Nat × List aCon)} (P : zP E gJ1 L) {pc : Nat} {c4 c9 : aC} {rm : Nat × Nat} {v : aR} (h : gLw L pc (zA0 c4 c9) (zTs c4 c9 rm v) = true) (hv : zVw v = true) (F : zFx E oX oM oO oT ax am ao) (hLS : E.2.2.1 ≤ 3072) {i z : Int32} {ws : va_W} {ce sl : Nat} {K : gK} (G : (0 ≤ i.toInt ∧ i.toInt + 6 ≤ (E.2.2.1 : Int)) ∧ (0 ≤ z.toInt ∧ z.toInt ≤ 940) ∧ zWl E oM oT z ws ∧ ce + 1 ≤ 601024 ∧ sl + 6 ≤ 7293034) (h4 : cOk (zρ E i z) 10 4 c4) (h9 : cOk (zρ E i z) 10 9 c9) (hN : ∀ (ws2 : va_W) (z2 : Int32), zWl E oM oT z2 ws2 → zGl E 23 (zlv E ax am ao (i + 6)) [] ws2 (ce + rm.1) (sl + rm.2) K) : zGl E pc (zlv E ax am ao i) [] ws ce sl K := by
  obtain ⟨g1, g2, g3, g4, g5⟩ := G
  refine z_run B A P h hv F (ρ := zρ E i z) (zcs_ok rfl (by rw [zρ_2]; omega) (by rw [zρ_1, zρ_2]; omega) (zρ_r i z) h4 h9) hLS rfl (zρ_s i z) (i := i) (z := z) rfl (by rw [zρ_2]; omega) rfl g3 g4 g5 (fun ws2 z2 W2 _ => hN ws2 z2 W2)
theorem zl_0b (B : zB E) (A : zA E gJ1) (A2 : zA E gjl) (hR : zRm E oM oT ax am ao) (F : zFx E oX oM oO oT ax am ao) (hLS : E.2.2.1 ≤ 3072) {i z : Int32} {ws : va_W} {ce sl : Nat} {K : gK} (G : (0 ≤ i.toInt ∧ i.toInt + 6 ≤ (E.2.2.1 : Int)) ∧ (0 ≤ z.toInt ∧ z.toInt ≤ 940) ∧ zWl E oM oT z ws ∧ ce + 1 ≤ 601024 ∧ sl + 6 ≤ 7293034) (q9 : 921 ≤ z.toInt ∧ z.toInt ≤ 940) (hN : ∀ (ws2 : va_W) (z2 : Int32), zWl E oM oT z2 ws2 → zGl E 23 (zlv E ax am ao (i + 6)) [] ws2 (ce + 0) (sl + 0) K) : zGl E 240 (zlv E ax am ao i) [] ws ce sl K := by
  have g2 := G.2.1
  have r4 := zρ_r (E := E) i z 1 (by decide)
  have r4 : -2147483648 ≤ zρ E i z 4 ∧ zρ E i z 4 ≤ 2147483647 := r4
  exact z_case (c4 := zany) (c9 := (.ofNat 921, .ofNat 940, (0, .negSucc 2147483647), 0, 0)) (rm := (0, 0)) (v := (.inl (.inl (9, .ofNat 0)))) B A zP_nil lw_0b rfl F hLS G (cOk_i rfl ⟨by show Int.negSucc 2147483647 ≤ zρ E i z 4; omega, by show zρ E i z 4 ≤ 2147483647; omega⟩ r4.1) (cOk_i rfl ⟨by show 921 ≤ z.toInt; omega, by show z.toInt ≤ 940; omega⟩ (by show -2147483648 ≤ z.toInt; omega)) hN
theorem zl_1a (B : zB E) (A : zA E gJ1) (A2 : zA E gjl) (hR : zRm E oM oT ax am ao) (F : zFx E oX oM oO oT ax am ao) (hLS : E.2.2.1 ≤ 3072) {i z : Int32} {ws : va_W} {ce sl : Nat} {K : gK} (G : (0 ≤ i.toInt ∧ i.toInt + 6 ≤ (E.2.2.1 : Int)) ∧ (0 ≤ z.toInt ∧ z.toInt ≤ 940) ∧ zWl E oM oT z ws ∧ ce + 1 ≤ 601024 ∧ sl + 6 ≤ 7293034) (q4 : zρ E i z 4 ≤ -1) (hN : ∀ (ws2 : va_W) (z2 : Int32), zWl E oM oT z2 ws2 → zGl E 23 (zlv E ax am ao (i + 6)) [] ws2 (ce + 0) (sl + 0) K) : zGl E 313 (zlv E ax am ao i) [] ws ce sl K := by
  have g2 := G.2.1
  have r4 := zρ_r (E := E) i z 1 (by decide)
  have r4 : -2147483648 ≤ zρ E i z 4 ∧ zρ E i z 4 ≤ 2147483647 := r4
  exact z_case (c4 := (.negSucc 2147483647, .negSucc 0, (0, .negSucc 2147483647), 0, 0)) (c9 := (.ofNat 0, .ofNat 940, (0, .negSucc 2147483647), 0, 0)) (rm := (0, 0)) (v := (.inl (.inl (9, .ofNat 0)))) B A zP_nil lw_1a rfl F hLS G (cOk_i rfl ⟨by show Int.negSucc 2147483647 ≤ zρ E i z 4; omega, by show zρ E i z 4 ≤ (-1); omega⟩ r4.1) (cOk_i rfl ⟨by show 0 ≤ z.toInt; omega, by show z.toInt ≤ 940; omega⟩ (by show -2147483648 ≤ z.toInt; omega)) hN
theorem zl_1b (B : zB E) (A : zA E gJ1) (A2 : zA E gjl) (hR : zRm E oM oT ax am ao) (F : zFx E oX oM oO oT ax am ao) (hLS : E.2.2.1 ≤ 3072) {i z : Int32} {ws : va_W} {ce sl : Nat} {K : gK} (G : (0 ≤ i.toInt ∧ i.toInt + 6 ≤ (E.2.2.1 : Int)) ∧ (0 ≤ z.toInt ∧ z.toInt ≤ 940) ∧ zWl E oM oT z ws ∧ ce + 1 ≤ 601024 ∧ sl + 6 ≤ 7293034) (q4 : 0 ≤ zρ E i z 4 ∧ z.toInt + 1 ≤ zρ E i z 4) (hN : ∀ (ws2 : va_W) (z2 : Int32), zWl E oM oT z2 ws2 → zGl E 23 (zlv E ax am ao (i + 6)) [] ws2 (ce + 0) (sl + 0) K) : zGl E 313 (zlv E ax am ao i) [] ws ce sl K := by
  have g2 := G.2.1
  have r4 := zρ_r (E := E) i z 1 (by decide)
  have r4 : -2147483648 ≤ zρ E i z 4 ∧ zρ E i z 4 ≤ 2147483647 := r4
  exact z_case (c4 := (.ofNat 0, .ofNat 2147483647, (9, .ofNat 1), 0, 0)) (c9 := (.ofNat 0, .ofNat 940, (0, .negSucc 2147483647), 0, 0)) (rm := (0, 0)) (v := (.inl (.inl (9, .ofNat 0)))) B A zP_nil lw_1b rfl F hLS G (⟨q4.1, r4.2, (by decide : (9 : Nat) < 10), by show z.toInt + 1 ≤ zρ E i z 4; omega, fun z => absurd rfl z⟩) (cOk_i rfl ⟨by show 0 ≤ z.toInt; omega, by show z.toInt ≤ 940; omega⟩ (by show -2147483648 ≤ z.toInt; omega)) hN
theorem zl_1c (B : zB E) (A : zA E gJ1) (A2 : zA E gjl) (hR : zRm E oM oT ax am ao) (F : zFx E oX oM oO oT ax am ao) (hLS : E.2.2.1 ≤ 3072) {i z : Int32} {ws : va_W} {ce sl : Nat} {K : gK} (G : (0 ≤ i.toInt ∧ i.toInt + 6 ≤ (E.2.2.1 : Int)) ∧ (0 ≤ z.toInt ∧ z.toInt ≤ 940) ∧ zWl E oM oT z ws ∧ ce + 1 ≤ 601024 ∧ sl + 6 ≤ 7293034) (q4 : 0 ≤ zρ E i z 4 ∧ zρ E i z 4 ≤ 940 ∧ zρ E i z 4 ≤ z.toInt) (hN : ∀ (ws2 : va_W) (z2 : Int32), zWl E oM oT z2 ws2 → zGl E 23 (zlv E ax am ao (i + 6)) [] ws2 (ce + 0) (sl + 0) K) : zGl E 313 (zlv E ax am ao i) [] ws ce sl K := by
  have g2 := G.2.1
  have r4 := zρ_r (E := E) i z 1 (by decide)
  have r4 : -2147483648 ≤ zρ E i z 4 ∧ zρ E i z 4 ≤ 2147483647 := r4
  exact z_case (c4 := (.ofNat 0, .ofNat 940, (0, .negSucc 2147483647), 0, 0)) (c9 := (.ofNat 0, .ofNat 940, (4, .ofNat 0), 0, 0)) (rm := (0, 0)) (v := (.inl (.inl (4, .ofNat 0)))) B A zP_nil lw_1c rfl F hLS G (cOk_i rfl ⟨by show 0 ≤ zρ E i z 4; omega, by show zρ E i z 4 ≤ 940; omega⟩ r4.1) (⟨by show 0 ≤ z.toInt; omega, by show z.toInt ≤ 940; omega, (by decide : (4 : Nat) < 10), by show zρ E i z 4 + 0 ≤ z.toInt; omega, fun z => absurd rfl z⟩) hN
theorem zl_4 (B : zB E) (A : zA E gJ1) (A2 : zA E gjl) (hR : zRm E oM oT ax am ao) (F : zFx E oX oM oO oT ax am ao) (hLS : E.2.2.1 ≤ 3072) {i z : Int32} {ws : va_W} {ce sl : Nat} {K : gK} (G : (0 ≤ i.toInt ∧ i.toInt + 6 ≤ (E.2.2.1 : Int)) ∧ (0 ≤ z.toInt ∧ z.toInt ≤ 940) ∧ zWl E oM oT z ws ∧ ce + 1 ≤ 601024 ∧ sl + 6 ≤ 7293034)  (hN : ∀ (ws2 : va_W) (z2 : Int32), zWl E oM oT z2 ws2 → zGl E 23 (zlv E ax am ao (i + 6)) [] ws2 (ce + 0) (sl + 0) K) : zGl E 383 (zlv E ax am ao i) [] ws ce sl K := by
  have g2 := G.2.1
  have r4 := zρ_r (E := E) i z 1 (by decide)
  have r4 : -2147483648 ≤ zρ E i z 4 ∧ zρ E i z 4 ≤ 2147483647 := r4
  exact z_case (c4 := zany) (c9 := (.ofNat 0, .ofNat 940, (0, .negSucc 2147483647), 0, 0)) (rm := (0, 0)) (v := (.inl (.inl (9, .ofNat 0)))) B A (zP_cons rfl (zF_cons (zc_263_0 B A) zF_nil) zP_nil) lw_4 rfl F hLS G (cOk_i rfl ⟨by show Int.negSucc 2147483647 ≤ zρ E i z 4; omega, by show zρ E i z 4 ≤ 2147483647; omega⟩ r4.1) (cOk_i rfl ⟨by show 0 ≤ z.toInt; omega, by show z.toInt ≤ 940; omega⟩ (by show -2147483648 ≤ z.toInt; omega)) hN
theorem zl_5 (B : zB E) (A : zA E gJ1) (A2 : zA E gjl) (hR : zRm E oM oT ax am ao) (F : zFx E oX oM oO oT ax am ao) (hLS : E.2.2.1 ≤ 3072) {i z : Int32} {ws : va_W} {ce sl : Nat} {K : gK} (G : (0 ≤ i.toInt ∧ i.toInt + 6 ≤ (E.2.2.1 : Int)) ∧ (0 ≤ z.toInt ∧ z.toInt ≤ 940) ∧ zWl E oM oT z ws ∧ ce + 1 ≤ 601024 ∧ sl + 6 ≤ 7293034)  (hN : ∀ (ws2 : va_W) (z2 : Int32), zWl E oM oT z2 ws2 → zGl E 23 (zlv E ax am ao (i + 6)) [] ws2 (ce + 0) (sl + 0) K) : zGl E 404 (zlv E ax am ao i) [] ws ce sl K := by
  have g2 := G.2.1
  have r4 := zρ_r (E := E) i z 1 (by decide)
  have r4 : -2147483648 ≤ zρ E i z 4 ∧ zρ E i z 4 ≤ 2147483647 := r4
  exact z_case (c4 := zany) (c9 := (.ofNat 0, .ofNat 940, (0, .negSucc 2147483647), 0, 0)) (rm := (0, 0)) (v := (.inl (.inl (9, .ofNat 0)))) B A (zP_cons rfl (zF_cons (zc_151_0 B A) zF_nil) (zP_cons rfl (zF_cons (zc_248_0 B A) zF_nil) zP_nil)) lw_5 rfl F hLS G (cOk_i rfl ⟨by show Int.negSucc 2147483647 ≤ zρ E i z 4; omega, by show zρ E i z 4 ≤ 2147483647; omega⟩ r4.1) (cOk_i rfl ⟨by show 0 ≤ z.toInt; omega, by show z.toInt ≤ 940; omega⟩ (by show -2147483648 ≤ z.toInt; omega)) hN
theorem zl_6 (B : zB E) (A : zA E gJ1) (A2 : zA E gjl) (hR : zRm E oM oT ax am ao) (F : zFx E oX oM oO oT ax am ao) (hLS : E.2.2.1 ≤ 3072) {i z : Int32} {ws : va_W} {ce sl : Nat} {K : gK} (G : (0 ≤ i.toInt ∧ i.toInt + 6 ≤ (E.2.2.1 : Int)) ∧ (0 ≤ z.toInt ∧ z.toInt ≤ 940) ∧ zWl E oM oT z ws ∧ ce + 1 ≤ 601024 ∧ sl + 6 ≤ 7293034)  (hN : ∀ (ws2 : va_W) (z2 : Int32), zWl E oM oT z2 ws2 → zGl E 23 (zlv E ax am ao (i + 6)) [] ws2 (ce + 0) (sl + 0) K) : zGl E 441 (zlv E ax am ao i) [] ws ce sl K := by
  have g2 := G.2.1
  have r4 := zρ_r (E := E) i z 1 (by decide)
  have r4 : -2147483648 ≤ zρ E i z 4 ∧ zρ E i z 4 ≤ 2147483647 := r4
  exact z_case (c4 := zany) (c9 := (.ofNat 0, .ofNat 940, (0, .negSucc 2147483647), 0, 0)) (rm := (0, 0)) (v := (.inl (.inl (9, .ofNat 0)))) B A (zP_cons rfl (zF_cons (zc_152_0 B A) zF_nil) (zP_cons rfl (zF_cons (zc_250_0 B A) zF_nil) zP_nil)) lw_6 rfl F hLS G (cOk_i rfl ⟨by show Int.negSucc 2147483647 ≤ zρ E i z 4; omega, by show zρ E i z 4 ≤ 2147483647; omega⟩ r4.1) (cOk_i rfl ⟨by show 0 ≤ z.toInt; omega, by show z.toInt ≤ 940; omega⟩ (by show -2147483648 ≤ z.toInt; omega)) hN
theorem zl_7 (B : zB E) (A : zA E gJ1) (A2 : zA E gjl) (hR : zRm E oM oT ax am ao) (F : zFx E oX oM oO oT ax am ao) (hLS : E.2.2.1 ≤ 3072) {i z : Int32} {ws : va_W} {ce sl : Nat} {K : gK} (G : (0 ≤ i.toInt ∧ i.toInt + 6 ≤ (E.2.2.1 : Int)) ∧ (0 ≤ z.toInt ∧ z.toInt ≤ 940) ∧ zWl E oM oT z ws ∧ ce + 1 ≤ 601024 ∧ sl + 6 ≤ 7293034)  (hN : ∀ (ws2 : va_W) (z2 : Int32), zWl E oM oT z2 ws2 → zGl E 23 (zlv E ax am ao (i + 6)) [] ws2 (ce + 0) (sl + 0) K) : zGl E 478 (zlv E ax am ao i) [] ws ce sl K := by
  have g2 := G.2.1
  have r4 := zρ_r (E := E) i z 1 (by decide)
  have r4 : -2147483648 ≤ zρ E i z 4 ∧ zρ E i z 4 ≤ 2147483647 := r4
  exact z_case (c4 := zany) (c9 := (.ofNat 0, .ofNat 940, (0, .negSucc 2147483647), 0, 0)) (rm := (0, 0)) (v := (.inl (.inl (9, .ofNat 0)))) B A (zP_cons rfl (zF_cons (zc_149_0 B A) zF_nil) (zP_cons rfl (zF_cons (zc_244_0 B A) zF_nil) zP_nil)) lw_7 rfl F hLS G (cOk_i rfl ⟨by show Int.negSucc 2147483647 ≤ zρ E i z 4; omega, by show zρ E i z 4 ≤ 2147483647; omega⟩ r4.1) (cOk_i rfl ⟨by show 0 ≤ z.toInt; omega, by show z.toInt ≤ 940; omega⟩ (by show -2147483648 ≤ z.toInt; omega)) hN
theorem zl_8 (B : zB E) (A : zA E gJ1) (A2 : zA E gjl) (hR : zRm E oM oT ax am ao) (F : zFx E oX oM oO oT ax am ao) (hLS : E.2.2.1 ≤ 3072) {i z : Int32} {ws : va_W} {ce sl : Nat} {K : gK} (G : (0 ≤ i.toInt ∧ i.toInt + 6 ≤ (E.2.2.1 : Int)) ∧ (0 ≤ z.toInt ∧ z.toInt ≤ 940) ∧ zWl E oM oT z ws ∧ ce + 1 ≤ 601024 ∧ sl + 6 ≤ 7293034)  (hN : ∀ (ws2 : va_W) (z2 : Int32), zWl E oM oT z2 ws2 → zGl E 23 (zlv E ax am ao (i + 6)) [] ws2 (ce + 0) (sl + 0) K) : zGl E 503 (zlv E ax am ao i) [] ws ce sl K := by
  have g2 := G.2.1
  have r4 := zρ_r (E := E) i z 1 (by decide)
  have r4 : -2147483648 ≤ zρ E i z 4 ∧ zρ E i z 4 ≤ 2147483647 := r4
  exact z_case (c4 := zany) (c9 := (.ofNat 0, .ofNat 940, (0, .negSucc 2147483647), 0, 0)) (rm := (0, 0)) (v := (.inl (.inl (9, .ofNat 0)))) B A (zP_cons rfl (zF_cons (zc_130_0 B A) zF_nil) (zP_cons rfl (zF_cons (zc_232_0 B A) zF_nil) (zP_cons rfl (zF_cons (zc_288_0 B A) zF_nil) zP_nil))) lw_8 rfl F hLS G (cOk_i rfl ⟨by show Int.negSucc 2147483647 ≤ zρ E i z 4; omega, by show zρ E i z 4 ≤ 2147483647; omega⟩ r4.1) (cOk_i rfl ⟨by show 0 ≤ z.toInt; omega, by show z.toInt ≤ 940; omega⟩ (by show -2147483648 ≤ z.toInt; omega)) hN
theorem zl_9 (B : zB E) (A : zA E gJ1) (A2 : zA E gjl) (hR : zRm E oM oT ax am ao) (F : zFx E oX oM oO oT ax am ao) (hLS : E.2.2.1 ≤ 3072) {i z : Int32} {ws : va_W} {ce sl : Nat} {K : gK} (G : (0 ≤ i.toInt ∧ i.toInt + 6 ≤ (E.2.2.1 : Int)) ∧ (0 ≤ z.toInt ∧ z.toInt ≤ 940) ∧ zWl E oM oT z ws ∧ ce + 1 ≤ 601024 ∧ sl + 6 ≤ 7293034)  (hN : ∀ (ws2 : va_W) (z2 : Int32), zWl E oM oT z2 ws2 → zGl E 23 (zlv E ax am ao (i + 6)) [] ws2 (ce + 0) (sl + 0) K) : zGl E 540 (zlv E ax am ao i) [] ws ce sl K := by
  have g2 := G.2.1
  have r4 := zρ_r (E := E) i z 1 (by decide)
  have r4 : -2147483648 ≤ zρ E i z 4 ∧ zρ E i z 4 ≤ 2147483647 := r4
  exact z_case (c4 := zany) (c9 := (.ofNat 0, .ofNat 940, (0, .negSucc 2147483647), 0, 0)) (rm := (0, 0)) (v := (.inl (.inl (9, .ofNat 0)))) B A (zP_cons rfl (zF_cons (zc_145_0 B A) zF_nil) (zP_cons rfl (zF_cons (zc_232_0 B A) zF_nil) zP_nil)) lw_9 rfl F hLS G (cOk_i rfl ⟨by show Int.negSucc 2147483647 ≤ zρ E i z 4; omega, by show zρ E i z 4 ≤ 2147483647; omega⟩ r4.1) (cOk_i rfl ⟨by show 0 ≤ z.toInt; omega, by show z.toInt ≤ 940; omega⟩ (by show -2147483648 ≤ z.toInt; omega)) hN
theorem zl_10 (B : zB E) (A : zA E gJ1) (A2 : zA E gjl) (hR : zRm E oM oT ax am ao) (F : zFx E oX oM oO oT ax am ao) (hLS : E.2.2.1 ≤ 3072) {i z : Int32} {ws : va_W} {ce sl : Nat} {K : gK} (G : (0 ≤ i.toInt ∧ i.toInt + 6 ≤ (E.2.2.1 : Int)) ∧ (0 ≤ z.toInt ∧ z.toInt ≤ 940) ∧ zWl E oM oT z ws ∧ ce + 1 ≤ 601024 ∧ sl + 6 ≤ 7293034)  (hN : ∀ (ws2 : va_W) (z2 : Int32), zWl E oM oT z2 ws2 → zGl E 23 (zlv E ax am ao (i + 6)) [] ws2 (ce + 0) (sl + 0) K) : zGl E 565 (zlv E ax am ao i) [] ws ce sl K := by
  have g2 := G.2.1
  have r4 := zρ_r (E := E) i z 1 (by decide)
  have r4 : -2147483648 ≤ zρ E i z 4 ∧ zρ E i z 4 ≤ 2147483647 := r4
  exact z_case (c4 := zany) (c9 := (.ofNat 0, .ofNat 940, (0, .negSucc 2147483647), 0, 0)) (rm := (0, 0)) (v := (.inl (.inl (9, .ofNat 0)))) B A (zP_cons rfl (zF_cons (zc_160_0 B A) zF_nil) (zP_cons rfl (zF_cons (zc_266_0 B A) zF_nil) zP_nil)) lw_10 rfl F hLS G (cOk_i rfl ⟨by show Int.negSucc 2147483647 ≤ zρ E i z 4; omega, by show zρ E i z 4 ≤ 2147483647; omega⟩ r4.1) (cOk_i rfl ⟨by show 0 ≤ z.toInt; omega, by show z.toInt ≤ 940; omega⟩ (by show -2147483648 ≤ z.toInt; omega)) hN
theorem zl_11 (B : zB E) (A : zA E gJ1) (A2 : zA E gjl) (hR : zRm E oM oT ax am ao) (F : zFx E oX oM oO oT ax am ao) (hLS : E.2.2.1 ≤ 3072) {i z : Int32} {ws : va_W} {ce sl : Nat} {K : gK} (G : (0 ≤ i.toInt ∧ i.toInt + 6 ≤ (E.2.2.1 : Int)) ∧ (0 ≤ z.toInt ∧ z.toInt ≤ 940) ∧ zWl E oM oT z ws ∧ ce + 1 ≤ 601024 ∧ sl + 6 ≤ 7293034)  (hN : ∀ (ws2 : va_W) (z2 : Int32), zWl E oM oT z2 ws2 → zGl E 23 (zlv E ax am ao (i + 6)) [] ws2 (ce + 0) (sl + 0) K) : zGl E 614 (zlv E ax am ao i) [] ws ce sl K := by
  have g2 := G.2.1
  have r4 := zρ_r (E := E) i z 1 (by decide)
  have r4 : -2147483648 ≤ zρ E i z 4 ∧ zρ E i z 4 ≤ 2147483647 := r4
  exact z_case (c4 := zany) (c9 := (.ofNat 0, .ofNat 940, (0, .negSucc 2147483647), 0, 0)) (rm := (0, 0)) (v := (.inl (.inl (9, .ofNat 0)))) B A (zP_cons rfl (zF_cons (zc_146_0 B A) zF_nil) (zP_cons rfl (zF_cons (zc_235_0 B A) zF_nil) zP_nil)) lw_11 rfl F hLS G (cOk_i rfl ⟨by show Int.negSucc 2147483647 ≤ zρ E i z 4; omega, by show zρ E i z 4 ≤ 2147483647; omega⟩ r4.1) (cOk_i rfl ⟨by show 0 ≤ z.toInt; omega, by show z.toInt ≤ 940; omega⟩ (by show -2147483648 ≤ z.toInt; omega)) hN
theorem zl_12 (B : zB E) (A : zA E gJ1) (A2 : zA E gjl) (hR : zRm E oM oT ax am ao) (F : zFx E oX oM oO oT ax am ao) (hLS : E.2.2.1 ≤ 3072) {i z : Int32} {ws : va_W} {ce sl : Nat} {K : gK} (G : (0 ≤ i.toInt ∧ i.toInt + 6 ≤ (E.2.2.1 : Int)) ∧ (0 ≤ z.toInt ∧ z.toInt ≤ 940) ∧ zWl E oM oT z ws ∧ ce + 1 ≤ 601024 ∧ sl + 6 ≤ 7293034)  (hN : ∀ (ws2 : va_W) (z2 : Int32), zWl E oM oT z2 ws2 → zGl E 23 (zlv E ax am ao (i + 6)) [] ws2 (ce + 0) (sl + 0) K) : zGl E 663 (zlv E ax am ao i) [] ws ce sl K := by
  have g2 := G.2.1
  have r4 := zρ_r (E := E) i z 1 (by decide)
  have r4 : -2147483648 ≤ zρ E i z 4 ∧ zρ E i z 4 ≤ 2147483647 := r4
  exact z_case (c4 := zany) (c9 := (.ofNat 0, .ofNat 940, (0, .negSucc 2147483647), 0, 0)) (rm := (0, 0)) (v := (.inl (.inl (9, .ofNat 0)))) B A (zP_cons rfl (zF_cons (zc_172_0 B A) zF_nil) (zP_cons rfl (zF_cons (zc_294_0 B A) zF_nil) zP_nil)) lw_12 rfl F hLS G (cOk_i rfl ⟨by show Int.negSucc 2147483647 ≤ zρ E i z 4; omega, by show zρ E i z 4 ≤ 2147483647; omega⟩ r4.1) (cOk_i rfl ⟨by show 0 ≤ z.toInt; omega, by show z.toInt ≤ 940; omega⟩ (by show -2147483648 ≤ z.toInt; omega)) hN
theorem zl_13 (B : zB E) (A : zA E gJ1) (A2 : zA E gjl) (hR : zRm E oM oT ax am ao) (F : zFx E oX oM oO oT ax am ao) (hLS : E.2.2.1 ≤ 3072) {i z : Int32} {ws : va_W} {ce sl : Nat} {K : gK} (G : (0 ≤ i.toInt ∧ i.toInt + 6 ≤ (E.2.2.1 : Int)) ∧ (0 ≤ z.toInt ∧ z.toInt ≤ 940) ∧ zWl E oM oT z ws ∧ ce + 1 ≤ 601024 ∧ sl + 6 ≤ 7293034)  (hN : ∀ (ws2 : va_W) (z2 : Int32), zWl E oM oT z2 ws2 → zGl E 23 (zlv E ax am ao (i + 6)) [] ws2 (ce + 0) (sl + 0) K) : zGl E 700 (zlv E ax am ao i) [] ws ce sl K := by
  have g2 := G.2.1
  have r4 := zρ_r (E := E) i z 1 (by decide)
  have r4 : -2147483648 ≤ zρ E i z 4 ∧ zρ E i z 4 ≤ 2147483647 := r4
  exact z_case (c4 := zany) (c9 := (.ofNat 0, .ofNat 940, (0, .negSucc 2147483647), 0, 0)) (rm := (0, 0)) (v := (.inl (.inl (9, .ofNat 0)))) B A (zP_cons rfl (zF_cons (zc_123_0 B A) zF_nil) (zP_cons rfl (zF_cons (zc_198_0 B A) zF_nil) (zP_cons rfl (zF_cons (zc_232_0 B A) zF_nil) zP_nil))) lw_13 rfl F hLS G (cOk_i rfl ⟨by show Int.negSucc 2147483647 ≤ zρ E i z 4; omega, by show zρ E i z 4 ≤ 2147483647; omega⟩ r4.1) (cOk_i rfl ⟨by show 0 ≤ z.toInt; omega, by show z.toInt ≤ 940; omega⟩ (by show -2147483648 ≤ z.toInt; omega)) hN
theorem zl_14 (B : zB E) (A : zA E gJ1) (A2 : zA E gjl) (hR : zRm E oM oT ax am ao) (F : zFx E oX oM oO oT ax am ao) (hLS : E.2.2.1 ≤ 3072) {i z : Int32} {ws : va_W} {ce sl : Nat} {K : gK} (G : (0 ≤ i.toInt ∧ i.toInt + 6 ≤ (E.2.2.1 : Int)) ∧ (0 ≤ z.toInt ∧ z.toInt ≤ 940) ∧ zWl E oM oT z ws ∧ ce + 1 ≤ 601024 ∧ sl + 6 ≤ 7293034)  (hN : ∀ (ws2 : va_W) (z2 : Int32), zWl E oM oT z2 ws2 → zGl E 23 (zlv E ax am ao (i + 6)) [] ws2 (ce + 0) (sl + 0) K) : zGl E 725 (zlv E ax am ao i) [] ws ce sl K := by
  have g2 := G.2.1
  have r4 := zρ_r (E := E) i z 1 (by decide)
  have r4 : -2147483648 ≤ zρ E i z 4 ∧ zρ E i z 4 ≤ 2147483647 := r4
  exact z_case (c4 := zany) (c9 := (.ofNat 0, .ofNat 940, (0, .negSucc 2147483647), 0, 0)) (rm := (0, 0)) (v := (.inl (.inl (9, .ofNat 0)))) B A (zP_cons rfl (zF_cons (zc_162_0 B A) zF_nil) (zP_cons rfl (zF_cons (zc_269_0 B A) zF_nil) zP_nil)) lw_14 rfl F hLS G (cOk_i rfl ⟨by show Int.negSucc 2147483647 ≤ zρ E i z 4; omega, by show zρ E i z 4 ≤ 2147483647; omega⟩ r4.1) (cOk_i rfl ⟨by show 0 ≤ z.toInt; omega, by show z.toInt ≤ 940; omega⟩ (by show -2147483648 ≤ z.toInt; omega)) hN
theorem zl_15 (B : zB E) (A : zA E gJ1) (A2 : zA E gjl) (hR : zRm E oM oT ax am ao) (F : zFx E oX oM oO oT ax am ao) (hLS : E.2.2.1 ≤ 3072) {i z : Int32} {ws : va_W} {ce sl : Nat} {K : gK} (G : (0 ≤ i.toInt ∧ i.toInt + 6 ≤ (E.2.2.1 : Int)) ∧ (0 ≤ z.toInt ∧ z.toInt ≤ 940) ∧ zWl E oM oT z ws ∧ ce + 1 ≤ 601024 ∧ sl + 6 ≤ 7293034)  (hN : ∀ (ws2 : va_W) (z2 : Int32), zWl E oM oT z2 ws2 → zGl E 23 (zlv E ax am ao (i + 6)) [] ws2 (ce + 0) (sl + 0) K) : zGl E 762 (zlv E ax am ao i) [] ws ce sl K := by
  have g2 := G.2.1
  have r4 := zρ_r (E := E) i z 1 (by decide)
  have r4 : -2147483648 ≤ zρ E i z 4 ∧ zρ E i z 4 ≤ 2147483647 := r4
  exact z_case (c4 := zany) (c9 := (.ofNat 0, .ofNat 940, (0, .negSucc 2147483647), 0, 0)) (rm := (0, 0)) (v := (.inl (.inl (9, .ofNat 0)))) B A (zP_cons rfl (zF_cons (zc_118_0 B A) zF_nil) (zP_cons rfl (zF_cons (zc_188_0 B A) zF_nil) (zP_cons rfl (zF_cons (zc_232_0 B A) zF_nil) zP_nil))) lw_15 rfl F hLS G (cOk_i rfl ⟨by show Int.negSucc 2147483647 ≤ zρ E i z 4; omega, by show zρ E i z 4 ≤ 2147483647; omega⟩ r4.1) (cOk_i rfl ⟨by show 0 ≤ z.toInt; omega, by show z.toInt ≤ 940; omega⟩ (by show -2147483648 ≤ z.toInt; omega)) hN
theorem zl_16 (B : zB E) (A : zA E gJ1) (A2 : zA E gjl) (hR : zRm E oM oT ax am ao) (F : zFx E oX oM oO oT ax am ao) (hLS : E.2.2.1 ≤ 3072) {i z : Int32} {ws : va_W} {ce sl : Nat} {K : gK} (G : (0 ≤ i.toInt ∧ i.toInt + 6 ≤ (E.2.2.1 : Int)) ∧ (0 ≤ z.toInt ∧ z.toInt ≤ 940) ∧ zWl E oM oT z ws ∧ ce + 1 ≤ 601024 ∧ sl + 6 ≤ 7293034)  (hN : ∀ (ws2 : va_W) (z2 : Int32), zWl E oM oT z2 ws2 → zGl E 23 (zlv E ax am ao (i + 6)) [] ws2 (ce + 0) (sl + 0) K) : zGl E 787 (zlv E ax am ao i) [] ws ce sl K := by
  have g2 := G.2.1
  have r4 := zρ_r (E := E) i z 1 (by decide)
  have r4 : -2147483648 ≤ zρ E i z 4 ∧ zρ E i z 4 ≤ 2147483647 := r4
  exact z_case (c4 := zany) (c9 := (.ofNat 0, .ofNat 940, (0, .negSucc 2147483647), 0, 0)) (rm := (0, 0)) (v := (.inl (.inl (9, .ofNat 0)))) B A (zP_cons rfl (zF_cons (zc_147_0 B A) zF_nil) (zP_cons rfl (zF_cons (zc_241_0 B A) zF_nil) zP_nil)) lw_16 rfl F hLS G (cOk_i rfl ⟨by show Int.negSucc 2147483647 ≤ zρ E i z 4; omega, by show zρ E i z 4 ≤ 2147483647; omega⟩ r4.1) (cOk_i rfl ⟨by show 0 ≤ z.toInt; omega, by show z.toInt ≤ 940; omega⟩ (by show -2147483648 ≤ z.toInt; omega)) hN
theorem zl_17 (B : zB E) (A : zA E gJ1) (A2 : zA E gjl) (hR : zRm E oM oT ax am ao) (F : zFx E oX oM oO oT ax am ao) (hLS : E.2.2.1 ≤ 3072) {i z : Int32} {ws : va_W} {ce sl : Nat} {K : gK} (G : (0 ≤ i.toInt ∧ i.toInt + 6 ≤ (E.2.2.1 : Int)) ∧ (0 ≤ z.toInt ∧ z.toInt ≤ 940) ∧ zWl E oM oT z ws ∧ ce + 1 ≤ 601024 ∧ sl + 6 ≤ 7293034)  (hN : ∀ (ws2 : va_W) (z2 : Int32), zWl E oM oT z2 ws2 → zGl E 23 (zlv E ax am ao (i + 6)) [] ws2 (ce + 0) (sl + 0) K) : zGl E 812 (zlv E ax am ao i) [] ws ce sl K := by
  have g2 := G.2.1
  have r4 := zρ_r (E := E) i z 1 (by decide)
  have r4 : -2147483648 ≤ zρ E i z 4 ∧ zρ E i z 4 ≤ 2147483647 := r4
  exact z_case (c4 := zany) (c9 := (.ofNat 0, .ofNat 940, (0, .negSucc 2147483647), 0, 0)) (rm := (0, 0)) (v := (.inl (.inl (9, .ofNat 0)))) B A (zP_cons rfl (zF_cons (zc_167_0 B A) zF_nil) (zP_cons rfl (zF_cons (zc_282_0 B A) zF_nil) zP_nil)) lw_17 rfl F hLS G (cOk_i rfl ⟨by show Int.negSucc 2147483647 ≤ zρ E i z 4; omega, by show zρ E i z 4 ≤ 2147483647; omega⟩ r4.1) (cOk_i rfl ⟨by show 0 ≤ z.toInt; omega, by show z.toInt ≤ 940; omega⟩ (by show -2147483648 ≤ z.toInt; omega)) hN
theorem zl_18 (B : zB E) (A : zA E gJ1) (A2 : zA E gjl) (hR : zRm E oM oT ax am ao) (F : zFx E oX oM oO oT ax am ao) (hLS : E.2.2.1 ≤ 3072) {i z : Int32} {ws : va_W} {ce sl : Nat} {K : gK} (G : (0 ≤ i.toInt ∧ i.toInt + 6 ≤ (E.2.2.1 : Int)) ∧ (0 ≤ z.toInt ∧ z.toInt ≤ 940) ∧ zWl E oM oT z ws ∧ ce + 1 ≤ 601024 ∧ sl + 6 ≤ 7293034)  (hN : ∀ (ws2 : va_W) (z2 : Int32), zWl E oM oT z2 ws2 → zGl E 23 (zlv E ax am ao (i + 6)) [] ws2 (ce + 0) (sl + 0) K) : zGl E 825 (zlv E ax am ao i) [] ws ce sl K := by
  have g2 := G.2.1
  have r4 := zρ_r (E := E) i z 1 (by decide)
  have r4 : -2147483648 ≤ zρ E i z 4 ∧ zρ E i z 4 ≤ 2147483647 := r4
  exact z_case (c4 := zany) (c9 := (.ofNat 0, .ofNat 940, (0, .negSucc 2147483647), 0, 0)) (rm := (0, 0)) (v := (.inl (.inl (9, .ofNat 0)))) B A (zP_cons rfl (zF_cons (zc_170_0 B A) zF_nil) (zP_cons rfl (zF_cons (zc_286_0 B A) zF_nil) zP_nil)) lw_18 rfl F hLS G (cOk_i rfl ⟨by show Int.negSucc 2147483647 ≤ zρ E i z 4; omega, by show zρ E i z 4 ≤ 2147483647; omega⟩ r4.1) (cOk_i rfl ⟨by show 0 ≤ z.toInt; omega, by show z.toInt ≤ 940; omega⟩ (by show -2147483648 ≤ z.toInt; omega)) hN
theorem zl_19 (B : zB E) (A : zA E gJ1) (A2 : zA E gjl) (hR : zRm E oM oT ax am ao) (F : zFx E oX oM oO oT ax am ao) (hLS : E.2.2.1 ≤ 3072) {i z : Int32} {ws : va_W} {ce sl : Nat} {K : gK} (G : (0 ≤ i.toInt ∧ i.toInt + 6 ≤ (E.2.2.1 : Int)) ∧ (0 ≤ z.toInt ∧ z.toInt ≤ 940) ∧ zWl E oM oT z ws ∧ ce + 1 ≤ 601024 ∧ sl + 6 ≤ 7293034)  (hN : ∀ (ws2 : va_W) (z2 : Int32), zWl E oM oT z2 ws2 → zGl E 23 (zlv E ax am ao (i + 6)) [] ws2 (ce + 0) (sl + 0) K) : zGl E 862 (zlv E ax am ao i) [] ws ce sl K := by
  have g2 := G.2.1
  have r4 := zρ_r (E := E) i z 1 (by decide)
  have r4 : -2147483648 ≤ zρ E i z 4 ∧ zρ E i z 4 ≤ 2147483647 := r4
  exact z_case (c4 := zany) (c9 := (.ofNat 0, .ofNat 940, (0, .negSucc 2147483647), 0, 0)) (rm := (0, 0)) (v := (.inl (.inl (9, .ofNat 0)))) B A (zP_cons rfl (zF_cons (zc_164_0 B A) zF_nil) zP_nil) lw_19 rfl F hLS G (cOk_i rfl ⟨by show Int.negSucc 2147483647 ≤ zρ E i z 4; omega, by show zρ E i z 4 ≤ 2147483647; omega⟩ r4.1) (cOk_i rfl ⟨by show 0 ≤ z.toInt; omega, by show z.toInt ≤ 940; omega⟩ (by show -2147483648 ≤ z.toInt; omega)) hN
theorem zl_20 (B : zB E) (A : zA E gJ1) (A2 : zA E gjl) (hR : zRm E oM oT ax am ao) (F : zFx E oX oM oO oT ax am ao) (hLS : E.2.2.1 ≤ 3072) {i z : Int32} {ws : va_W} {ce sl : Nat} {K : gK} (G : (0 ≤ i.toInt ∧ i.toInt + 6 ≤ (E.2.2.1 : Int)) ∧ (0 ≤ z.toInt ∧ z.toInt ≤ 940) ∧ zWl E oM oT z ws ∧ ce + 1 ≤ 601024 ∧ sl + 6 ≤ 7293034)  (hN : ∀ (ws2 : va_W) (z2 : Int32), zWl E oM oT z2 ws2 → zGl E 23 (zlv E ax am ao (i + 6)) [] ws2 (ce + 0) (sl + 0) K) : zGl E 887 (zlv E ax am ao i) [] ws ce sl K := by
  have g2 := G.2.1
  have r4 := zρ_r (E := E) i z 1 (by decide)
  have r4 : -2147483648 ≤ zρ E i z 4 ∧ zρ E i z 4 ≤ 2147483647 := r4
  exact z_case (c4 := zany) (c9 := (.ofNat 0, .ofNat 940, (0, .negSucc 2147483647), 0, 0)) (rm := (0, 0)) (v := (.inl (.inl (9, .ofNat 0)))) B A (zP_cons rfl (zF_cons (zc_114_0 B A) zF_nil) (zP_cons rfl (zF_cons (zc_179_0 B A) zF_nil) zP_nil)) lw_20 rfl F hLS G (cOk_i rfl ⟨by show Int.negSucc 2147483647 ≤ zρ E i z 4; omega, by show zρ E i z 4 ≤ 2147483647; omega⟩ r4.1) (cOk_i rfl ⟨by show 0 ≤ z.toInt; omega, by show z.toInt ≤ 940; omega⟩ (by show -2147483648 ≤ z.toInt; omega)) hN
theorem zl_21 (B : zB E) (A : zA E gJ1) (A2 : zA E gjl) (hR : zRm E oM oT ax am ao) (F : zFx E oX oM oO oT ax am ao) (hLS : E.2.2.1 ≤ 3072) {i z : Int32} {ws : va_W} {ce sl : Nat} {K : gK} (G : (0 ≤ i.toInt ∧ i.toInt + 6 ≤ (E.2.2.1 : Int)) ∧ (0 ≤ z.toInt ∧ z.toInt ≤ 940) ∧ zWl E oM oT z ws ∧ ce + 1 ≤ 601024 ∧ sl + 6 ≤ 7293034)  (hN : ∀ (ws2 : va_W) (z2 : Int32), zWl E oM oT z2 ws2 → zGl E 23 (zlv E ax am ao (i + 6)) [] ws2 (ce + 0) (sl + 0) K) : zGl E 912 (zlv E ax am ao i) [] ws ce sl K := by
  have g2 := G.2.1
  have r4 := zρ_r (E := E) i z 1 (by decide)
  have r4 : -2147483648 ≤ zρ E i z 4 ∧ zρ E i z 4 ≤ 2147483647 := r4
  exact z_case (c4 := zany) (c9 := (.ofNat 0, .ofNat 940, (0, .negSucc 2147483647), 0, 0)) (rm := (0, 0)) (v := (.inl (.inl (9, .ofNat 0)))) B A (zP_cons rfl (zF_cons (zc_113_0 B A) zF_nil) (zP_cons rfl (zF_cons (zc_176_0 B A) zF_nil) zP_nil)) lw_21 rfl F hLS G (cOk_i rfl ⟨by show Int.negSucc 2147483647 ≤ zρ E i z 4; omega, by show zρ E i z 4 ≤ 2147483647; omega⟩ r4.1) (cOk_i rfl ⟨by show 0 ≤ z.toInt; omega, by show z.toInt ≤ 940; omega⟩ (by show -2147483648 ≤ z.toInt; omega)) hN
theorem zl_22 (B : zB E) (A : zA E gJ1) (A2 : zA E gjl) (hR : zRm E oM oT ax am ao) (F : zFx E oX oM oO oT ax am ao) (hLS : E.2.2.1 ≤ 3072) {i z : Int32} {ws : va_W} {ce sl : Nat} {K : gK} (G : (0 ≤ i.toInt ∧ i.toInt + 6 ≤ (E.2.2.1 : Int)) ∧ (0 ≤ z.toInt ∧ z.toInt ≤ 940) ∧ zWl E oM oT z ws ∧ ce + 1 ≤ 601024 ∧ sl + 6 ≤ 7293034)  (hN : ∀ (ws2 : va_W) (z2 : Int32), zWl E oM oT z2 ws2 → zGl E 23 (zlv E ax am ao (i + 6)) [] ws2 (ce + 0) (sl + 0) K) : zGl E 949 (zlv E ax am ao i) [] ws ce sl K := by
  have g2 := G.2.1
  have r4 := zρ_r (E := E) i z 1 (by decide)
  have r4 : -2147483648 ≤ zρ E i z 4 ∧ zρ E i z 4 ≤ 2147483647 := r4
  exact z_case (c4 := zany) (c9 := (.ofNat 0, .ofNat 940, (0, .negSucc 2147483647), 0, 0)) (rm := (0, 0)) (v := (.inl (.inl (9, .ofNat 0)))) B A (zP_cons rfl (zF_cons (zc_112_0 B A) zF_nil) zP_nil) lw_22 rfl F hLS G (cOk_i rfl ⟨by show Int.negSucc 2147483647 ≤ zρ E i z 4; omega, by show zρ E i z 4 ≤ 2147483647; omega⟩ r4.1) (cOk_i rfl ⟨by show 0 ≤ z.toInt; omega, by show z.toInt ≤ 940; omega⟩ (by show -2147483648 ≤ z.toInt; omega)) hN
theorem zl_23 (B : zB E) (A : zA E gJ1) (A2 : zA E gjl) (hR : zRm E oM oT ax am ao) (F : zFx E oX oM oO oT ax am ao) (hLS : E.2.2.1 ≤ 3072) {i z : Int32} {ws : va_W} {ce sl : Nat} {K : gK} (G : (0 ≤ i.toInt ∧ i.toInt + 6 ≤ (E.2.2.1 : Int)) ∧ (0 ≤ z.toInt ∧ z.toInt ≤ 940) ∧ zWl E oM oT z ws ∧ ce + 1 ≤ 601024 ∧ sl + 6 ≤ 7293034)  (hN : ∀ (ws2 : va_W) (z2 : Int32), zWl E oM oT z2 ws2 → zGl E 23 (zlv E ax am ao (i + 6)) [] ws2 (ce + 0) (sl + 0) K) : zGl E 962 (zlv E ax am ao i) [] ws ce sl K := by
  have g2 := G.2.1
  have r4 := zρ_r (E := E) i z 1 (by decide)
  have r4 : -2147483648 ≤ zρ E i z 4 ∧ zρ E i z 4 ≤ 2147483647 := r4
  exact z_case (c4 := zany) (c9 := (.ofNat 0, .ofNat 940, (0, .negSucc 2147483647), 0, 0)) (rm := (0, 0)) (v := (.inl (.inl (9, .ofNat 0)))) B A (zP_cons rfl (zF_cons (zc_166_0 B A) zF_nil) (zP_cons rfl (zF_cons (zc_279_0 B A) zF_nil) zP_nil)) lw_23 rfl F hLS G (cOk_i rfl ⟨by show Int.negSucc 2147483647 ≤ zρ E i z 4; omega, by show zρ E i z 4 ≤ 2147483647; omega⟩ r4.1) (cOk_i rfl ⟨by show 0 ≤ z.toInt; omega, by show z.toInt ≤ 940; omega⟩ (by show -2147483648 ≤ z.toInt; omega)) hN
theorem zl_24 (B : zB E) (A : zA E gJ1) (A2 : zA E gjl) (hR : zRm E oM oT ax am ao) (F : zFx E oX oM oO oT ax am ao) (hLS : E.2.2.1 ≤ 3072) {i z : Int32} {ws : va_W} {ce sl : Nat} {K : gK} (G : (0 ≤ i.toInt ∧ i.toInt + 6 ≤ (E.2.2.1 : Int)) ∧ (0 ≤ z.toInt ∧ z.toInt ≤ 940) ∧ zWl E oM oT z ws ∧ ce + 1 ≤ 601024 ∧ sl + 6 ≤ 7293034)  (hN : ∀ (ws2 : va_W) (z2 : Int32), zWl E oM oT z2 ws2 → zGl E 23 (zlv E ax am ao (i + 6)) [] ws2 (ce + 0) (sl + 0) K) : zGl E 999 (zlv E ax am ao i) [] ws ce sl K := by
  have g2 := G.2.1
  have r4 := zρ_r (E := E) i z 1 (by decide)
  have r4 : -2147483648 ≤ zρ E i z 4 ∧ zρ E i z 4 ≤ 2147483647 := r4
  exact z_case (c4 := zany) (c9 := (.ofNat 0, .ofNat 940, (0, .negSucc 2147483647), 0, 0)) (rm := (0, 0)) (v := (.inl (.inl (9, .ofNat 0)))) B A (zP_cons rfl (zF_cons (zc_129_0 B A) zF_nil) (zP_cons rfl (zF_cons (zc_208_0 B A) zF_nil) zP_nil)) lw_24 rfl F hLS G (cOk_i rfl ⟨by show Int.negSucc 2147483647 ≤ zρ E i z 4; omega, by show zρ E i z 4 ≤ 2147483647; omega⟩ r4.1) (cOk_i rfl ⟨by show 0 ≤ z.toInt; omega, by show z.toInt ≤ 940; omega⟩ (by show -2147483648 ≤ z.toInt; omega)) hN
theorem zl_25 (B : zB E) (A : zA E gJ1) (A2 : zA E gjl) (hR : zRm E oM oT ax am ao) (F : zFx E oX oM oO oT ax am ao) (hLS : E.2.2.1 ≤ 3072) {i z : Int32} {ws : va_W} {ce sl : Nat} {K : gK} (G : (0 ≤ i.toInt ∧ i.toInt + 6 ≤ (E.2.2.1 : Int)) ∧ (0 ≤ z.toInt ∧ z.toInt ≤ 940) ∧ zWl E oM oT z ws ∧ ce + 1 ≤ 601024 ∧ sl + 6 ≤ 7293034)  (hN : ∀ (ws2 : va_W) (z2 : Int32), zWl E oM oT z2 ws2 → zGl E 23 (zlv E ax am ao (i + 6)) [] ws2 (ce + 0) (sl + 0) K) : zGl E 1024 (zlv E ax am ao i) [] ws ce sl K := by
  have g2 := G.2.1
  have r4 := zρ_r (E := E) i z 1 (by decide)
  have r4 : -2147483648 ≤ zρ E i z 4 ∧ zρ E i z 4 ≤ 2147483647 := r4
  exact z_case (c4 := zany) (c9 := (.ofNat 0, .ofNat 940, (0, .negSucc 2147483647), 0, 0)) (rm := (0, 0)) (v := (.inl (.inl (9, .ofNat 0)))) B A (zP_cons rfl (zF_cons (zc_163_0 B A) zF_nil) (zP_cons rfl (zF_cons (zc_189_0 B A) zF_nil) zP_nil)) lw_25 rfl F hLS G (cOk_i rfl ⟨by show Int.negSucc 2147483647 ≤ zρ E i z 4; omega, by show zρ E i z 4 ≤ 2147483647; omega⟩ r4.1) (cOk_i rfl ⟨by show 0 ≤ z.toInt; omega, by show z.toInt ≤ 940; omega⟩ (by show -2147483648 ≤ z.toInt; omega)) hN
theorem zl_26 (B : zB E) (A : zA E gJ1) (A2 : zA E gjl) (hR : zRm E oM oT ax am ao) (F : zFx E oX oM oO oT ax am ao) (hLS : E.2.2.1 ≤ 3072) {i z : Int32} {ws : va_W} {ce sl : Nat} {K : gK} (G : (0 ≤ i.toInt ∧ i.toInt + 6 ≤ (E.2.2.1 : Int)) ∧ (0 ≤ z.toInt ∧ z.toInt ≤ 940) ∧ zWl E oM oT z ws ∧ ce + 1 ≤ 601024 ∧ sl + 6 ≤ 7293034)  (hN : ∀ (ws2 : va_W) (z2 : Int32), zWl E oM oT z2 ws2 → zGl E 23 (zlv E ax am ao (i + 6)) [] ws2 (ce + 0) (sl + 0) K) : zGl E 1049 (zlv E ax am ao i) [] ws ce sl K := by
  have g2 := G.2.1
  have r4 := zρ_r (E := E) i z 1 (by decide)
  have r4 : -2147483648 ≤ zρ E i z 4 ∧ zρ E i z 4 ≤ 2147483647 := r4
  exact z_case (c4 := zany) (c9 := (.ofNat 0, .ofNat 940, (0, .negSucc 2147483647), 0, 0)) (rm := (0, 0)) (v := (.inl (.inl (9, .ofNat 0)))) B A (zP_cons rfl (zF_cons (zc_122_0 B A) zF_nil) (zP_cons rfl (zF_cons (zc_196 B) zF_nil) zP_nil)) lw_26 rfl F hLS G (cOk_i rfl ⟨by show Int.negSucc 2147483647 ≤ zρ E i z 4; omega, by show zρ E i z 4 ≤ 2147483647; omega⟩ r4.1) (cOk_i rfl ⟨by show 0 ≤ z.toInt; omega, by show z.toInt ≤ 940; omega⟩ (by show -2147483648 ≤ z.toInt; omega)) hN
theorem zl_27 (B : zB E) (A : zA E gJ1) (A2 : zA E gjl) (hR : zRm E oM oT ax am ao) (F : zFx E oX oM oO oT ax am ao) (hLS : E.2.2.1 ≤ 3072) {i z : Int32} {ws : va_W} {ce sl : Nat} {K : gK} (G : (0 ≤ i.toInt ∧ i.toInt + 6 ≤ (E.2.2.1 : Int)) ∧ (0 ≤ z.toInt ∧ z.toInt ≤ 940) ∧ zWl E oM oT z ws ∧ ce + 1 ≤ 601024 ∧ sl + 6 ≤ 7293034)  (hN : ∀ (ws2 : va_W) (z2 : Int32), zWl E oM oT z2 ws2 → zGl E 23 (zlv E ax am ao (i + 6)) [] ws2 (ce + 0) (sl + 0) K) : zGl E 1074 (zlv E ax am ao i) [] ws ce sl K := by
  have g2 := G.2.1
  have r4 := zρ_r (E := E) i z 1 (by decide)
  have r4 : -2147483648 ≤ zρ E i z 4 ∧ zρ E i z 4 ≤ 2147483647 := r4
  exact z_case (c4 := zany) (c9 := (.ofNat 0, .ofNat 940, (0, .negSucc 2147483647), 0, 0)) (rm := (0, 0)) (v := (.inl (.inl (9, .ofNat 0)))) B A (zP_cons rfl (zF_cons (zc_126_0 B A) zF_nil) (zP_cons rfl (zF_cons (zc_204 B) zF_nil) zP_nil)) lw_27 rfl F hLS G (cOk_i rfl ⟨by show Int.negSucc 2147483647 ≤ zρ E i z 4; omega, by show zρ E i z 4 ≤ 2147483647; omega⟩ r4.1) (cOk_i rfl ⟨by show 0 ≤ z.toInt; omega, by show z.toInt ≤ 940; omega⟩ (by show -2147483648 ≤ z.toInt; omega)) hN
theorem zl_28 (B : zB E) (A : zA E gJ1) (A2 : zA E gjl) (hR : zRm E oM oT ax am ao) (F : zFx E oX oM oO oT ax am ao) (hLS : E.2.2.1 ≤ 3072) {i z : Int32} {ws : va_W} {ce sl : Nat} {K : gK} (G : (0 ≤ i.toInt ∧ i.toInt + 6 ≤ (E.2.2.1 : Int)) ∧ (0 ≤ z.toInt ∧ z.toInt ≤ 940) ∧ zWl E oM oT z ws ∧ ce + 1 ≤ 601024 ∧ sl + 6 ≤ 7293034)  (hN : ∀ (ws2 : va_W) (z2 : Int32), zWl E oM oT z2 ws2 → zGl E 23 (zlv E ax am ao (i + 6)) [] ws2 (ce + 0) (sl + 0) K) : zGl E 1099 (zlv E ax am ao i) [] ws ce sl K := by
  have g2 := G.2.1
  have r4 := zρ_r (E := E) i z 1 (by decide)
  have r4 : -2147483648 ≤ zρ E i z 4 ∧ zρ E i z 4 ≤ 2147483647 := r4
  exact z_case (c4 := zany) (c9 := (.ofNat 0, .ofNat 940, (0, .negSucc 2147483647), 0, 0)) (rm := (0, 0)) (v := (.inl (.inl (9, .ofNat 0)))) B A (zP_cons rfl (zF_cons (zc_156_0 B A) zF_nil) (zP_cons rfl (zF_cons (zc_204 B) zF_nil) zP_nil)) lw_28 rfl F hLS G (cOk_i rfl ⟨by show Int.negSucc 2147483647 ≤ zρ E i z 4; omega, by show zρ E i z 4 ≤ 2147483647; omega⟩ r4.1) (cOk_i rfl ⟨by show 0 ≤ z.toInt; omega, by show z.toInt ≤ 940; omega⟩ (by show -2147483648 ≤ z.toInt; omega)) hN
theorem zl_29 (B : zB E) (A : zA E gJ1) (A2 : zA E gjl) (hR : zRm E oM oT ax am ao) (F : zFx E oX oM oO oT ax am ao) (hLS : E.2.2.1 ≤ 3072) {i z : Int32} {ws : va_W} {ce sl : Nat} {K : gK} (G : (0 ≤ i.toInt ∧ i.toInt + 6 ≤ (E.2.2.1 : Int)) ∧ (0 ≤ z.toInt ∧ z.toInt ≤ 940) ∧ zWl E oM oT z ws ∧ ce + 1 ≤ 601024 ∧ sl + 6 ≤ 7293034)  (hN : ∀ (ws2 : va_W) (z2 : Int32), zWl E oM oT z2 ws2 → zGl E 23 (zlv E ax am ao (i + 6)) [] ws2 (ce + 0) (sl + 0) K) : zGl E 1112 (zlv E ax am ao i) [] ws ce sl K := by
  have g2 := G.2.1
  have r4 := zρ_r (E := E) i z 1 (by decide)
  have r4 : -2147483648 ≤ zρ E i z 4 ∧ zρ E i z 4 ≤ 2147483647 := r4
  exact z_case (c4 := zany) (c9 := (.ofNat 0, .ofNat 940, (0, .negSucc 2147483647), 0, 0)) (rm := (0, 0)) (v := (.inl (.inl (9, .ofNat 0)))) B A (zP_cons rfl (zF_cons (zc_154_0 B A) zF_nil) (zP_cons rfl (zF_cons (zc_256_0 B A) zF_nil) zP_nil)) lw_29 rfl F hLS G (cOk_i rfl ⟨by show Int.negSucc 2147483647 ≤ zρ E i z 4; omega, by show zρ E i z 4 ≤ 2147483647; omega⟩ r4.1) (cOk_i rfl ⟨by show 0 ≤ z.toInt; omega, by show z.toInt ≤ 940; omega⟩ (by show -2147483648 ≤ z.toInt; omega)) hN
theorem zl_30 (B : zB E) (A : zA E gJ1) (A2 : zA E gjl) (hR : zRm E oM oT ax am ao) (F : zFx E oX oM oO oT ax am ao) (hLS : E.2.2.1 ≤ 3072) {i z : Int32} {ws : va_W} {ce sl : Nat} {K : gK} (G : (0 ≤ i.toInt ∧ i.toInt + 6 ≤ (E.2.2.1 : Int)) ∧ (0 ≤ z.toInt ∧ z.toInt ≤ 940) ∧ zWl E oM oT z ws ∧ ce + 1 ≤ 601024 ∧ sl + 6 ≤ 7293034)  (hN : ∀ (ws2 : va_W) (z2 : Int32), zWl E oM oT z2 ws2 → zGl E 23 (zlv E ax am ao (i + 6)) [] ws2 (ce + 0) (sl + 0) K) : zGl E 1125 (zlv E ax am ao i) [] ws ce sl K := by
  have g2 := G.2.1
  have r4 := zρ_r (E := E) i z 1 (by decide)
  have r4 : -2147483648 ≤ zρ E i z 4 ∧ zρ E i z 4 ≤ 2147483647 := r4
  exact z_case (c4 := zany) (c9 := (.ofNat 0, .ofNat 940, (0, .negSucc 2147483647), 0, 0)) (rm := (0, 0)) (v := (.inl (.inl (9, .ofNat 0)))) B A (zP_cons rfl (zF_cons (zc_153_0 B A) zF_nil) zP_nil) lw_30 rfl F hLS G (cOk_i rfl ⟨by show Int.negSucc 2147483647 ≤ zρ E i z 4; omega, by show zρ E i z 4 ≤ 2147483647; omega⟩ r4.1) (cOk_i rfl ⟨by show 0 ≤ z.toInt; omega, by show z.toInt ≤ 940; omega⟩ (by show -2147483648 ≤ z.toInt; omega)) hN
theorem zl_31 (B : zB E) (A : zA E gJ1) (A2 : zA E gjl) (hR : zRm E oM oT ax am ao) (F : zFx E oX oM oO oT ax am ao) (hLS : E.2.2.1 ≤ 3072) {i z : Int32} {ws : va_W} {ce sl : Nat} {K : gK} (G : (0 ≤ i.toInt ∧ i.toInt + 6 ≤ (E.2.2.1 : Int)) ∧ (0 ≤ z.toInt ∧ z.toInt ≤ 940) ∧ zWl E oM oT z ws ∧ ce + 1 ≤ 601024 ∧ sl + 6 ≤ 7293034)  (hN : ∀ (ws2 : va_W) (z2 : Int32), zWl E oM oT z2 ws2 → zGl E 23 (zlv E ax am ao (i + 6)) [] ws2 (ce + 0) (sl + 0) K) : zGl E 1150 (zlv E ax am ao i) [] ws ce sl K := by
  have g2 := G.2.1
  have r4 := zρ_r (E := E) i z 1 (by decide)
  have r4 : -2147483648 ≤ zρ E i z 4 ∧ zρ E i z 4 ≤ 2147483647 := r4
  exact z_case (c4 := zany) (c9 := (.ofNat 0, .ofNat 940, (0, .negSucc 2147483647), 0, 0)) (rm := (0, 0)) (v := (.inl (.inl (9, .ofNat 0)))) B A (zP_cons rfl (zF_cons (zc_169_0 B A) zF_nil) zP_nil) lw_31 rfl F hLS G (cOk_i rfl ⟨by show Int.negSucc 2147483647 ≤ zρ E i z 4; omega, by show zρ E i z 4 ≤ 2147483647; omega⟩ r4.1) (cOk_i rfl ⟨by show 0 ≤ z.toInt; omega, by show z.toInt ≤ 940; omega⟩ (by show -2147483648 ≤ z.toInt; omega)) hN
theorem zl_32 (B : zB E) (A : zA E gJ1) (A2 : zA E gjl) (hR : zRm E oM oT ax am ao) (F : zFx E oX oM oO oT ax am ao) (hLS : E.2.2.1 ≤ 3072) {i z : Int32} {ws : va_W} {ce sl : Nat} {K : gK} (G : (0 ≤ i.toInt ∧ i.toInt + 6 ≤ (E.2.2.1 : Int)) ∧ (0 ≤ z.toInt ∧ z.toInt ≤ 940) ∧ zWl E oM oT z ws ∧ ce + 1 ≤ 601024 ∧ sl + 6 ≤ 7293034)  (hN : ∀ (ws2 : va_W) (z2 : Int32), zWl E oM oT z2 ws2 → zGl E 23 (zlv E ax am ao (i + 6)) [] ws2 (ce + 0) (sl + 0) K) : zGl E 1175 (zlv E ax am ao i) [] ws ce sl K := by
  have g2 := G.2.1
  have r4 := zρ_r (E := E) i z 1 (by decide)
  have r4 : -2147483648 ≤ zρ E i z 4 ∧ zρ E i z 4 ≤ 2147483647 := r4
  exact z_case (c4 := zany) (c9 := (.ofNat 0, .ofNat 940, (0, .negSucc 2147483647), 0, 0)) (rm := (0, 0)) (v := (.inr (.inl (.ofNat 0, .ofNat 0), 0, .negSucc 2147483647))) B A (zP_cons rfl (zF_cons (zc_142_0 B A) zF_nil) (zP_cons rfl (zF_cons (zc_171_0 B A) zF_nil) (zP_cons rfl (zF_cons (zw_283 B A.2.1) zF_nil) zP_nil))) lw_32 rfl F hLS G (cOk_i rfl ⟨by show Int.negSucc 2147483647 ≤ zρ E i z 4; omega, by show zρ E i z 4 ≤ 2147483647; omega⟩ r4.1) (cOk_i rfl ⟨by show 0 ≤ z.toInt; omega, by show z.toInt ≤ 940; omega⟩ (by show -2147483648 ≤ z.toInt; omega)) hN
theorem zl_33 (B : zB E) (A : zA E gJ1) (A2 : zA E gjl) (hR : zRm E oM oT ax am ao) (F : zFx E oX oM oO oT ax am ao) (hLS : E.2.2.1 ≤ 3072) {i z : Int32} {ws : va_W} {ce sl : Nat} {K : gK} (G : (0 ≤ i.toInt ∧ i.toInt + 6 ≤ (E.2.2.1 : Int)) ∧ (0 ≤ z.toInt ∧ z.toInt ≤ 940) ∧ zWl E oM oT z ws ∧ ce + 1 ≤ 601024 ∧ sl + 6 ≤ 7293034)  (hN : ∀ (ws2 : va_W) (z2 : Int32), zWl E oM oT z2 ws2 → zGl E 23 (zlv E ax am ao (i + 6)) [] ws2 (ce + 0) (sl + 0) K) : zGl E 1188 (zlv E ax am ao i) [] ws ce sl K := by
  have g2 := G.2.1
  have r4 := zρ_r (E := E) i z 1 (by decide)
  have r4 : -2147483648 ≤ zρ E i z 4 ∧ zρ E i z 4 ≤ 2147483647 := r4
  exact z_case (c4 := zany) (c9 := (.ofNat 0, .ofNat 940, (0, .negSucc 2147483647), 0, 0)) (rm := (0, 0)) (v := (.inr (.inl (.ofNat 0, .ofNat 0), 0, .negSucc 2147483647))) B A (zP_cons rfl (zF_cons (zc_158_0 B A) zF_nil) (zP_cons rfl (zF_cons (zw_194 B A) zF_nil) zP_nil)) lw_33 rfl F hLS G (cOk_i rfl ⟨by show Int.negSucc 2147483647 ≤ zρ E i z 4; omega, by show zρ E i z 4 ≤ 2147483647; omega⟩ r4.1) (cOk_i rfl ⟨by show 0 ≤ z.toInt; omega, by show z.toInt ≤ 940; omega⟩ (by show -2147483648 ≤ z.toInt; omega)) hN
theorem zl_34 (B : zB E) (A : zA E gJ1) (A2 : zA E gjl) (hR : zRm E oM oT ax am ao) (F : zFx E oX oM oO oT ax am ao) (hLS : E.2.2.1 ≤ 3072) {i z : Int32} {ws : va_W} {ce sl : Nat} {K : gK} (G : (0 ≤ i.toInt ∧ i.toInt + 6 ≤ (E.2.2.1 : Int)) ∧ (0 ≤ z.toInt ∧ z.toInt ≤ 940) ∧ zWl E oM oT z ws ∧ ce + 1 ≤ 601024 ∧ sl + 6 ≤ 7293034)  (hN : ∀ (ws2 : va_W) (z2 : Int32), zWl E oM oT z2 ws2 → zGl E 23 (zlv E ax am ao (i + 6)) [] ws2 (ce + 0) (sl + 0) K) : zGl E 1213 (zlv E ax am ao i) [] ws ce sl K := by
  have g2 := G.2.1
  have r4 := zρ_r (E := E) i z 1 (by decide)
  have r4 : -2147483648 ≤ zρ E i z 4 ∧ zρ E i z 4 ≤ 2147483647 := r4
  exact z_case (c4 := zany) (c9 := (.ofNat 0, .ofNat 940, (0, .negSucc 2147483647), 0, 0)) (rm := (0, 0)) (v := (.inl (.inl (9, .ofNat 0)))) B A (zP_cons rfl (zF_cons (zc_133_0 B A) zF_nil) (zP_cons rfl (zF_cons (zc_216 B) zF_nil) zP_nil)) lw_34 rfl F hLS G (cOk_i rfl ⟨by show Int.negSucc 2147483647 ≤ zρ E i z 4; omega, by show zρ E i z 4 ≤ 2147483647; omega⟩ r4.1) (cOk_i rfl ⟨by show 0 ≤ z.toInt; omega, by show z.toInt ≤ 940; omega⟩ (by show -2147483648 ≤ z.toInt; omega)) hN
theorem zl_35 (B : zB E) (A : zA E gJ1) (A2 : zA E gjl) (hR : zRm E oM oT ax am ao) (F : zFx E oX oM oO oT ax am ao) (hLS : E.2.2.1 ≤ 3072) {i z : Int32} {ws : va_W} {ce sl : Nat} {K : gK} (G : (0 ≤ i.toInt ∧ i.toInt + 6 ≤ (E.2.2.1 : Int)) ∧ (0 ≤ z.toInt ∧ z.toInt ≤ 940) ∧ zWl E oM oT z ws ∧ ce + 1 ≤ 601024 ∧ sl + 6 ≤ 7293034)  (hN : ∀ (ws2 : va_W) (z2 : Int32), zWl E oM oT z2 ws2 → zGl E 23 (zlv E ax am ao (i + 6)) [] ws2 (ce + 0) (sl + 0) K) : zGl E 1238 (zlv E ax am ao i) [] ws ce sl K := by
  have g2 := G.2.1
  have r4 := zρ_r (E := E) i z 1 (by decide)
  have r4 : -2147483648 ≤ zρ E i z 4 ∧ zρ E i z 4 ≤ 2147483647 := r4
  exact z_case (c4 := zany) (c9 := (.ofNat 0, .ofNat 940, (0, .negSucc 2147483647), 0, 0)) (rm := (0, 0)) (v := (.inl (.inl (9, .ofNat 0)))) B A (zP_cons rfl (zF_cons (zc_131_0 B A) zF_nil) (zP_cons rfl (zF_cons (zc_213_0 B A) zF_nil) zP_nil)) lw_35 rfl F hLS G (cOk_i rfl ⟨by show Int.negSucc 2147483647 ≤ zρ E i z 4; omega, by show zρ E i z 4 ≤ 2147483647; omega⟩ r4.1) (cOk_i rfl ⟨by show 0 ≤ z.toInt; omega, by show z.toInt ≤ 940; omega⟩ (by show -2147483648 ≤ z.toInt; omega)) hN
theorem zl_36 (B : zB E) (A : zA E gJ1) (A2 : zA E gjl) (hR : zRm E oM oT ax am ao) (F : zFx E oX oM oO oT ax am ao) (hLS : E.2.2.1 ≤ 3072) {i z : Int32} {ws : va_W} {ce sl : Nat} {K : gK} (G : (0 ≤ i.toInt ∧ i.toInt + 6 ≤ (E.2.2.1 : Int)) ∧ (0 ≤ z.toInt ∧ z.toInt ≤ 940) ∧ zWl E oM oT z ws ∧ ce + 1 ≤ 601024 ∧ sl + 6 ≤ 7293034)  (hN : ∀ (ws2 : va_W) (z2 : Int32), zWl E oM oT z2 ws2 → zGl E 23 (zlv E ax am ao (i + 6)) [] ws2 (ce + 0) (sl + 0) K) : zGl E 1263 (zlv E ax am ao i) [] ws ce sl K := by
  have g2 := G.2.1
  have r4 := zρ_r (E := E) i z 1 (by decide)
  have r4 : -2147483648 ≤ zρ E i z 4 ∧ zρ E i z 4 ≤ 2147483647 := r4
  exact z_case (c4 := zany) (c9 := (.ofNat 0, .ofNat 940, (0, .negSucc 2147483647), 0, 0)) (rm := (0, 0)) (v := (.inl (.inl (9, .ofNat 0)))) B A (zP_cons rfl (zF_cons (zc_148_0 B A) zF_nil) (zP_cons rfl (zF_cons (zc_242_0 B A) zF_nil) zP_nil)) lw_36 rfl F hLS G (cOk_i rfl ⟨by show Int.negSucc 2147483647 ≤ zρ E i z 4; omega, by show zρ E i z 4 ≤ 2147483647; omega⟩ r4.1) (cOk_i rfl ⟨by show 0 ≤ z.toInt; omega, by show z.toInt ≤ 940; omega⟩ (by show -2147483648 ≤ z.toInt; omega)) hN
theorem zl_37 (B : zB E) (A : zA E gJ1) (A2 : zA E gjl) (hR : zRm E oM oT ax am ao) (F : zFx E oX oM oO oT ax am ao) (hLS : E.2.2.1 ≤ 3072) {i z : Int32} {ws : va_W} {ce sl : Nat} {K : gK} (G : (0 ≤ i.toInt ∧ i.toInt + 6 ≤ (E.2.2.1 : Int)) ∧ (0 ≤ z.toInt ∧ z.toInt ≤ 940) ∧ zWl E oM oT z ws ∧ ce + 1 ≤ 601024 ∧ sl + 6 ≤ 7293034)  (hN : ∀ (ws2 : va_W) (z2 : Int32), zWl E oM oT z2 ws2 → zGl E 23 (zlv E ax am ao (i + 6)) [] ws2 (ce + 0) (sl + 0) K) : zGl E 1276 (zlv E ax am ao i) [] ws ce sl K := by
  have g2 := G.2.1
  have r4 := zρ_r (E := E) i z 1 (by decide)
  have r4 : -2147483648 ≤ zρ E i z 4 ∧ zρ E i z 4 ≤ 2147483647 := r4
  exact z_case (c4 := zany) (c9 := (.ofNat 0, .ofNat 940, (0, .negSucc 2147483647), 0, 0)) (rm := (0, 0)) (v := (.inl (.inl (9, .ofNat 0)))) B A (zP_cons rfl (zF_cons (zc_124_0 B A) zF_nil) (zP_cons rfl (zF_cons (zc_188_0 B A) zF_nil) (zP_cons rfl (zF_cons (zc_232_0 B A) zF_nil) (zP_cons rfl (zF_cons (zc_240_0 B A) zF_nil) (zP_cons rfl (zF_cons (zc_288_0 B A) zF_nil) zP_nil))))) lw_37 rfl F hLS G (cOk_i rfl ⟨by show Int.negSucc 2147483647 ≤ zρ E i z 4; omega, by show zρ E i z 4 ≤ 2147483647; omega⟩ r4.1) (cOk_i rfl ⟨by show 0 ≤ z.toInt; omega, by show z.toInt ≤ 940; omega⟩ (by show -2147483648 ≤ z.toInt; omega)) hN
theorem zl_38 (B : zB E) (A : zA E gJ1) (A2 : zA E gjl) (hR : zRm E oM oT ax am ao) (F : zFx E oX oM oO oT ax am ao) (hLS : E.2.2.1 ≤ 3072) {i z : Int32} {ws : va_W} {ce sl : Nat} {K : gK} (G : (0 ≤ i.toInt ∧ i.toInt + 6 ≤ (E.2.2.1 : Int)) ∧ (0 ≤ z.toInt ∧ z.toInt ≤ 940) ∧ zWl E oM oT z ws ∧ ce + 1 ≤ 601024 ∧ sl + 6 ≤ 7293034)  (hN : ∀ (ws2 : va_W) (z2 : Int32), zWl E oM oT z2 ws2 → zGl E 23 (zlv E ax am ao (i + 6)) [] ws2 (ce + 0) (sl + 0) K) : zGl E 1313 (zlv E ax am ao i) [] ws ce sl K := by
  have g2 := G.2.1
  have r4 := zρ_r (E := E) i z 1 (by decide)
  have r4 : -2147483648 ≤ zρ E i z 4 ∧ zρ E i z 4 ≤ 2147483647 := r4
  exact z_case (c4 := zany) (c9 := (.ofNat 0, .ofNat 940, (0, .negSucc 2147483647), 0, 0)) (rm := (0, 0)) (v := (.inl (.inl (9, .ofNat 0)))) B A (zP_cons rfl (zF_cons (zc_150_0 B A) zF_nil) (zP_cons rfl (zF_cons (zc_246_0 B A) zF_nil) zP_nil)) lw_38 rfl F hLS G (cOk_i rfl ⟨by show Int.negSucc 2147483647 ≤ zρ E i z 4; omega, by show zρ E i z 4 ≤ 2147483647; omega⟩ r4.1) (cOk_i rfl ⟨by show 0 ≤ z.toInt; omega, by show z.toInt ≤ 940; omega⟩ (by show -2147483648 ≤ z.toInt; omega)) hN
theorem zl_40 (B : zB E) (A : zA E gJ1) (A2 : zA E gjl) (hR : zRm E oM oT ax am ao) (F : zFx E oX oM oO oT ax am ao) (hLS : E.2.2.1 ≤ 3072) {i z : Int32} {ws : va_W} {ce sl : Nat} {K : gK} (G : (0 ≤ i.toInt ∧ i.toInt + 6 ≤ (E.2.2.1 : Int)) ∧ (0 ≤ z.toInt ∧ z.toInt ≤ 940) ∧ zWl E oM oT z ws ∧ ce + 1 ≤ 601024 ∧ sl + 6 ≤ 7293034)  (hN : ∀ (ws2 : va_W) (z2 : Int32), zWl E oM oT z2 ws2 → zGl E 23 (zlv E ax am ao (i + 6)) [] ws2 (ce + 0) (sl + 0) K) : zGl E 1387 (zlv E ax am ao i) [] ws ce sl K := by
  have g2 := G.2.1
  have r4 := zρ_r (E := E) i z 1 (by decide)
  have r4 : -2147483648 ≤ zρ E i z 4 ∧ zρ E i z 4 ≤ 2147483647 := r4
  exact z_case (c4 := zany) (c9 := (.ofNat 0, .ofNat 940, (0, .negSucc 2147483647), 0, 0)) (rm := (0, 0)) (v := (.inl (.inl (9, .ofNat 0)))) B A (zP_cons rfl (zF_cons (zc_117_0 B A) zF_nil) zP_nil) lw_40 rfl F hLS G (cOk_i rfl ⟨by show Int.negSucc 2147483647 ≤ zρ E i z 4; omega, by show zρ E i z 4 ≤ 2147483647; omega⟩ r4.1) (cOk_i rfl ⟨by show 0 ≤ z.toInt; omega, by show z.toInt ≤ 940; omega⟩ (by show -2147483648 ≤ z.toInt; omega)) hN
theorem zl_42 (B : zB E) (A : zA E gJ1) (A2 : zA E gjl) (hR : zRm E oM oT ax am ao) (F : zFx E oX oM oO oT ax am ao) (hLS : E.2.2.1 ≤ 3072) {i z : Int32} {ws : va_W} {ce sl : Nat} {K : gK} (G : (0 ≤ i.toInt ∧ i.toInt + 6 ≤ (E.2.2.1 : Int)) ∧ (0 ≤ z.toInt ∧ z.toInt ≤ 940) ∧ zWl E oM oT z ws ∧ ce + 1 ≤ 601024 ∧ sl + 6 ≤ 7293034)  (hN : ∀ (ws2 : va_W) (z2 : Int32), zWl E oM oT z2 ws2 → zGl E 23 (zlv E ax am ao (i + 6)) [] ws2 (ce + 0) (sl + 0) K) : zGl E 1425 (zlv E ax am ao i) [] ws ce sl K := by
  have g2 := G.2.1
  have r4 := zρ_r (E := E) i z 1 (by decide)
  have r4 : -2147483648 ≤ zρ E i z 4 ∧ zρ E i z 4 ≤ 2147483647 := r4
  exact z_case (c4 := zany) (c9 := (.ofNat 0, .ofNat 940, (0, .negSucc 2147483647), 0, 0)) (rm := (0, 0)) (v := (.inl (.inl (9, .ofNat 0)))) B A (zP_cons rfl (zF_cons (zc_159_0 B A) zF_nil) (zP_cons rfl (zF_cons (zc_265_0 B A) zF_nil) zP_nil)) lw_42 rfl F hLS G (cOk_i rfl ⟨by show Int.negSucc 2147483647 ≤ zρ E i z 4; omega, by show zρ E i z 4 ≤ 2147483647; omega⟩ r4.1) (cOk_i rfl ⟨by show 0 ≤ z.toInt; omega, by show z.toInt ≤ 940; omega⟩ (by show -2147483648 ≤ z.toInt; omega)) hN
theorem zl_45 (B : zB E) (A : zA E gJ1) (A2 : zA E gjl) (hR : zRm E oM oT ax am ao) (F : zFx E oX oM oO oT ax am ao) (hLS : E.2.2.1 ≤ 3072) {i z : Int32} {ws : va_W} {ce sl : Nat} {K : gK} (G : (0 ≤ i.toInt ∧ i.toInt + 6 ≤ (E.2.2.1 : Int)) ∧ (0 ≤ z.toInt ∧ z.toInt ≤ 940) ∧ zWl E oM oT z ws ∧ ce + 1 ≤ 601024 ∧ sl + 6 ≤ 7293034)  (hN : ∀ (ws2 : va_W) (z2 : Int32), zWl E oM oT z2 ws2 → zGl E 23 (zlv E ax am ao (i + 6)) [] ws2 (ce + 0) (sl + 0) K) : zGl E 1500 (zlv E ax am ao i) [] ws ce sl K := by
  have g2 := G.2.1
  have r4 := zρ_r (E := E) i z 1 (by decide)
  have r4 : -2147483648 ≤ zρ E i z 4 ∧ zρ E i z 4 ≤ 2147483647 := r4
  exact z_case (c4 := zany) (c9 := (.ofNat 0, .ofNat 940, (0, .negSucc 2147483647), 0, 0)) (rm := (0, 0)) (v := (.inl (.inl (9, .ofNat 0)))) B A (zP_cons rfl (zF_cons (zc_121_0 B A) zF_nil) zP_nil) lw_45 rfl F hLS G (cOk_i rfl ⟨by show Int.negSucc 2147483647 ≤ zρ E i z 4; omega, by show zρ E i z 4 ≤ 2147483647; omega⟩ r4.1) (cOk_i rfl ⟨by show 0 ≤ z.toInt; omega, by show z.toInt ≤ 940; omega⟩ (by show -2147483648 ≤ z.toInt; omega)) hN
theorem zl_d (B : zB E) (A : zA E gJ1) (A2 : zA E gjl) (hR : zRm E oM oT ax am ao) (F : zFx E oX oM oO oT ax am ao) (hLS : E.2.2.1 ≤ 3072) {i z : Int32} {ws : va_W} {ce sl : Nat} {K : gK} (G : (0 ≤ i.toInt ∧ i.toInt + 6 ≤ (E.2.2.1 : Int)) ∧ (0 ≤ z.toInt ∧ z.toInt ≤ 940) ∧ zWl E oM oT z ws ∧ ce + 1 ≤ 601024 ∧ sl + 6 ≤ 7293034)  (hN : ∀ (ws2 : va_W) (z2 : Int32), zWl E oM oT z2 ws2 → zGl E 23 (zlv E ax am ao (i + 6)) [] ws2 (ce + 0) (sl + 0) K) : zGl E 1525 (zlv E ax am ao i) [] ws ce sl K := by
  have g2 := G.2.1
  have r4 := zρ_r (E := E) i z 1 (by decide)
  have r4 : -2147483648 ≤ zρ E i z 4 ∧ zρ E i z 4 ≤ 2147483647 := r4
  exact z_case (c4 := zany) (c9 := (.ofNat 0, .ofNat 940, (0, .negSucc 2147483647), 0, 0)) (rm := (0, 0)) (v := (.inl (.inl (9, .ofNat 0)))) B A zP_nil lw_d rfl F hLS G (cOk_i rfl ⟨by show Int.negSucc 2147483647 ≤ zρ E i z 4; omega, by show zρ E i z 4 ≤ 2147483647; omega⟩ r4.1) (cOk_i rfl ⟨by show 0 ≤ z.toInt; omega, by show z.toInt ≤ 940; omega⟩ (by show -2147483648 ≤ z.toInt; omega)) hN
theorem zWl_b {z : Int32} {ws : va_W} (F : zFx E oX oM oO oT ax am ao) (W : zWl E oM oT z ws) : 0 ≤ z.toInt ∧ z.toInt ≤ 940 := by
  obtain ⟨w1, w2, w3, w4⟩ := W
  obtain ⟨a, e, g1, g2, g3⟩ := w0_at (ST := gST) (tys := E.2.2.2.2.2.2.1) ⟨w1.1, w1.2.1, fun o t q hq ht => (w1.2.2 o t q hq ht).1⟩ F.2.1.1
  unfold eOk at g3
  obtain ⟨ob, hob, hf⟩ : ∃ ob, gST 12 = some (.inl ob) ∧ ob.2[2]? = some (.inl (.ofNat 0, .ofNat 940)) := ⟨_, rfl, rfl⟩
  rw [hob] at g3
  obtain ⟨fs, rfl, k1, k2⟩ := g3
  rw [gcv_at g1] at w4
  obtain ⟨z2, e2, b1, b2⟩ := k2 _ _ _ hf (show fs[2]? = some (.int z) from w4)
  have e2 : z = z2 := by injection e2
  subst e2
  exact ⟨b1, b2⟩
theorem zl_0x (X : zX gKX E) (B : zB E) (A : zA E gJ1) (A2 : zA E gjl) (hR : zRm E oM oT ax am ao) (F : zFx E oX oM oO oT ax am ao) (hLS : E.2.2.1 ≤ 3072) {i z : Int32} {ws : va_W} {ce sl : Nat} {K : gK} (G : (0 ≤ i.toInt ∧ i.toInt + 6 ≤ (E.2.2.1 : Int)) ∧ (0 ≤ z.toInt ∧ z.toInt ≤ 940) ∧ zWl E oM oT z ws ∧ ce + 1 ≤ 601024 ∧ sl + 6 ≤ 7293034) (q9 : 0 ≤ z.toInt ∧ z.toInt ≤ 920) (hN : ∀ (ws2 : va_W) (z2 : Int32), zWl E oM oT z2 ws2 → zGl E 23 (zlv E ax am ao (i + 6)) [] ws2 (ce + 0) (sl + 0) K) : zGl E 240 (zlv E ax am ao i) [] ws ce sl K :=
  z_l0x X B F hLS G.1 q9 G.2.2.1 G.2.2.2.1 G.2.2.2.2 (fun ws2 z2 W2 => zl_d B A A2 hR F hLS ⟨G.1, zWl_b F W2, W2, G.2.2.2.1, G.2.2.2.2⟩ hN)
theorem zl_2x (X : zX gKX E) (B : zB E) (A : zA E gJ1) (A2 : zA E gjl) (hR : zRm E oM oT ax am ao) (F : zFx E oX oM oO oT ax am ao) (hLS : E.2.2.1 ≤ 3072) {i z : Int32} {ws : va_W} {ce sl : Nat} {K : gK} (G : (0 ≤ i.toInt ∧ i.toInt + 6 ≤ (E.2.2.1 : Int)) ∧ (0 ≤ z.toInt ∧ z.toInt ≤ 940) ∧ zWl E oM oT z ws ∧ ce + 1 ≤ 601024 ∧ sl + 6 ≤ 7293034) (hN : ∀ (ws2 : va_W) (z2 : Int32), zWl E oM oT z2 ws2 → zGl E 23 (zlv E ax am ao (i + 6)) [] ws2 (ce + 0) (sl + 0) K) : zGl E 338 (zlv E ax am ao i) [] ws ce sl K :=
  z_l2x X B A F G.2.2.1 G.2.2.2.1 G.2.2.2.2 (fun ws2 z2 W2 => zl_d B A A2 hR F hLS ⟨G.1, zWl_b F W2, W2, G.2.2.2.1, G.2.2.2.2⟩ hN)
theorem zl_3x (X : zX gKX E) (B : zB E) (A : zA E gJ1) (A2 : zA E gjl) (hR : zRm E oM oT ax am ao) (F : zFx E oX oM oO oT ax am ao) (hLS : E.2.2.1 ≤ 3072) {i z : Int32} {ws : va_W} {ce sl : Nat} {K : gK} (G : (0 ≤ i.toInt ∧ i.toInt + 6 ≤ (E.2.2.1 : Int)) ∧ (0 ≤ z.toInt ∧ z.toInt ≤ 940) ∧ zWl E oM oT z ws ∧ ce + 1 ≤ 601024 ∧ sl + 6 ≤ 7293034) (hN : ∀ (ws2 : va_W) (z2 : Int32), zWl E oM oT z2 ws2 → zGl E 23 (zlv E ax am ao (i + 6)) [] ws2 (ce + 0) (sl + 0) K) : zGl E 351 (zlv E ax am ao i) [] ws ce sl K :=
  z_l3x X B A F hLS G.1 G.2.2.1 G.2.2.2.1 G.2.2.2.2 (fun ws2 z2 W2 => zl_d B A A2 hR F hLS ⟨G.1, zWl_b F W2, W2, G.2.2.2.1, G.2.2.2.2⟩ hN)
theorem zl_39x (X : zX gKX E) (B : zB E) (A : zA E gJ1) (A2 : zA E gjl) (hR : zRm E oM oT ax am ao) (F : zFx E oX oM oO oT ax am ao) (hLS : E.2.2.1 ≤ 3072) {i z : Int32} {ws : va_W} {ce sl : Nat} {K : gK} (G : (0 ≤ i.toInt ∧ i.toInt + 6 ≤ (E.2.2.1 : Int)) ∧ (0 ≤ z.toInt ∧ z.toInt ≤ 940) ∧ zWl E oM oT z ws ∧ ce + 1 ≤ 601024 ∧ sl + 6 ≤ 7293034) (hN : ∀ (ws2 : va_W) (z2 : Int32), zWl E oM oT z2 ws2 → zGl E 23 (zlv E ax am ao (i + 6)) [] ws2 (ce + 0) (sl + 0) K) : zGl E 1362 (zlv E ax am ao i) [] ws ce sl K :=
  z_l39x X B A A2 F hLS G.1 G.2.2.1 G.2.2.2.1 G.2.2.2.2 (fun ws2 z2 W2 => zl_d B A A2 hR F hLS ⟨G.1, zWl_b F W2, W2, G.2.2.2.1, G.2.2.2.2⟩ hN)
theorem zl_41x (X : zX gKX E) (B : zB E) (A : zA E gJ1) (A2 : zA E gjl) (hR : zRm E oM oT ax am ao) (F : zFx E oX oM oO oT ax am ao) (hLS : E.2.2.1 ≤ 3072) {i z : Int32} {ws : va_W} {ce sl : Nat} {K : gK} (G : (0 ≤ i.toInt ∧ i.toInt + 6 ≤ (E.2.2.1 : Int)) ∧ (0 ≤ z.toInt ∧ z.toInt ≤ 940) ∧ zWl E oM oT z ws ∧ ce + 1 ≤ 601024 ∧ sl + 6 ≤ 7293034) (hN : ∀ (ws2 : va_W) (z2 : Int32), zWl E oM oT z2 ws2 → zGl E 23 (zlv E ax am ao (i + 6)) [] ws2 (ce + 0) (sl + 0) K) : zGl E 1412 (zlv E ax am ao i) [] ws ce sl K :=
  z_l41x X B A F hLS G.1 G.2.2.1 G.2.2.2.1 G.2.2.2.2 (fun ws2 z2 W2 => zl_d B A A2 hR F hLS ⟨G.1, zWl_b F W2, W2, G.2.2.2.1, G.2.2.2.2⟩ hN)
theorem zl_43x (X : zX gKX E) (B : zB E) (A : zA E gJ1) (A2 : zA E gjl) (hR : zRm E oM oT ax am ao) (F : zFx E oX oM oO oT ax am ao) (hLS : E.2.2.1 ≤ 3072) {i z : Int32} {ws : va_W} {ce sl : Nat} {K : gK} (G : (0 ≤ i.toInt ∧ i.toInt + 6 ≤ (E.2.2.1 : Int)) ∧ (0 ≤ z.toInt ∧ z.toInt ≤ 940) ∧ zWl E oM oT z ws ∧ ce + 1 ≤ 601024 ∧ sl + 6 ≤ 7293034) (hN : ∀ (ws2 : va_W) (z2 : Int32), zWl E oM oT z2 ws2 → zGl E 23 (zlv E ax am ao (i + 6)) [] ws2 (ce + 0) (sl + 0) K) : zGl E 1450 (zlv E ax am ao i) [] ws ce sl K :=
  z_l43x X B A F hLS G.1 G.2.2.1 G.2.2.2.1 G.2.2.2.2 (fun ws2 z2 W2 => zl_d B A A2 hR F hLS ⟨G.1, zWl_b F W2, W2, G.2.2.2.1, G.2.2.2.2⟩ hN)
theorem zl_44x (X : zX gKX E) (B : zB E) (A : zA E gJ1) (A2 : zA E gjl) (hR : zRm E oM oT ax am ao) (F : zFx E oX oM oO oT ax am ao) (hLS : E.2.2.1 ≤ 3072) {i z : Int32} {ws : va_W} {ce sl : Nat} {K : gK} (G : (0 ≤ i.toInt ∧ i.toInt + 6 ≤ (E.2.2.1 : Int)) ∧ (0 ≤ z.toInt ∧ z.toInt ≤ 940) ∧ zWl E oM oT z ws ∧ ce + 1 ≤ 601024 ∧ sl + 6 ≤ 7293034) (hN : ∀ (ws2 : va_W) (z2 : Int32), zWl E oM oT z2 ws2 → zGl E 23 (zlv E ax am ao (i + 6)) [] ws2 (ce + 0) (sl + 0) K) : zGl E 1475 (zlv E ax am ao i) [] ws ce sl K :=
  z_l44x X B A F hLS G.1 G.2.2.1 G.2.2.2.1 G.2.2.2.2 (fun ws2 z2 W2 => zl_d B A A2 hR F hLS ⟨G.1, zWl_b F W2, W2, G.2.2.2.1, G.2.2.2.2⟩ hN)
theorem zl_all (X : zX gKX E) (B : zB E) (A : zA E gJ1) (A2 : zA E gjl) (hR : zRm E oM oT ax am ao) (F : zFx E oX oM oO oT ax am ao) (hLS : E.2.2.1 ≤ 3072) {i z : Int32} {ws : va_W} {ce sl : Nat} {K : gK} (G : zBg E oM oT i z ws ce sl) (hN : zNx E oM oT ax am ao i ce sl K) (k : Nat) : zGl E (zpc k) (zlv E ax am ao i) [] ws ce sl K := by
  have g2 := G.2.1
  have G1 : (0 ≤ i.toInt ∧ i.toInt + 6 ≤ (E.2.2.1 : Int)) ∧ (0 ≤ z.toInt ∧ z.toInt ≤ 940) ∧ zWl E oM oT z ws ∧ ce + 1 ≤ 601024 ∧ sl + 6 ≤ 7293034 := ⟨G.1, G.2.1, G.2.2.1, by have := G.2.2.2.1; omega, by have := G.2.2.2.2; omega⟩
  have hN0 : ∀ (ws2 : va_W) (z2 : Int32), zWl E oM oT z2 ws2 → zGl E 23 (zlv E ax am ao (i + 6)) [] ws2 (ce + 0) (sl + 0) K := fun ws2 z2 W2 => hN ws2 z2 0 0 W2 (by omega) (by omega)
  exact match k with
  | 0 => by
    by_cases q : z.toInt ≤ 920
    · exact zl_0x X B A A2 hR F hLS G1 ⟨by omega, by omega⟩ hN0
    · exact zl_0b B A A2 hR F hLS G1 ⟨by omega, by omega⟩ hN0
  | 1 => by
    by_cases q : zρ E i z 4 ≤ -1
    · exact zl_1a B A A2 hR F hLS G1 q hN0
    · by_cases q2 : z.toInt + 1 ≤ zρ E i z 4
      · exact zl_1b B A A2 hR F hLS G1 ⟨by omega, by omega⟩ hN0
      · exact zl_1c B A A2 hR F hLS G1 ⟨by omega, by omega, by omega⟩ hN0
  | 2 => zl_2x X B A A2 hR F hLS G1  hN0
  | 3 => zl_3x X B A A2 hR F hLS G1 hN0
  | 4 => hR i z ws ce sl K G (fun ws2 ac as W2 ha hs => zl_4 B A A2 hR F hLS ⟨G.1, G.2.1, W2, by have := G.2.2.2.1; omega, by have := G.2.2.2.2; omega⟩ (fun ws3 z3 W3 => hN ws3 z3 ac as W3 ha hs))
  | 5 => zl_5 B A A2 hR F hLS G1  hN0
  | 6 => zl_6 B A A2 hR F hLS G1  hN0
  | 7 => zl_7 B A A2 hR F hLS G1  hN0
  | 8 => zl_8 B A A2 hR F hLS G1  hN0
  | 9 => zl_9 B A A2 hR F hLS G1  hN0
  | 10 => zl_10 B A A2 hR F hLS G1  hN0
  | 11 => zl_11 B A A2 hR F hLS G1  hN0
  | 12 => zl_12 B A A2 hR F hLS G1  hN0
  | 13 => zl_13 B A A2 hR F hLS G1  hN0
  | 14 => zl_14 B A A2 hR F hLS G1  hN0
  | 15 => zl_15 B A A2 hR F hLS G1  hN0
  | 16 => zl_16 B A A2 hR F hLS G1  hN0
  | 17 => zl_17 B A A2 hR F hLS G1  hN0
  | 18 => zl_18 B A A2 hR F hLS G1  hN0
  | 19 => zl_19 B A A2 hR F hLS G1  hN0
  | 20 => zl_20 B A A2 hR F hLS G1  hN0
  | 21 => zl_21 B A A2 hR F hLS G1  hN0
  | 22 => zl_22 B A A2 hR F hLS G1  hN0
  | 23 => zl_23 B A A2 hR F hLS G1  hN0
  | 24 => zl_24 B A A2 hR F hLS G1  hN0
  | 25 => zl_25 B A A2 hR F hLS G1  hN0
  | 26 => zl_26 B A A2 hR F hLS G1  hN0
  | 27 => zl_27 B A A2 hR F hLS G1  hN0
  | 28 => zl_28 B A A2 hR F hLS G1  hN0
  | 29 => zl_29 B A A2 hR F hLS G1  hN0
  | 30 => zl_30 B A A2 hR F hLS G1  hN0
  | 31 => zl_31 B A A2 hR F hLS G1  hN0
  | 32 => zl_32 B A A2 hR F hLS G1  hN0
  | 33 => zl_33 B A A2 hR F hLS G1  hN0
  | 34 => zl_34 B A A2 hR F hLS G1  hN0
  | 35 => zl_35 B A A2 hR F hLS G1  hN0
  | 36 => zl_36 B A A2 hR F hLS G1  hN0
  | 37 => zl_37 B A A2 hR F hLS G1  hN0
  | 38 => zl_38 B A A2 hR F hLS G1  hN0
  | 39 => zl_39x X B A A2 hR F hLS G1 hN0
  | 40 => zl_40 B A A2 hR F hLS G1  hN0
  | 41 => zl_41x X B A A2 hR F hLS G1 hN0
  | 42 => zl_42 B A A2 hR F hLS G1  hN0
  | 43 => zl_43x X B A A2 hR F hLS G1 hN0
  | 44 => zl_44x X B A A2 hR F hLS G1 hN0
  | 45 => zl_45 B A A2 hR F hLS G1  hN0
  | n + 46 => by
    show zGl E (zpc (n + 46)) _ _ _ _ _ _
    rw [show zpc (n + 46) = 1525 from rfl]
    exact zl_d B A A2 hR F hLS G1  hN0
theorem z_loop (X : zX gKX E) (B : zB E) (A : zA E gJ1) (A2 : zA E gjl) (hR : zRm E oM oT ax am ao) (F : zFx E oX oM oO oT ax am ao) (hLS : E.2.2.1 ≤ 3072) : ∀ (n : Nat) (i z : Int32) (ws : va_W) (ce sl : Nat), (E.2.2.1 : Int) - i.toInt < (n : Int) → 0 ≤ i.toInt → i.toInt ≤ (E.2.2.1 : Int) → (ce : Int) + ((E.2.2.1 : Int) - i.toInt) ≤ 601024 → (sl : Int) + 6 * ((E.2.2.1 : Int) - i.toInt) ≤ 7293034 → zWl E oM oT z ws → zGl E 23 (zlv E ax am ao i) [] ws ce sl zK1 := by
  intro n
  induction n with
  | zero => intro i z ws ce sl h; omega
  | succ n ih =>
    intro i z ws ce sl h h0 h1 hce hsl W
    refine z_head h0 hLS rfl (by omega) (by omega) (fun hi k => zl_all X B A A2 hR F hLS (z := z) ⟨⟨h0, hi⟩, zWl_b F W, W, by omega, by omega⟩ (fun ws2 z2 ac as W2 ha hs => ?_) k)
    have e6 : (i + 6).toInt = i.toInt + 6 := by
      rw [i_add (x := i) (y := 6) (by show -2147483648 ≤ i.toInt + 6; omega) (by show i.toInt + 6 ≤ 2147483647; omega)]
      rfl
    exact ih (i + 6) z2 ws2 (ce + ac) (sl + as) (by omega) (by omega) (by omega) (by omega) (by omega) W2
end ZL3
