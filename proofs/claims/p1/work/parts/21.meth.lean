theorem e_dk {cc : ByteArray} {nL : Nat} {l : List eI} (h1 : ∀ t ∈ l, decode cc t.1 = .ok (t.2.1, t.2.2)) (h2 : l.all (fun t => est t.1 t.2.1 nL && elen t.2.1 t.2.2) = true) : ∀ t ∈ l, eDk cc nL t := fun t ht => by
  have h := List.all_eq_true.mp h2 t ht
  rw [Bool.and_eq_true] at h
  exact ⟨h1 t ht, h.1, h.2⟩
theorem vm_75 : eMok Tb1 eCN (em_75, 2) yX11_isRoom cX11_isRoom (some .boolean) := ⟨tbT 764 (by decide +kernel) rfl, tbT 1 (by decide +kernel) rfl, plainFor_of_name (by decide +kernel), rfl, by decide +kernel, e_dk ed_75 ee_75, (fun h => by cases h), Or.inr (Or.inr (Or.inr (Or.inl ⟨rfl, rfl⟩)))⟩
