def eAllb {α : Type} (f : Nat → α → Bool) : Nat → List (List α) → Bool
  | _, [] => true
  | o, r :: rs => r.all (f o) && eAllb f (o + 1) rs
theorem eAllb_ok {α : Type} {f : Nat → α → Bool} : ∀ {l : List (List α)} {k : Nat}, eAllb f k l = true → eAll (fun o x => f o x = true) k l
  | [], _, _ => trivial
  | r :: rs, k, h => by
    have h : (r.all (f k) && eAllb f (k + 1) rs) = true := h
    rw [Bool.and_eq_true] at h
    exact ⟨List.all_eq_true.mp h.1, eAllb_ok h.2⟩
def c89 (o : Nat) (x : Nat × Nat × Nat × Nat) : Bool := (!(x.2.1 == 9)) && (!(x.2.1 == 8) || (o == 7 && (x.1 == 19 && x.2.2.1 == 0)))
theorem v_89 : eAll (fun o x => c89 o x = true) 0 ecl_ := eAllb_ok (by decide +kernel)
theorem v_8 {o idx sn n : Nat} (h : eCL1 o idx = some (8, sn, n)) : o = 7 ∧ idx = 19 ∧ sn = 0 := by
  have h1 : c89 o (idx, 8, sn, n) = true := ga2_all v_89 h
  simpa [c89] using h1
def kcn : List Nat := [4562600, 8434683, 365647, 90090, 365288, 47, 6477035, 161370, 6562612, 148870, 10204885, 240400, 40600, 85447, 12409381, 10270711, 8290585, 1489744, 191610176, 423, 1111, 10631, 1489745, 131360, 411, 257, 232546955, 2432449, 12532058, 212302449]
theorem kcn_v : ∀ w, w < 30 → ∃ v, kcn[w]? = some v ∧ kcd w = Int64.ofNat v := by
  have g : ((List.range 30).all fun w => match kcn[w]? with
    | some v => decide (kcd w = Int64.ofNat v)
    | none => false) = true := by decide +kernel
  intro w hw
  have g := List.all_eq_true.mp g w (List.mem_range.mpr hw)
  split at g
  · rename_i v hv
    exact ⟨v, hv, of_decide_eq_true g⟩
  · cases g
noncomputable section
def eSP1 : Nat → eM → eH → List eV → Option (Nat × Nat × Nat) := fun _ mi _ as => match as with
  | [.inl w] => bif Nat.blt w 30 && (Nat.ble 5 mi.2.2.2.1 && Nat.ble 111 mi.2.2.2.2.1) then (match eg kcn w with
    | some v => some (v, 0, 0)
    | none => none) else none
  | _ => none
end
theorem v_T {ρ : Nat → Int32} {b base : Nat} {D : va_G} {l : Launch} : eTok ρ b base D vwCl Tb1 (NF1 base) l eCN eCL1 eMT1 := by
  intro ih IH mi idx mno n hcl
  have h1 : c89 mi.1 (idx, 9, mno, n) = true := ga2_all v_89 hcl
  cases h1
theorem v_S {ρ : Nat → Int32} {b base : Nat} {D : va_G} {l : Launch} : eSok ρ b base D vwCl Tb1 (NF1 base) l eCN eCL1 eSP1 := by
  intro mi idx sn n hcl hp as q hq p e R s m args below meth c Q cc nL X H locs nx ws tys lsA lv asx rx pc ce sl hd hw hl has hlen hcat hce hsl K
  obtain ⟨hmi, rfl, rfl⟩ := v_8 hcl
  unfold eSP1 at hq
  split at hq
  · rename_i w
    cases hz : (Nat.blt w 30 && (Nat.ble 5 mi.2.2.2.1 && Nat.ble 111 mi.2.2.2.2.1)) with
    | false => rw [hz] at hq; cases hq
    | true =>
      rw [hz] at hq
      rw [Bool.and_eq_true, Bool.and_eq_true] at hz
      have a1 : w < 30 := Nat.le_of_ble_eq_true hz.1
      obtain ⟨v, hv0, hv1⟩ := kcn_v w a1
      have hq : (match eg kcn w with
        | some v => some (v, 0, 0)
        | none => none) = some q := hq
      rw [eg_eq, hv0] at hq
      have hq : some (v, 0, 0) = some q := hq
      cases hq
      have a2 := Nat.le_of_ble_eq_true hz.2.1
      have a3 := Nat.le_of_ble_eq_true hz.2.2
      obtain ⟨xx, t1, rfl, hv, has1⟩ := eRs_cons has
      cases eRs_nil has1
      have hv : xx = .int (Int32.ofNat w) := hv
      subst hv
      have hts := X.2.2.2.2.1
      have hRc := X.2.2.2.2.2.2.2.1
      have hown := X.2.2.2.1
      rw [hmi] at hown
      have S : CallFix p m c cc nL s args Tb1 (eCN 7) := ⟨X.1, X.2.1, X.2.2.1, hown, hts⟩
      have hce : ce ≤ R.cells := by rw [hRc.1]; exact Nat.le_trans (Nat.le_add_right _ _) hce
      have hsl : sl ≤ R.slots := by rw [hRc.2.1]; exact Nat.le_trans (Nat.le_add_right _ _) hsl
      refine k_callS (n := 1) (asx := [.int (Int32.ofNat w)]) (m_cokx l base w a1 hv1) ⟨rfl, rfl⟩ (v_HF base) S (tbT 42 (by decide +kernel) rfl) (tbT 2 (by decide +kernel) rfl) (tbT 40 (by decide +kernel) rfl) (tbT 41 (by decide +kernel) rfl) ⟨by decide +kernel, by decide +kernel, by decide +kernel⟩ ⟨by rw [hRc.2.2.1]; exact a2, by rw [hRc.2.2.2]; exact a3⟩ X.2.2.2.2.2.1.2.2 hw.2.2.2.1 rfl hl.1 hcat ⟨hce, hsl⟩ hd.1 (fun y hy => ?_)
      have hy := hy
      unfold kLgx at hy
      subst hy
      exact K H locs hw
  · cases hq
