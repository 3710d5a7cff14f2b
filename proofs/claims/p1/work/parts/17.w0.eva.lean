noncomputable section
/-! THE WALK ITSELF, computed by the kernel. -/
/-- codeOfKeyword: some long -/
def eSP1 : Nat → eM → eH → List eV → Option (eV × Nat × Nat) := fun _ mi _ as => match as with
  | [.inl w] => bif Nat.blt w 30 && (Nat.ble 5 mi.2.2.2.1 && Nat.ble 111 mi.2.2.2.2.1) then some (eL, 0, 0) else none
  | _ => none
def hp_0 : eH := er 16 (er 16 none)
def cs_1 (a b c d : Nat) : eC := [(0, 4294967295), (a, b), (0, 4294967295), (0, 4294967295), (0, 4294967295), (0, 4294967295), (2147483648, 2147483654), (2147483642, 2147483648), (c, d)]
def k_1 : eK := fun r _ _ _ => match r with
  | some (.inl 1) => true
  | _ => false
def bk_f : eBk := fun _ _ _ _ _ _ _ => false
def run_1 (n a b c d : Nat) : Bool := eRun eFL1 eCL1 eMT1 eNW1 eNA1 eKI1 eKL1 eSP1 bk_f n em_176 0 em_176.2.2.2.2.2.2 [(0, eS)] [] hp_0 0 0 0 (cs_1 a b c d) k_1
set_option maxRecDepth 1000000 in
theorem ev_lo : run_1 1000000 0 4294967295 2147483648 2147483663 = true := by decide +kernel
set_option maxRecDepth 1000000 in
theorem ev_hi : run_1 1000000 0 4294967295 2147483665 2147483711 = true := by decide +kernel
end
