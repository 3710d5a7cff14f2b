/-! THE WALKER, its small steps. -/
section EOP
variable {ρ : Nat → Int32} {b : Nat} {ad : List Nat} {cs : eC}
theorem e_cond {c : Bool} {β : Type} {x y z : β} (h : (bif c then x else y) = z) (hn : ¬ y = z) : c = true ∧ x = z := by
  cases c with
  | true => exact ⟨rfl, h⟩
  | false => exact absurd h hn
theorem e_ff : ¬ (false = true) := Bool.false_ne_true
theorem evar_ok {v : eV} {x : Value} {k : eV → Bool} (hs : eSat ρ cs) (hr : eRl ρ b ad v x) (h : evar v cs k = true) : ∃ w, k w = true ∧ eRl ρ b ad w x := by
  rcases v with n | j | o | n
  · exact ⟨_, h, hr⟩
  · unfold evar at h
    dsimp only at h
    rw [eg_eq] at h
    cases hq : cs[j]? with
    | none => rw [hq] at h; cases h
    | some q =>
      rw [hq] at h
      dsimp only at h
      cases hb : Nat.beq q.1 q.2 with
      | false => rw [hb] at h; exact ⟨_, h, hr⟩
      | true =>
        rw [hb, cond_true, ef_eq] at h
        refine ⟨_, h, ?_⟩
        obtain ⟨h1, h2⟩ := hs j q hq
        have e := Nat.eq_of_beq_eq_true hb
        have hx : x = .int (ρ j) := hr
        show x = .int _
        rw [hx, e_ebi (x := ρ j) (n := q.1) (by omega)]
  · exact ⟨_, h, hr⟩
  · exact ⟨_, h, hr⟩
theorem e2_ok {f : Nat → Nat → Nat} {op : Int32 → Int32 → Int32} (hop : ∀ a c, op (Int32.ofNat a) (Int32.ofNat c) = Int32.ofNat (f a c)) {x y : eV} {X Y : Value} {k : eV → Bool} (hx : eRl ρ b ad x X) (hy : eRl ρ b ad y Y) (h : e2 f x y k = true) : ∃ z1 z2 w, X = .int z1 ∧ Y = .int z2 ∧ k w = true ∧ eRl ρ b ad w (.int (op z1 z2)) := by
  have other : ∀ {x : eV}, eRl ρ b ad x X → (bif eint x then (bif eint y then k eT else false) else false) = true → ∃ z1 z2 w, X = .int z1 ∧ Y = .int z2 ∧ k w = true ∧ eRl ρ b ad w (.int (op z1 z2)) := by
    intro x hx h
    obtain ⟨h1, h⟩ := e_cond h e_ff
    obtain ⟨h2, h⟩ := e_cond h e_ff
    obtain ⟨z1, e1⟩ := eRl_int hx h1
    obtain ⟨z2, e2⟩ := eRl_int hy h2
    exact ⟨z1, z2, eT, e1, e2, h, eRl_any _⟩
  rcases x with n | j | o | n
  · rcases y with m | j | o | m
    · have h : ef (f n m) (fun n => k (.inl n)) = true := h
      rw [ef_eq] at h
      have hx : X = .int (Int32.ofNat n) := hx
      have hy : Y = .int (Int32.ofNat m) := hy
      exact ⟨_, _, _, hx, hy, h, by show Value.int _ = _; rw [hop]⟩
    · exact other hx h
    · exact other hx h
    · exact other hx h
  · exact other hx h
  · exact other hx h
  · exact other hx h
theorem eadd_ok {x y : eV} {X Y : Value} {k : eV → Bool} (hx : eRl ρ b ad x X) (hy : eRl ρ b ad y Y) (h : eadd x y k = true) : ∃ z1 z2 w, X = .int z1 ∧ Y = .int z2 ∧ k w = true ∧ eRl ρ b ad w (.int (z1 + z2)) := by
  unfold eadd at h
  split at h
  · obtain ⟨h1, h⟩ := e_cond h e_ff
    obtain ⟨z2, e2⟩ := eRl_int hy h1
    have hx : X = .int (Int32.ofNat 0) := hx
    refine ⟨_, z2, y, hx, e2, h, ?_⟩
    have e0 : Int32.ofNat 0 + z2 = z2 := by
      rw [show Int32.ofNat 0 = 0 from rfl, Int32.zero_add]
    rw [e0, ← e2]
    exact hy
  · exact e2_ok (op := fun a c => a + c) e_add hx hy h
theorem esub_ok (hρ : ρ 7 = ρ 6 - 6) {x y : eV} {X Y : Value} {k : eV → Bool} (hx : eRl ρ b ad x X) (hy : eRl ρ b ad y Y) (h : esub x y k = true) : ∃ z1 z2 w, X = .int z1 ∧ Y = .int z2 ∧ k w = true ∧ eRl ρ b ad w (.int (z1 - z2)) := by
  unfold esub at h
  split at h
  · have hx : X = .int (ρ 6) := hx
    split at h
    · have hy : Y = .int (Int32.ofNat 6) := hy
      refine ⟨_, _, _, hx, hy, h, ?_⟩
      show Value.int _ = .int (ρ 7)
      rw [hρ]; rfl
    · obtain ⟨h1, h⟩ := e_cond h e_ff
      obtain ⟨z2, e2⟩ := eRl_int hy h1
      exact ⟨_, z2, eT, hx, e2, h, eRl_any _⟩
  · exact e2_ok (op := fun a c => a - c) e_sub hx hy h
theorem eand_ok (hρ : ρ 8 = ρ 0 &&& 63) {x y : eV} {X Y : Value} {k : eV → Bool} (hx : eRl ρ b ad x X) (hy : eRl ρ b ad y Y) (h : eand x y k = true) : ∃ z1 z2 w, X = .int z1 ∧ Y = .int z2 ∧ k w = true ∧ eRl ρ b ad w (.int (z1 &&& z2)) := by
  unfold eand at h
  split at h
  · have hx : X = .int (ρ 0) := hx
    split at h
    · have hy : Y = .int (Int32.ofNat 63) := hy
      refine ⟨_, _, _, hx, hy, h, ?_⟩
      show Value.int _ = .int (ρ 8)
      rw [hρ]; rfl
    · obtain ⟨h1, h⟩ := e_cond h e_ff
      obtain ⟨z2, e2⟩ := eRl_int hy h1
      exact ⟨_, z2, eT, hx, e2, h, eRl_any _⟩
  · exact e2_ok (op := fun a c => a &&& c) e_and hx hy h
theorem eshr_ok {x y : eV} {X Y : Value} {k : eV → Bool} (hx : eRl ρ b ad x X) (hy : eRl ρ b ad y Y) (h : eshr x y k = true) : ∃ z1 z2 w, X = .int z1 ∧ Y = .int z2 ∧ k w = true ∧ eRl ρ b ad w (.int (z1 >>> (z2 &&& 31))) := by
  unfold eshr at h
  split at h
  · obtain ⟨h1, h⟩ := e_cond h e_ff
    obtain ⟨z2, e2⟩ := eRl_int hy h1
    have hx : X = .int (Int32.ofNat 0) := hx
    refine ⟨_, z2, _, hx, e2, h, ?_⟩
    show Value.int _ = .int _
    congr 1
    apply Int32.toBitVec.inj
    show BitVec.sshiftRight' _ _ = _
    simp
  · have hx : X = .int (Int32.ofNat _) := hx
    split at h
    · have hy : Y = .int (Int32.ofNat _) := hy
      cases hb : Nat.ble 4294967296 (_ + 1) with
      | true => rw [hb] at h; cases h
      | false =>
        rw [hb, cond_false, ef_eq] at h
        refine ⟨_, _, _, hx, hy, h, ?_⟩
        show Value.int _ = .int _
        rw [e_shr]
        exact Nat.lt_of_not_le fun q => by rw [Nat.ble_eq_true_of_le q] at hb; cases hb
    · obtain ⟨h1, h⟩ := e_cond h e_ff
      obtain ⟨z2, e2⟩ := eRl_int hy h1
      exact ⟨_, z2, eT, hx, e2, h, eRl_any _⟩
  · have other : ∀ {x : eV}, eRl ρ b ad x X → (bif eint x then (bif eint y then k eT else false) else false) = true → ∃ z1 z2 w, X = .int z1 ∧ Y = .int z2 ∧ k w = true ∧ eRl ρ b ad w (.int (z1 >>> (z2 &&& 31))) := by
      intro x hx h
      obtain ⟨h1, h⟩ := e_cond h e_ff
      obtain ⟨h2, h⟩ := e_cond h e_ff
      obtain ⟨z1, e1⟩ := eRl_int hx h1
      obtain ⟨z2, e2⟩ := eRl_int hy h2
      exact ⟨z1, z2, eT, e1, e2, h, eRl_any _⟩
    rename_i hn1 hn2
    rcases x with n | j | o | n
    · cases n with
      | zero => exact absurd rfl (hn1)
      | succ n => exact absurd rfl (hn2 n)
    · exact other hx h
    · exact other hx h
    · exact other hx h
theorem erem_ok {x y : eV} {X Y : Value} {k : eV → Bool} (hx : eRl ρ b ad x X) (hy : eRl ρ b ad y Y) (h : erem x y k = true) : ∃ z1 z2 w, X = .int z1 ∧ Y = .int z2 ∧ k w = true ∧ eRl ρ b ad w (.int (z1 - z1 / z2 * z2)) ∧ ¬ z2 = 0 := by
  unfold erem at h
  split at h
  · have hx : X = .int (Int32.ofNat _) := hx
    split at h
    · have hy : Y = .int (Int32.ofNat _) := hy
      obtain ⟨h1, h⟩ := e_cond h e_ff
      rw [ef_eq] at h
      simp only [Bool.and_eq_true] at h1
      have a1 := Nat.le_of_ble_eq_true h1.1
      have a2 := Nat.le_of_ble_eq_true h1.2.1
      have a3 := Nat.le_of_ble_eq_true h1.2.2
      refine ⟨_, _, _, hx, hy, h, ?_, ?_⟩
      · show Value.int _ = .int _
        rw [e_rem _ _ (by omega) (by omega) (by omega)]
      · intro q
        have := ebz_inj.mp q
        rw [ebz_nat, show ebz 0 = 2147483648 from rfl] at this
        unfold ebi at this
        omega
    · cases h
  · cases h
theorem ecmp_ok {c : ClassFile.Cond} {x y : eV} {X Y : Value} {kt kf : eC → Bool} (hs : eSat ρ cs) (hx : eRl ρ b ad x X) (hy : eRl ρ b ad y Y) (h : ecmp c x y cs kt kf = true) : ∃ z1 z2, X = .int z1 ∧ Y = .int z2 ∧ (eCd c z1 z2 → ∃ cs2, kt cs2 = true ∧ eSat ρ cs2) ∧ (¬ eCd c z1 z2 → ∃ cs2, kf cs2 = true ∧ eSat ρ cs2) := by
  have other : ∀ {x y : eV}, eRl ρ b ad x X → eRl ρ b ad y Y → eint x = true → (bif eint y then kt cs && kf cs else false) = true → ∃ z1 z2, X = .int z1 ∧ Y = .int z2 ∧ (eCd c z1 z2 → ∃ cs2, kt cs2 = true ∧ eSat ρ cs2) ∧ (¬ eCd c z1 z2 → ∃ cs2, kf cs2 = true ∧ eSat ρ cs2) := by
    intro x y hx hy h1 h
    obtain ⟨h2, h⟩ := e_cond h e_ff
    obtain ⟨z1, e1⟩ := eRl_int hx h1
    obtain ⟨z2, e2⟩ := eRl_int hy h2
    rw [Bool.and_eq_true] at h
    exact ⟨z1, z2, e1, e2, fun _ => ⟨cs, h.1, hs⟩, fun _ => ⟨cs, h.2, hs⟩⟩
  rcases x with n | j | o | n
  · rcases y with m | j | o | m
    · have h : (bif edec c (ebi n) (ebi m) then kt cs else kf cs) = true := h
      have hx : X = .int (Int32.ofNat n) := hx
      have hy : Y = .int (Int32.ofNat m) := hy
      have hd := edec_ok c (Int32.ofNat n) (Int32.ofNat m)
      rw [ebz_nat, ebz_nat] at hd
      refine ⟨_, _, hx, hy, fun q => ?_, fun q => ?_⟩
      · rw [hd.mpr q] at h; exact ⟨cs, h, hs⟩
      · cases hb : edec c (ebi n) (ebi m) with
        | true => exact absurd (hd.mp hb) q
        | false => rw [hb] at h; exact ⟨cs, h, hs⟩
    · have h : (erf (eflip c) j (ebi n) cs kt && erf (eneg (eflip c)) j (ebi n) cs kf) = true := h
      rw [Bool.and_eq_true] at h
      have hx : X = .int (Int32.ofNat n) := hx
      have hy : Y = .int (ρ j) := hy
      refine ⟨_, _, hx, hy, fun q => ?_, fun q => ?_⟩
      · exact erf_ok hs h.1 (ebz_nat n) ((eflip_ok _ _ _).mpr q)
      · exact erf_ok hs h.2 (ebz_nat n) ((eneg_ok _ _ _).mpr (fun z => q ((eflip_ok _ _ _).mp z)))
    · exact other hx hy rfl h
    · exact other hx hy rfl h
  · rcases y with m | j2 | o | m
    · have h : (erf c j (ebi m) cs kt && erf (eneg c) j (ebi m) cs kf) = true := h
      rw [Bool.and_eq_true] at h
      have hx : X = .int (ρ j) := hx
      have hy : Y = .int (Int32.ofNat m) := hy
      refine ⟨_, _, hx, hy, fun q => ?_, fun q => ?_⟩
      · exact erf_ok hs h.1 (ebz_nat m) q
      · exact erf_ok hs h.2 (ebz_nat m) ((eneg_ok _ _ _).mpr q)
    · exact other hx hy rfl h
    · exact other hx hy rfl h
    · exact other hx hy rfl h
  · cases h
  · have h : (bif eint (.inr (.inr (.inr n)) : eV) then (bif eint y then kt cs && kf cs else false) else false) = true := h
    obtain ⟨h1, h⟩ := e_cond h e_ff
    exact other hx hy h1 h
theorem etake_ok : ∀ (n : Nat) {st acc : List eV} {xs accx : List Value} {k : List eV → List eV → Bool}, eRs ρ b ad st xs → eRs ρ b ad acc accx → etake n st acc k = true → ∃ (as r : List eV) (asx rx : List Value), k as r = true ∧ eRs ρ b ad as asx ∧ eRs ρ b ad r rx ∧ (accx.reverse ++ xs) = asx.reverse ++ rx ∧ asx.length = accx.length + n
  | 0, st, acc, xs, accx, k, h1, h2, h => ⟨acc, st, accx, xs, h, h2, h1, rfl, rfl⟩
  | n + 1, st, acc, xs, accx, k, h1, h2, h => by
    cases st with
    | nil => cases h
    | cons v r =>
      obtain ⟨x, t, rfl, hv, hr⟩ := eRs_cons h1
      have h : etake n r (v :: acc) k = true := h
      have h3 : eRs ρ b ad (v :: acc) (x :: accx) := ⟨hv, h2⟩
      obtain ⟨as, r2, asx, rx, q1, q2, q3, q4, q5⟩ := etake_ok n hr h3 h
      refine ⟨as, r2, asx, rx, q1, q2, q3, ?_, ?_⟩
      · rw [← q4, List.reverse_cons, List.append_assoc]; rfl
      · rw [q5, List.length_cons]; omega
theorem ej_ok {t : Nat} {sf : List eI} : ∀ {cd : List eI}, ej cd t = some sf → (∀ q ∈ sf, q ∈ cd)
  | [], h => by cases h
  | q :: cd, h => by
    have h : (bif Nat.beq q.1 t then some (q :: cd) else ej cd t) = some sf := h
    cases hb : Nat.beq q.1 t with
    | true =>
      rw [hb] at h
      have h : some (q :: cd) = some sf := h
      cases h
      exact fun _ z => z
    | false =>
      rw [hb] at h
      exact fun x z => List.mem_cons_of_mem _ (ej_ok h x z)
theorem esw_ok {j : Nat} {go : Int → eC → Bool} (hs : eSat ρ cs) : ∀ {offs : List Int} {b0 : Nat}, esw j cs go offs b0 = true → ∀ (i : Nat) (off : Int), offs[i]? = some off → ebz (ρ j) = b0 + i → ∃ cs2, go off cs2 = true ∧ eSat ρ cs2
  | [], _, _, i, off, h, _ => by simp at h
  | o :: offs, b0, h, i, off, ho, he => by
    have h : (erf .eq j b0 cs (go o) && esw j cs go offs (b0 + 1)) = true := h
    rw [Bool.and_eq_true] at h
    cases i with
    | zero =>
      rw [List.getElem?_cons_zero] at ho
      cases ho
      exact erf_ok hs h.1 (y := ρ j) he rfl
    | succ i =>
      rw [List.getElem?_cons_succ] at ho
      exact esw_ok hs h.2 i off ho (by omega)
theorem eix_ok {j : Nat} {go : Nat → eC → Bool} (hs : eSat ρ cs) : ∀ (n : Nat) {i : Nat}, eix j cs go n i = true → ∀ d, d < n → ebz (ρ j) = i + d + 2147483648 → ∃ cs2, go (i + d) cs2 = true ∧ eSat ρ cs2
  | 0, _, _, d, h, _ => by omega
  | n + 1, i, h, d, hd, he => by
    have h : (erf .eq j (i + 2147483648) cs (go i) && eix j cs go n (i + 1)) = true := h
    rw [Bool.and_eq_true] at h
    cases d with
    | zero => exact erf_ok hs h.1 (y := ρ j) (by omega) rfl
    | succ d =>
      have := eix_ok hs n h.2 d (by omega) (by omega)
      rwa [show i + 1 + d = i + (d + 1) by omega] at this
end EOP
