theorem v_HF (base : Nat) : eNFw base (HF1 base) := by
  refine ⟨fun s U h hW hz hk => ?_, fun s U h hv hh => ?_⟩
  · obtain ⟨adK, adV, h1, h2, h3, h4, h5, h6, h7, h8, h9, h10⟩ := h
    exact ⟨adK, adV, (h1.kept hk).moved hW.alike, vk_R.warm hW h2, vk_R.warm hW h3, vk_R.warm hW h4, vk_R.warm hW h5, (h6.kept hk).moved hW.alike, (h7.kept hk).moved hW.alike, (h8.kept hk).moved hW.alike, (h9.kept hk).moved hW.alike, ⟨va_Nw.warmC hW h10.1, va_Nw.warmD hW h10.2.1, va_Nw.warmD hW h10.2.2.1, va_Nw.warmD hW h10.2.2.2⟩⟩
  · obtain ⟨adK, adV, h1, h2, h3, h4, h5, h6, h7, h8, h9, h10⟩ := h
    have hal : s.vm.Alike U.vm := by rw [hv]; exact Vm.Alike.refl _
    have hk : ∀ a : Nat, a < s.heap.size → ¬ base ≤ a → U.heap[a]? = s.heap[a]? := fun a _ _ => by rw [hh]
    exact ⟨adK, adV, (h1.kept hk).moved hal, vk_R.same hv.symm h2, vk_R.same hv.symm h3, vk_R.same hv.symm h4, vk_R.same hv.symm h5, (h6.kept hk).moved hal, (h7.kept hk).moved hal, (h8.kept hk).moved hal, (h9.kept hk).moved hal, ⟨va_tabs rfl hv h10.1, va_tabs rfl hv h10.2.1, va_tabs rfl hv h10.2.2.1, va_tabs rfl hv h10.2.2.2⟩⟩
/-! EXACT: codeOfKeyword -/
def kcl (f : Nat → Int32) (n lim : Nat) : Nat → Nat → Int64 → Int64
  | 0, _, z => z
  | k + 1, j, z => if lim ≤ j then z else if n ≤ j then z else if kch (f j) = 32 then kcl f n lim k (j + 1) z else kcl f n lim k (j + 1) (kcw z (kch (f j)))
def kres (i d : Nat) : Int64 := kcl (fun j => (scByt.getD i []).getD j 0) (scLen.getD i 0) (7 * d + 7) 100 (7 * d) 0
def kcd (w : Nat) : Int64 := if w < 9 then kres 0 w else if w < 19 then kres 1 (w - 9) else kres 2 (w - 19)
theorem kcd_0 {w : Nat} (h : w < 9) : kcd w = kres 0 w := if_pos h
theorem kcd_1 {w : Nat} (h : 9 ≤ w) (h2 : w < 19) : kcd w = kres 1 (w - 9) := (if_neg (by omega)).trans (if_pos h2)
theorem kcd_2 {w : Nat} (h : 19 ≤ w) : kcd w = kres 2 (w - 19) := (if_neg (by omega)).trans (if_neg (by omega))
def qk2 : List Int := [4562600, 8434683, 365647, 90090, 365288, 47, 6477035, 161370, 6562612, 148870, 10204885, 240400, 40600, 85447, 12409381, 10270711, 8290585, 1489744, 191610176, 423, 1111, 10631, 1489745, 131360, 411, 257, 232546955, 2432449, 12532058, 212302449]
theorem kcd_v : ((List.range 30).all fun w => match qk2[w]? with
    | some x => decide ((kcd w).toInt = x)
    | none => false) = true := by decide +kernel
theorem cok_loopx {p : Program} {l : Launch} {e : Env} {s : State} {m : MethodId} {args : Array Value} {below : List Frame} {meth : Method} {c : Code} {base : Nat} (S : CallFix p m c cX7_codeOfKeyword 7 s args Tb1 RX7) (hr : meth.sig.returnType = some .long) (hlocks : meth.locks = false) {a av n : Nat} {f : Nat → Int32} (hF : kF base a av n f s) (hn : n ≤ 1000) {d : Nat} (hdd : d ≤ 10) {r : Int64} :
    ∀ (k j : Nat) (z : Int64), 7 * d + 8 ≤ j + k → j ≤ 7 * d + 7 → kcl f n (7 * d + 7) k j z = r → ∀ lsA : Array Slot, lv_has lsA 7 [(1, .ref a), (2, .int (Int32.ofNat (7 * d))), (3, .long z), (5, .int (Int32.ofNat j))] → W p l e (rm00 4 85) s m args below meth c s.heap [] 0 0 (MQ below (kQc (kLgx r)) args s 0 0 kNo) (F0 m 61 lsA []) := by
  obtain ⟨hx, hb, hml, hown, hts⟩ := id S
  have hS : va_S (fun q => base ≤ q) s.heap s.heap [] := va_S.rf
  have out : ∀ (z : Int64) (lsA : Array Slot), z = r → lsA[3]? = some (.val (.long z)) → W p l e (rm00 4 85) s m args below meth c s.heap [] 0 0 (MQ below (kQc (kLgx r)) args s 0 0 kNo) (F0 m 111 lsA []) := by
    intro z lsA hzr hl
    subst hzr
    refine lv_lload_n hx hb (by decide +kernel : decode cX7_codeOfKeyword 111 = .ok (.lload_n 3, 1)) rfl hl ?_
    exact W.lret hx hb hr (fun t ht _ => ⟨_, rfl, rfl, ht⟩) (k_no rfl) (by decide +kernel : decode cX7_codeOfKeyword 112 = .ok (.lreturn, 1))
  intro k
  induction k with
  | zero => intro j z h1 h2 h3; omega
  | succ k ih =>
    intro j z h1 h2 h3 lsA hl
    refine lv_iload hx hb (by decide +kernel : decode cX7_codeOfKeyword 61 = .ok (.iload 5, 2)) (lv_at hl 3 rfl) ?_
    refine lv_iload_n hx hb (by decide +kernel : decode cX7_codeOfKeyword 63 = .ok (.iload_n 2, 1)) rfl (lv_at hl 1 rfl) ?_
    refine lv_bipush (v := 7) hx hb (by decide +kernel : decode cX7_codeOfKeyword 64 = .ok (.bipush 7, 2)) (by decide) ?_
    refine lv_iadd hx hb (by decide +kernel : decode cX7_codeOfKeyword 66 = .ok (.iadd, 1)) ?_
    have e1 : Int32.ofNat (7 * d) + 7 = Int32.ofNat (7 * d + 7) := (Int32.ofNat_add (7 * d) 7).symm
    rw [e1]
    refine lv_icmp_ge (tgt := 111) hx hb (by decide +kernel : decode cX7_codeOfKeyword 67 = .ok (.if_icmp .ge 44, 3)) (by decide) (fun q1 => out z lsA (by
      have hj : 7 * d + 7 ≤ j := by
        rcases Nat.lt_or_ge j (7 * d + 7) with q | q
        · exact absurd q1 (nI_ge (a := j) (b := 7 * d + 7) q (by omega))
        · exact q
      rw [← h3]
      exact (if_pos hj).symm) (lv_at hl 2 rfl)) (fun q1 => ?_)
    have hj : j < 7 * d + 7 := by
      rcases Nat.lt_or_ge j (7 * d + 7) with q | q
      · exact q
      · exact absurd (nI_le (a := 7 * d + 7) (b := j) q (by omega)) q1
    refine lv_iload hx hb (by decide +kernel : decode cX7_codeOfKeyword 70 = .ok (.iload 5, 2)) (lv_at hl 3 rfl) ?_
    refine lv_aload_n hx hb (by decide +kernel : decode cX7_codeOfKeyword 72 = .ok (.aload_n 1, 1)) rfl (lv_at hl 0 rfl) ?_
    refine k_callV (As := []) (rx := [.int (Int32.ofNat j)]) (m_length l base a av n hn f) ⟨rfl, rfl⟩ kF_ok S (tbT 49 (by decide +kernel) rfl) (tbT 3 (by decide +kernel) rfl) (tbT 46 (by decide +kernel) rfl) (tbT 47 (by decide +kernel) rfl) (tbT 48 (by decide +kernel) rfl) (by decide +kernel) ⟨Nat.le_of_ble_eq_true rfl, Nat.le_of_ble_eq_true rfl⟩ hF hS hF.1 rfl hl.1 (Nat.le_of_ble_eq_true rfl) ⟨Nat.zero_le _, Nat.zero_le _⟩ (by decide +kernel : decode cX7_codeOfKeyword 73 = .ok (.invokevirtual 29, 3)) (fun x hx2 => ?_)
    subst hx2
    refine lv_icmp_ge (tgt := 111) hx hb (by decide +kernel : decode cX7_codeOfKeyword 76 = .ok (.if_icmp .ge 35, 3)) (by decide) (fun q2 => out z lsA (by
      have hjn : n ≤ j := by
        rcases Nat.lt_or_ge j n with q | q
        · exact absurd q2 (nI_ge (a := j) (b := n) q (by omega))
        · exact q
      rw [← h3]
      exact ((if_neg (by omega)).trans (if_pos hjn)).symm) (lv_at hl 2 rfl)) (fun q2 => ?_)
    have hjn : j < n := by
      rcases Nat.lt_or_ge j n with q | q
      · exact q
      · exact absurd (nI_le (a := n) (b := j) q (by omega)) q2
    refine lv_aload_n hx hb (by decide +kernel : decode cX7_codeOfKeyword 79 = .ok (.aload_n 1, 1)) rfl (lv_at hl 0 rfl) ?_
    refine lv_iload hx hb (by decide +kernel : decode cX7_codeOfKeyword 80 = .ok (.iload 5, 2)) (lv_at hl 3 rfl) ?_
    refine k_callV (n := 1) (As := [.int (Int32.ofNat j)]) (rx := []) (m_charAtx l base a av n f j hjn hn) ⟨rfl, rfl⟩ kF_ok S (tbT 59 (by decide +kernel) rfl) (tbT 3 (by decide +kernel) rfl) (tbT 56 (by decide +kernel) rfl) (tbT 57 (by decide +kernel) rfl) (tbT 58 (by decide +kernel) rfl) (by decide +kernel) ⟨Nat.le_of_ble_eq_true rfl, Nat.le_of_ble_eq_true rfl⟩ hF hS hF.1 rfl hl.1 (Nat.zero_le _) ⟨Nat.zero_le _, Nat.zero_le _⟩ (by decide +kernel : decode cX7_codeOfKeyword 82 = .ok (.invokevirtual 35, 3)) (fun x hx2 => ?_)
    subst hx2
    have h3 : (if 7 * d + 7 ≤ j then z else if n ≤ j then z else if kch (f j) = 32 then kcl f n (7 * d + 7) k (j + 1) z else kcl f n (7 * d + 7) k (j + 1) (kcw z (kch (f j)))) = r := h3
    rw [if_neg (by omega), if_neg (by omega)] at h3
    refine lv_istore (lv' := [(6, .int (kch (f j))), (1, .ref a), (2, .int (Int32.ofNat (7 * d))), (3, .long z), (5, .int (Int32.ofNat j))]) hx hb (by decide +kernel : decode cX7_codeOfKeyword 85 = .ok (.istore 6, 2)) hl (by decide) rfl (fun lsB hlB => ?_)
    have fin : ∀ z2 : Int64, kcl f n (7 * d + 7) k (j + 1) z2 = r → W p l e (rm00 4 85) s m args below meth c s.heap [] 0 0 (MQ below (kQc (kLgx r)) args s 0 0 kNo) (F0 m 104 lsB [.long z2]) := by
      intro z2 hz2
      refine lv_lstore_n (lv' := [(3, .long z2), (6, .int (kch (f j))), (1, .ref a), (2, .int (Int32.ofNat (7 * d))), (5, .int (Int32.ofNat j))]) hx hb (by decide +kernel : decode cX7_codeOfKeyword 104 = .ok (.lstore_n 3, 1)) rfl hlB (by decide) rfl (fun lsC hlC => ?_)
      refine lv_iinc (v := Int32.ofNat (j + 1)) (lv' := [(5, .int (Int32.ofNat (j + 1))), (3, .long z2), (6, .int (kch (f j))), (1, .ref a), (2, .int (Int32.ofNat (7 * d)))]) hx hb (by decide +kernel : decode cX7_codeOfKeyword 105 = .ok (.iinc 5 1, 3)) hlC (k := 4) rfl (by rw [Int32.ofNat_add]; rfl) (by decide) rfl (fun lsE hlE => ?_)
      refine lv_goto (tgt := 61) hx hb (by decide +kernel : decode cX7_codeOfKeyword 108 = .ok (.goto (-47), 3)) (by decide) ?_
      exact ih (j + 1) z2 (by omega) (by omega) hz2 lsE (lv_sub hlE [3, 4, 1, 0] rfl)
    refine lv_iload hx hb (by decide +kernel : decode cX7_codeOfKeyword 87 = .ok (.iload 6, 2)) (lv_at hlB 0 rfl) ?_
    refine lv_bipush (v := 32) hx hb (by decide +kernel : decode cX7_codeOfKeyword 89 = .ok (.bipush 32, 2)) (by decide) ?_
    refine lv_icmp_ne (tgt := 98) hx hb (by decide +kernel : decode cX7_codeOfKeyword 91 = .ok (.if_icmp .ne 7, 3)) (by decide) (fun hne => ?_) (fun heq => ?_)
    · refine lv_lload_n hx hb (by decide +kernel : decode cX7_codeOfKeyword 98 = .ok (.lload_n 3, 1)) rfl (lv_at hlB 3 rfl) ?_
      refine lv_iload hx hb (by decide +kernel : decode cX7_codeOfKeyword 99 = .ok (.iload 6, 2)) (lv_at hlB 0 rfl) ?_
      refine k_callS (n := 2) (asx := [.long z, .int (kch (f j))]) (rx := []) (m_codeWithx l z (kch (f j))) ⟨rfl, rfl⟩ (kT_ok (base := base)) S (tbT 96 (by decide +kernel) rfl) (tbT 2 (by decide +kernel) rfl) (tbT 94 (by decide +kernel) rfl) (tbT 95 (by decide +kernel) rfl) (by decide +kernel) ⟨Nat.le_of_ble_eq_true rfl, Nat.le_of_ble_eq_true rfl⟩ trivial hS rfl hlB.1 (Nat.zero_le _) ⟨Nat.zero_le _, Nat.zero_le _⟩ (by decide +kernel : decode cX7_codeOfKeyword 101 = .ok (.invokestatic 39, 3)) (fun x hx2 => ?_)
      subst hx2
      exact fin _ (by rw [if_neg hne] at h3; exact h3)
    · refine lv_lload_n hx hb (by decide +kernel : decode cX7_codeOfKeyword 94 = .ok (.lload_n 3, 1)) rfl (lv_at hlB 3 rfl) ?_
      refine lv_goto (tgt := 104) hx hb (by decide +kernel : decode cX7_codeOfKeyword 95 = .ok (.goto 9, 3)) (by decide) ?_
      exact fin z (by rw [if_pos (by simpa using heq)] at h3; exact h3)
theorem m_cokx (l : Launch) (base w : Nat) (hw : w < 30) {r : Int64} (hr0 : kcd w = r) : Met l yX7_codeOfKeyword (Cond.code yX7_codeOfKeyword cX7_codeOfKeyword 7 (some .long) :: Tb1) (rm00 4 85) (kPc (HF1 base) [.int (Int32.ofNat w)]) (kQc (kLgx r)) 0 0 kNo := by
  refine k_met (by decide) (Nat.le_of_ble_eq_true rfl) ?_
  intro p e s m below meth c lsA S hr hlocks hH hl
  obtain ⟨hx, hb, hml, hown, hts⟩ := id S
  obtain ⟨adK, adV, h1, h2, h3, h4, h5, h6, h7, h8, h9⟩ := hH
  have hl : lv_has lsA 7 [(0, .int (Int32.ofNat w))] := hl
  have c3 : ∀ (i : Nat), i < 4 → ∀ (d : Nat), d ≤ 10 → kres i d = r → ∀ lsA : Array Slot, lv_has lsA 7 [(1, .ref (adK i)), (0, .int (Int32.ofNat w))] → W p l e (rm00 4 85) s m [Value.int (Int32.ofNat w)].toArray below meth c s.heap [] 0 0 (MQ below (kQc (kLgx r)) [Value.int (Int32.ofNat w)].toArray s 0 0 kNo) (F0 m 52 lsA [.int (Int32.ofNat d)]) := by
    intro i hi d hd hrr lsA hl
    have hF : kF base (adK i) (adV i) (scLen.getD i 0) (fun j => (scByt.getD i []).getD j 0) s := ⟨(h1.1 i hi).1, (h1.1 i hi).2.1, (h1.1 i hi).2.2.1, (h1.1 i hi).2.2.2, h6, h7⟩
    have hn : scLen.getD i 0 ≤ 1000 := by
      rcases (show i = 0 ∨ i = 1 ∨ i = 2 ∨ i = 3 by omega) with rfl | rfl | rfl | rfl <;> decide
    refine lv_bipush (v := 7) hx hb (by decide +kernel : decode cX7_codeOfKeyword 52 = .ok (.bipush 7, 2)) (by decide) ?_
    refine lv_imul hx hb (by decide +kernel : decode cX7_codeOfKeyword 54 = .ok (.imul, 1)) ?_
    have e1 : Int32.ofNat d * 7 = Int32.ofNat (7 * d) := by
      rw [Nat.mul_comm]
      exact (Int32.ofNat_mul d 7).symm
    rw [e1]
    refine lv_istore_n (lv' := [(2, .int (Int32.ofNat (7 * d))), (1, .ref (adK i)), (0, .int (Int32.ofNat w))]) hx hb (by decide +kernel : decode cX7_codeOfKeyword 55 = .ok (.istore_n 2, 1)) rfl hl (by decide) rfl (fun lsB hlB => ?_)
    refine lv_lconst (v := 0) hx hb (by decide +kernel : decode cX7_codeOfKeyword 56 = .ok (.lconst 0, 1)) (by decide) ?_
    refine lv_lstore_n (lv' := [(3, .long 0), (2, .int (Int32.ofNat (7 * d))), (1, .ref (adK i)), (0, .int (Int32.ofNat w))]) hx hb (by decide +kernel : decode cX7_codeOfKeyword 57 = .ok (.lstore_n 3, 1)) rfl hlB (by decide) rfl (fun lsC hlC => ?_)
    refine lv_iload_n hx hb (by decide +kernel : decode cX7_codeOfKeyword 58 = .ok (.iload_n 2, 1)) rfl (lv_at hlC 1 rfl) ?_
    refine lv_istore (lv' := [(5, .int (Int32.ofNat (7 * d))), (3, .long 0), (2, .int (Int32.ofNat (7 * d))), (1, .ref (adK i)), (0, .int (Int32.ofNat w))]) hx hb (by decide +kernel : decode cX7_codeOfKeyword 59 = .ok (.istore 5, 2)) hlC (by decide) rfl (fun lsE hlE => ?_)
    exact cok_loopx S hr hlocks hF hn hd 100 (7 * d) 0 (by omega) (by omega) hrr lsE (lv_sub hlE [3, 2, 1, 0] rfl)
  have c2 : ∀ (i : Nat), i < 4 → (w < 9 → kres i w = r) → (9 ≤ w → w < 19 → kres i (w - 9) = r) → (19 ≤ w → kres i (w - 19) = r) → W p l e (rm00 4 85) s m [Value.int (Int32.ofNat w)].toArray below meth c s.heap [] 0 0 (MQ below (kQc (kLgx r)) [Value.int (Int32.ofNat w)].toArray s 0 0 kNo) (F0 m 24 lsA [.ref (adK i)]) := by
    intro i hi r1 r2 r3
    refine lv_astore_n (lv' := [(1, .ref (adK i)), (0, .int (Int32.ofNat w))]) hx hb (by decide +kernel : decode cX7_codeOfKeyword 24 = .ok (.astore_n 1, 1)) rfl hl (by decide) rfl (fun lsB hlB => ?_)
    refine lv_iload_n hx hb (by decide +kernel : decode cX7_codeOfKeyword 25 = .ok (.iload_n 0, 1)) rfl (lv_at hlB 1 rfl) ?_
    refine lv_bipush (v := 9) hx hb (by decide +kernel : decode cX7_codeOfKeyword 26 = .ok (.bipush 9, 2)) (by decide) ?_
    refine lv_icmp_ge (tgt := 35) hx hb (by decide +kernel : decode cX7_codeOfKeyword 28 = .ok (.if_icmp .ge 7, 3)) (by decide) (fun q1 => ?_) (fun q1 => ?_)
    · have hw9 : 9 ≤ w := by
        rcases Nat.lt_or_ge w 9 with q | q
        · exact absurd q1 (nI_ge (a := w) (b := 9) q (by omega))
        · exact q
      refine lv_iload_n hx hb (by decide +kernel : decode cX7_codeOfKeyword 35 = .ok (.iload_n 0, 1)) rfl (lv_at hlB 1 rfl) ?_
      refine lv_bipush (v := 19) hx hb (by decide +kernel : decode cX7_codeOfKeyword 36 = .ok (.bipush 19, 2)) (by decide) ?_
      refine lv_icmp_ge (tgt := 48) hx hb (by decide +kernel : decode cX7_codeOfKeyword 38 = .ok (.if_icmp .ge 10, 3)) (by decide) (fun q2 => ?_) (fun q2 => ?_)
      · have hw19 : 19 ≤ w := by
          rcases Nat.lt_or_ge w 19 with q | q
          · exact absurd q2 (nI_ge (a := w) (b := 19) q (by omega))
          · exact q
        refine lv_iload_n hx hb (by decide +kernel : decode cX7_codeOfKeyword 48 = .ok (.iload_n 0, 1)) rfl (lv_at hlB 1 rfl) ?_
        refine lv_bipush (v := 19) hx hb (by decide +kernel : decode cX7_codeOfKeyword 49 = .ok (.bipush 19, 2)) (by decide) ?_
        refine lv_isub hx hb (by decide +kernel : decode cX7_codeOfKeyword 51 = .ok (.isub, 1)) ?_
        have e1 : Int32.ofNat w - 19 = Int32.ofNat (w - 19) := (Int32.ofNat_sub w 19 hw19).symm
        rw [e1]
        exact c3 i hi (w - 19) (by omega) (r3 hw19) lsB hlB
      · have hw19 : w < 19 := by
          rcases Nat.lt_or_ge w 19 with q | q
          · exact q
          · exact absurd (nI_le (a := 19) (b := w) q (by omega)) q2
        refine lv_iload_n hx hb (by decide +kernel : decode cX7_codeOfKeyword 41 = .ok (.iload_n 0, 1)) rfl (lv_at hlB 1 rfl) ?_
        refine lv_bipush (v := 9) hx hb (by decide +kernel : decode cX7_codeOfKeyword 42 = .ok (.bipush 9, 2)) (by decide) ?_
        refine lv_isub hx hb (by decide +kernel : decode cX7_codeOfKeyword 44 = .ok (.isub, 1)) ?_
        refine lv_goto (tgt := 52) hx hb (by decide +kernel : decode cX7_codeOfKeyword 45 = .ok (.goto 7, 3)) (by decide) ?_
        have e1 : Int32.ofNat w - 9 = Int32.ofNat (w - 9) := (Int32.ofNat_sub w 9 hw9).symm
        rw [e1]
        exact c3 i hi (w - 9) (by omega) (r2 hw9 hw19) lsB hlB
    · have hw9 : w < 9 := by
        rcases Nat.lt_or_ge w 9 with q | q
        · exact q
        · exact absurd (nI_le (a := 9) (b := w) q (by omega)) q1
      refine lv_iload_n hx hb (by decide +kernel : decode cX7_codeOfKeyword 31 = .ok (.iload_n 0, 1)) rfl (lv_at hlB 1 rfl) ?_
      refine lv_goto (tgt := 52) hx hb (by decide +kernel : decode cX7_codeOfKeyword 32 = .ok (.goto 20, 3)) (by decide) ?_
      exact c3 i hi w (by omega) (r1 hw9) lsB hlB
  refine lv_iload_n hx hb (by decide +kernel : decode cX7_codeOfKeyword 0 = .ok (.iload_n 0, 1)) rfl (lv_at hl 0 rfl) ?_
  refine lv_bipush (v := 9) hx hb (by decide +kernel : decode cX7_codeOfKeyword 1 = .ok (.bipush 9, 2)) (by decide) ?_
  refine lv_icmp_ge (tgt := 11) hx hb (by decide +kernel : decode cX7_codeOfKeyword 3 = .ok (.if_icmp .ge 8, 3)) (by decide) (fun q1 => ?_) (fun q1 => ?_)
  · refine lv_iload_n hx hb (by decide +kernel : decode cX7_codeOfKeyword 11 = .ok (.iload_n 0, 1)) rfl (lv_at hl 0 rfl) ?_
    refine lv_bipush (v := 19) hx hb (by decide +kernel : decode cX7_codeOfKeyword 12 = .ok (.bipush 19, 2)) (by decide) ?_
    refine lv_icmp_ge (tgt := 22) hx hb (by decide +kernel : decode cX7_codeOfKeyword 14 = .ok (.if_icmp .ge 8, 3)) (by decide) (fun q2 => ?_) (fun q2 => ?_)
    · refine va_ldcS hx hb hown h4 (by decide +kernel : decode cX7_codeOfKeyword 22 = .ok (.ldc 27, 2)) ?_
      have hw9 : 9 ≤ w := by
        rcases Nat.lt_or_ge w 9 with q | q
        · exact absurd q1 (nI_ge (a := w) (b := 9) q (by omega))
        · exact q
      have hw19 : 19 ≤ w := by
        rcases Nat.lt_or_ge w 19 with q | q
        · exact absurd q2 (nI_ge (a := w) (b := 19) q (by omega))
        · exact q
      rw [kcd_2 hw19] at hr0
      exact c2 2 (by omega) (fun q => by omega) (fun _ q => by omega) (fun _ => hr0)
    · refine va_ldcS hx hb hown h3 (by decide +kernel : decode cX7_codeOfKeyword 17 = .ok (.ldc 25, 2)) ?_
      refine lv_goto (tgt := 24) hx hb (by decide +kernel : decode cX7_codeOfKeyword 19 = .ok (.goto 5, 3)) (by decide) ?_
      have hw9 : 9 ≤ w := by
        rcases Nat.lt_or_ge w 9 with q | q
        · exact absurd q1 (nI_ge (a := w) (b := 9) q (by omega))
        · exact q
      have hw19 : w < 19 := by
        rcases Nat.lt_or_ge w 19 with q | q
        · exact q
        · exact absurd (nI_le (a := 19) (b := w) q (by omega)) q2
      rw [kcd_1 hw9 hw19] at hr0
      exact c2 1 (by omega) (fun q => by omega) (fun _ _ => hr0) (fun q => by omega)
  · refine va_ldcS hx hb hown h2 (by decide +kernel : decode cX7_codeOfKeyword 6 = .ok (.ldc 23, 2)) ?_
    refine lv_goto (tgt := 24) hx hb (by decide +kernel : decode cX7_codeOfKeyword 8 = .ok (.goto 16, 3)) (by decide) ?_
    have hw9 : w < 9 := by
      rcases Nat.lt_or_ge w 9 with q | q
      · exact q
      · exact absurd (nI_le (a := 9) (b := w) q (by omega)) q1
    rw [kcd_0 hw9] at hr0
    exact c2 0 (by omega) (fun _ => hr0) (fun q => by omega) (fun q => by omega)
