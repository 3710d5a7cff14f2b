/-! THE CLASS'S READER OF A TERRACE: its things have a sort each -/
noncomputable section
def zsoc : List Nat := [11, 7, 34, 35, 93, 94, 95, 96, 97, 98, 99, 100, 101, 1, 17, 18, 19, 20, 21, 1, 17, 18, 19, 20, 21, 5, 30, 1, 17, 18, 19, 20, 21, 1, 17, 18, 19, 20, 21, 1, 17, 18, 19, 20, 21, 1, 17, 18, 19, 20, 21, 1, 17, 18, 19, 20, 21, 1, 17, 18, 19, 20, 21, 1, 17, 18, 19, 20, 21, 1, 17, 18, 19, 20, 21, 1, 17, 18, 19, 20, 21, 6, 31, 32, 33, 102, 103, 104, 105, 9, 78, 79, 80, 81, 82, 83, 84, 85, 86, 87, 88, 89, 90, 91, 92, 0, 13, 14, 15, 16, 10, 44, 45, 46, 47, 3, 22, 23, 4, 24, 25, 26, 27, 28, 29, 2, 48, 49, 50, 8, 36, 37, 38, 39, 40, 41, 42, 43, 1, 17, 18, 19, 20, 21, 6, 31, 32, 33, 8, 36, 37, 38, 39, 40, 41, 42, 43, 1, 17, 18, 19, 20, 21, 6, 31, 32, 33, 12, 51, 52, 53, 54, 55, 56, 57, 58, 59, 60, 61, 62, 63, 64, 65, 66, 67, 68, 69, 70, 71, 72, 73, 74, 75, 76, 77]
def gstc : List aS := [.inl (8, [.inr (.inl 79), .inr (.inl 80), .inr (.inl 81), .inr (.inl 82), .inr (.inl 83), .inr (.inl 84), .inr (.inl 85), .inr (.inl 86), .inl (.ofNat 0, .ofNat 20), .inl (.negSucc 2147483647, .ofNat 2147483647)]),
  .inr (0, 3, [(1, .ofNat 0, .ofNat 6), (2, .ofNat 0, .ofNat 6), (3, .ofNat 0, .ofNat 12)], 0),
  .inr (3, 6, [], 0),
  .inr (3, 6, [], 0),
  .inr (3, 12, [], 0),
  .inr (0, 12, [(12, .ofNat 0, .ofNat 5)], 0),
  .inr (0, 20, [(20, .ofNat 0, .ofNat 11)], 0),
  .inr (0, 20, [(20, .ofNat 0, .ofNat 11)], 0),
  .inr (0, 72, [(72, .ofNat 0, .ofNat 9)], 0),
  .inl (1, [.inr (.inl 88), .inr (.inl 89), .inr (.inl 90), .inr (.inl 91), .inr (.inl 92), .inl (.negSucc 2147483647, .ofNat 2147483647), .inl (.negSucc 2147483647, .ofNat 2147483647), .inl (.negSucc 2147483647, .ofNat 2147483647), .inl (.negSucc 2147483647, .ofNat 2147483647), .inl (.negSucc 2147483647, .ofNat 2147483647)]),
  .inr (0, 12, [(12, .negSucc 0, .ofNat 5)], 0),
  .inr (0, 6, [(6, .negSucc 0, .ofNat 11)], 0),
  .inr (0, 6, [(6, .negSucc 0, .ofNat 5)], 0),
  .inr (0, 6, [(6, .negSucc 2147483647, .ofNat 2147483647)], 0),
  .inr (0, 6, [(6, .negSucc 2147483647, .ofNat 2147483647)], 0),
  .inl (8, [.inr (.inl 94), .inr (.inl 95), .inr (.inl 96), .inr (.inl 97), .inr (.inl 98), .inr (.inl 99), .inr (.inl 100), .inr (.inl 101), .inl (.ofNat 0, .ofNat 20), .inl (.negSucc 2147483647, .ofNat 2147483647)]),
  .inr (0, 3, [(1, .ofNat 0, .ofNat 6), (2, .ofNat 0, .ofNat 6), (3, .ofNat 0, .ofNat 12)], 0),
  .inr (3, 6, [], 0),
  .inr (3, 6, [], 0),
  .inr (3, 12, [], 0),
  .inr (0, 12, [(12, .ofNat 0, .ofNat 5)], 0),
  .inr (0, 20, [(20, .ofNat 0, .ofNat 11)], 0),
  .inr (0, 20, [(20, .ofNat 0, .ofNat 11)], 0),
  .inr (0, 72, [(72, .ofNat 0, .ofNat 9)], 0),
  .inl (6, [.inr (.inl 103), .inr (.inl 104), .inr (.inl 105), .inl (.ofNat 0, .ofNat 40), .inl (.ofNat 0, .ofNat 20)]),
  .inr (0, 40, [(40, .ofNat 0, .ofNat 29)], 0),
  .inr (0, 40, [(40, .ofNat 0, .ofNat 6299)], 0),
  .inr (0, 21, [(21, .negSucc 2147483647, .ofNat 2147483647)], 0)]
def gst11 : aS := .inl (11, [.inr (.inl 7), .inr (.inl 93), .inr (.inl 1), .inr (.inl 1), .inr (.inl 5), .inr (.inl 6), .inr (.inl 102), .inr (.inl 9), .inr (.inl 0), .inr (.inl 10), .inr (.inl 3), .inr (.inl 4), .inr (.inl 2), .inr (.inl 48), .inr (.inl 49), .inr (.inl 50), .inl (.negSucc 2147483647, .ofNat 2147483647)])
def gst9 : aS := .inl (9, [.inr (.inl 78), .inr (.inl 87)])
def gSTc (t : Nat) : Option aS := bif Nat.beq t 9 then some gst9 else (bif Nat.beq t 11 then some gst11 else (bif Nat.blt t 78 then gST t else eg gstc (t - 78)))
def uqc (t : Nat) : Bool := Nat.beq t 7 || (Nat.beq t 9 || (Nat.beq t 11 || (Nat.beq t 34 || (Nat.beq t 35 || (Nat.beq t 0 || ((Nat.ble 13 t && Nat.ble t 16) || (Nat.ble 78 t && Nat.ble t 105)))))))
def zGC (E : zE) (md : aMd) (w : va_W) (mi : eM) (pc : Nat) (ls : List (Nat × vVL)) (σ : vS) (K : vKL) : Prop := VGL E.1 E.2.1 E.2.2.1 E.2.2.2.1 E.2.2.2.2.1 E.2.2.2.2.2.1 E.2.2.2.2.2.2.1 E.2.2.2.2.2.2.2.1 E.2.2.2.2.2.2.2.2.1 E.2.2.2.2.2.2.2.2.2.1 E.2.2.2.2.2.2.2.2.2.2.1 zsoc (zad E) gSTc [] md w uqc mi pc ls [] σ K
def zOKC (E : zE) (md : aMd) (w : va_W) (m : Nat) (sp : vSpL) : Prop := ∀ q, gMT m = some q → ∀ vs σ K, sp vs σ K → zGC E md w q.1 0 (vargsL vs 0) σ K
def zSC (E : zE) (md : aMd) (w : va_W) (L : List (Nat × vSpL)) : Prop := ∀ p ∈ L, zOKC E md w p.1 p.2
abbrev zGoC (KX : Nat → Nat → Option Int) (E : zE) (md : aMd) (w : va_W) (L : List (Nat × vSpL)) (wd : List Nat) (C : List (Nat × List Nat)) (m0 : eM → Bool) (mi : eM) (pc : Nat) (ls : List (Nat × vVL)) (σ : vS) (K : vKL) : Prop := vGoL gFL gCL gMT gKI KX gSTc [] md uqc (zspL L) (zGC E md w) wd C m0 1000 mi pc ls σ K
def zchc (t a n : Nat) (lo hi : Int) : Bool := uqc t && (match gSTc t with
  | some (.inr ob) => Nat.blt ob.1 3 && (Nat.ble n ob.2.1 && (List.range n).all fun j => Nat.blt j a || (match rgAt ob.2.2.1 j with
    | some q => ieq q.1 lo && ieq q.2 hi
    | none => false))
  | _ => false)
def zchd (t f : Nat) (lo hi : Int) : Bool := uqc t && (match gSTc t with
  | some (.inl ob) => (match ob.2[f]? with
    | some (.inl q) => ieq q.1 lo && ieq q.2 hi
    | _ => false)
  | _ => false)
def zucp (t : Nat) : Nat := bif Nat.beq t 7 then 1 else (bif Nat.beq t 11 then 0 else bif Nat.beq t 9 then 89 else (bif Nat.beq t 34 then 2 else (bif Nat.beq t 35 then 3 else (bif Nat.beq t 0 then 105 else (bif Nat.ble t 16 then t + 93 else (bif Nat.ble t 92 then t + 12 else (bif Nat.ble t 101 then t - 89 else t - 17)))))))
end
theorem zsoc_u : (zsoc.zipIdx.all fun q => !(uqc q.1) || Nat.beq q.2 (zucp q.1)) = true := by decide +kernel
theorem zsoc_e : ∀ t, t < 106 → uqc t = true → zsoc[zucp t]? = some t := by decide +kernel
theorem uqc_lt {t : Nat} (h : uqc t = true) : t < 106 := by
  unfold uqc at h
  simp only [Bool.or_eq_true, Bool.and_eq_true] at h
  rcases h with h | h | h | h | h | h | h | h
  · have := Nat.eq_of_beq_eq_true h; omega
  · have := Nat.eq_of_beq_eq_true h; omega
  · have := Nat.eq_of_beq_eq_true h; omega
  · have := Nat.eq_of_beq_eq_true h; omega
  · have := Nat.eq_of_beq_eq_true h; omega
  · have := Nat.eq_of_beq_eq_true h; omega
  · have := Nat.le_of_ble_eq_true h.2; omega
  · have := Nat.le_of_ble_eq_true h.2; omega
theorem zsoc_1 {o t : Nat} (h : zsoc[o]? = some t) (hu : uqc t = true) : o = zucp t := by
  have h2 := List.all_eq_true.mp zsoc_u (t, o) (List.mem_zipIdx_iff_getElem?.mpr h)
  rw [hu] at h2
  exact Nat.eq_of_beq_eq_true h2
theorem zsoc_2 : ∀ t, uqc t = true → ∀ o o2 : Nat, zsoc[o]? = some t → zsoc[o2]? = some t → o = o2 := fun t hu _ _ h1 h2 => (zsoc_1 h1 hu).trans (zsoc_1 h2 hu).symm
section ZC0
variable {KX : Nat → Nat → Option Int} {E : zE} {md : aMd} {w : va_W} {L : List (Nat × vSpL)} {mi : eM} {pc : Nat} {ls : List (Nat × vVL)} {σ : vS} {K : vKL}
theorem zgoC (X : zX KX E) (B : zB E) (S : zSC E md w L) (wd : List Nat) (C : List (Nat × List Nat)) (m0 : eM → Bool) (hlen : elens mi = true) (h : zGoC KX E md w L wd C m0 mi pc ls σ K) : zGC E md w mi pc ls σ K := by
  obtain ⟨b1, b2, b3, b4, b5, b6, b7, b8⟩ := B
  refine v_goL (SP := zspL L) ⟨b1, b2, b3, b4, b5, X, zsoc_2, ?_⟩ wd C m0 1000 (fun q hq => List.all_eq_true.mp hlen q hq) h
  intro mno q sp hq hsp vs σ K hv
  exact S _ (zsp_okL hsp) q hq vs σ K hv
theorem zbdC (h : vBdL zsoc gSTc uqc σ → zGC E md w mi pc ls σ K) : zGC E md w mi pc ls σ K := VG_bdL h
theorem zfC (hb : vBdL zsoc gSTc uqc σ) {t f : Nat} {lo hi : Int} (hk : zchd t f lo hi = true) : lo ≤ σ t (f : Int) ∧ σ t (f : Int) ≤ hi := by
  unfold zchd at hk
  rw [Bool.and_eq_true] at hk
  obtain ⟨hu, hk⟩ := hk
  split at hk
  · rename_i ob hob
    split at hk
    · rename_i q hq
      rw [Bool.and_eq_true, ieq_iff, ieq_iff] at hk
      rw [← hk.1, ← hk.2]
      exact (hb t hu ⟨_, zsoc_e t (uqc_lt hu) hu⟩).1 ob hob f q hq
    · cases hk
  · cases hk
theorem zbC (hb : vBdL zsoc gSTc uqc σ) {t a n : Nat} {lo hi : Int} (hk : zchc t a n lo hi = true) {i : Int} (h1 : (a : Int) ≤ i) (h2 : i < (n : Int)) : lo ≤ σ t i ∧ σ t i ≤ hi := by
  unfold zchc at hk
  rw [Bool.and_eq_true] at hk
  obtain ⟨hu, hk⟩ := hk
  split at hk
  · rename_i ob hob
    rw [Bool.and_eq_true, Bool.and_eq_true] at hk
    obtain ⟨k1, k2, k3⟩ := hk
    have k1 : ob.1 < 3 := Nat.le_of_ble_eq_true k1
    have k2 := Nat.le_of_ble_eq_true k2
    have hj : i.toNat < n := by omega
    have k3 := List.all_eq_true.mp k3 i.toNat (List.mem_range.mpr hj)
    rw [Bool.or_eq_true] at k3
    obtain ⟨q, g1, g2⟩ := (hb t hu ⟨_, zsoc_e t (uqc_lt hu) hu⟩).2 ob hob k1 i.toNat (by omega)
    rw [g1] at k3
    have e : ((i.toNat : Nat) : Int) = i := by omega
    rw [e] at g2
    rcases k3 with k3 | k3
    · have : i.toNat < a := Nat.le_of_ble_eq_true k3
      omega
    · have k3 : (ieq q.1 lo && ieq q.2 hi) = true := k3
      rw [Bool.and_eq_true, ieq_iff, ieq_iff] at k3
      rw [← k3.1, ← k3.2]
      exact g2
  · cases hk
theorem zS_nilC : zSC E md w [] := fun p hp => absurd hp List.not_mem_nil
theorem zS_consC {m : Nat} {sp : vSpL} (h : zOKC E md w m sp) (t : zSC E md w L) : zSC E md w ((m, sp) :: L) := fun p hp => by
  rcases List.mem_cons.mp hp with rfl | hp
  · exact h
  · exact t p hp
end ZC0
