theorem ga1_mem {α : Type} {i : Nat} {v : α} : ∀ {l : List (Nat × α)}, ga1 l i = some v → (i, v) ∈ l
  | [], h => by cases h
  | q :: l, h => by
    have h : (bif Nat.beq q.1 i then some q.2 else ga1 l i) = some v := h
    cases hb : Nat.beq q.1 i with
    | true =>
      rw [hb] at h
      have h : some q.2 = some v := h
      cases h
      rw [← Nat.eq_of_beq_eq_true hb]
      exact List.mem_cons_self
    | false =>
      rw [hb] at h
      exact List.mem_cons_of_mem _ (ga1_mem h)
/-- what holds of every row of a table -/
def eAll {α : Type} (P : Nat → α → Prop) : Nat → List (List α) → Prop
  | _, [] => True
  | o, r :: rs => (∀ x ∈ r, P o x) ∧ eAll P (o + 1) rs
theorem eAll_at {α : Type} {P : Nat → α → Prop} : ∀ {l : List (List α)} {o k : Nat} {r : List α}, eAll P k l → l[o]? = some r → ∀ x ∈ r, P (k + o) x
  | [], o, _, _, _, h => by simp at h
  | r0 :: l, 0, k, r, h, hr => by
    rw [List.getElem?_cons_zero] at hr
    cases hr
    exact h.1
  | r0 :: l, o + 1, k, r, h, hr => by
    rw [List.getElem?_cons_succ] at hr
    have := eAll_at h.2 hr
    rwa [show k + 1 + o = k + (o + 1) by omega] at this
theorem ga2_all {α : Type} {l : List (List (Nat × α))} {P : Nat → Nat × α → Prop} (h : eAll P 0 l) {o i : Nat} {v : α} (hv : ga2 l o i = some v) : P o (i, v) := by
  unfold ga2 at hv
  rw [eg_eq] at hv
  split at hv
  · rename_i r hr
    have := eAll_at h hr _ (ga1_mem hv)
    rwa [Nat.zero_add] at this
  · cases hv
def pFL (o : Nat) (x : Nat × Nat × Nat × Nat) : Prop := ∃ (T : u_T) (N : Nat) (ty : Nat → FieldType), vwCl[x.2.1]? = some (eCN x.2.1, T, N) ∧ (∀ w ∈ u_ws (eCN x.2.1) T N, w ∈ Tb1) ∧ (∀ k, k < N → parseFieldDescriptor (T k).2.2.1 = some (ty k)) ∧ (∀ a, a < N → ∀ c, c < N → a ≠ c → (T a).2.1 ≠ (T c).2.1)
  ∧ x.2.2.1 < N ∧ Cond.fieldLink (eCN o) x.1 (T x.2.2.1).1 (T x.2.2.1).2.1 (T x.2.2.1).2.2.1 ∈ Tb1 ∧ (T x.2.2.1).2.2.2 = Nat.ble 10 x.2.2.2 ∧ (Nat.ble 10 x.2.2.2 = true → Nat.blt x.2.2.2 20 = true → (T x.2.2.1).1 = eCN o) ∧ eFk (x.2.2.2 % 10) (ty x.2.2.1)
theorem vfl_0_9 : pFL 0 (9, 0, 0, 12) := ⟨TX0, 10, tyX0, rfl, inT0, tyX0_ok, nmX0, by decide, tbT 325 (by decide +kernel) rfl, rfl, (fun _ _ => rfl), Or.inr (Or.inr (Or.inl ⟨rfl, Or.inr ⟨_, rfl⟩⟩))⟩
theorem vfl_0_15 : pFL 0 (15, 0, 1, 12) := ⟨TX0, 10, tyX0, rfl, inT0, tyX0_ok, nmX0, by decide, tbT 326 (by decide +kernel) rfl, rfl, (fun _ _ => rfl), Or.inr (Or.inr (Or.inl ⟨rfl, Or.inr ⟨_, rfl⟩⟩))⟩
theorem vfl_0_18 : pFL 0 (18, 0, 2, 12) := ⟨TX0, 10, tyX0, rfl, inT0, tyX0_ok, nmX0, by decide, tbT 327 (by decide +kernel) rfl, rfl, (fun _ _ => rfl), Or.inr (Or.inr (Or.inl ⟨rfl, Or.inr ⟨_, rfl⟩⟩))⟩
theorem vfl_0_21 : pFL 0 (21, 0, 3, 12) := ⟨TX0, 10, tyX0, rfl, inT0, tyX0_ok, nmX0, by decide, tbT 328 (by decide +kernel) rfl, rfl, (fun _ _ => rfl), Or.inr (Or.inr (Or.inl ⟨rfl, Or.inr ⟨_, rfl⟩⟩))⟩
theorem vfl_0_24 : pFL 0 (24, 0, 4, 0) := ⟨TX0, 10, tyX0, rfl, inT0, tyX0_ok, nmX0, by decide, tbT 329 (by decide +kernel) rfl, rfl, (fun h => by cases h), Or.inl ⟨rfl, rfl⟩⟩
theorem vfl_0_34 : pFL 0 (34, 7, 4, 0) := ⟨TX7, 11, tyX7, rfl, inT7, tyX7_ok, nmX7, by decide, tbT 105 (by decide +kernel) rfl, rfl, (fun h => by cases h), Or.inl ⟨rfl, rfl⟩⟩
theorem vfl_0_79 : pFL 0 (79, 1, 6, 0) := ⟨TX1, 10, tyX1, rfl, inT1, tyX1_ok, nmX1, by decide, tbT 226 (by decide +kernel) rfl, rfl, (fun h => by cases h), Or.inl ⟨rfl, rfl⟩⟩
theorem vfl_0_84 : pFL 0 (84, 0, 6, 0) := ⟨TX0, 10, tyX0, rfl, inT0, tyX0_ok, nmX0, by decide, tbT 332 (by decide +kernel) rfl, rfl, (fun h => by cases h), Or.inl ⟨rfl, rfl⟩⟩
theorem vfl_0_87 : pFL 0 (87, 0, 7, 0) := ⟨TX0, 10, tyX0, rfl, inT0, tyX0_ok, nmX0, by decide, tbT 334 (by decide +kernel) rfl, rfl, (fun h => by cases h), Or.inl ⟨rfl, rfl⟩⟩
theorem vfl_0_94 : pFL 0 (94, 0, 5, 1) := ⟨TX0, 10, tyX0, rfl, inT0, tyX0_ok, nmX0, by decide, tbT 330 (by decide +kernel) rfl, rfl, (fun h => by cases h), Or.inr (Or.inl ⟨rfl, rfl⟩)⟩
theorem vfl_0_98 : pFL 0 (98, 1, 8, 0) := ⟨TX1, 10, tyX1, rfl, inT1, tyX1_ok, nmX1, by decide, tbT 234 (by decide +kernel) rfl, rfl, (fun h => by cases h), Or.inl ⟨rfl, rfl⟩⟩
theorem vfl_0_101 : pFL 0 (101, 0, 8, 0) := ⟨TX0, 10, tyX0, rfl, inT0, tyX0_ok, nmX0, by decide, tbT 336 (by decide +kernel) rfl, rfl, (fun h => by cases h), Or.inl ⟨rfl, rfl⟩⟩
theorem vfl_0_104 : pFL 0 (104, 0, 9, 0) := ⟨TX0, 10, tyX0, rfl, inT0, tyX0_ok, nmX0, by decide, tbT 338 (by decide +kernel) rfl, rfl, (fun h => by cases h), Or.inl ⟨rfl, rfl⟩⟩
theorem vfl_0_128 : pFL 0 (128, 8, 8, 0) := ⟨TX8, 10, tyX8, rfl, inT8, tyX8_ok, nmX8, by decide, tbT 166 (by decide +kernel) rfl, rfl, (fun h => by cases h), Or.inl ⟨rfl, rfl⟩⟩
theorem vfl_0 : ∀ x ∈ gfl_0, pFL 0 x := List.forall_mem_cons.mpr ⟨vfl_0_9, List.forall_mem_cons.mpr ⟨vfl_0_15, List.forall_mem_cons.mpr ⟨vfl_0_18, List.forall_mem_cons.mpr ⟨vfl_0_21, List.forall_mem_cons.mpr ⟨vfl_0_24, List.forall_mem_cons.mpr ⟨vfl_0_34, List.forall_mem_cons.mpr ⟨vfl_0_79, List.forall_mem_cons.mpr ⟨vfl_0_84, List.forall_mem_cons.mpr ⟨vfl_0_87, List.forall_mem_cons.mpr ⟨vfl_0_94, List.forall_mem_cons.mpr ⟨vfl_0_98, List.forall_mem_cons.mpr ⟨vfl_0_101, List.forall_mem_cons.mpr ⟨vfl_0_104, List.forall_mem_cons.mpr ⟨vfl_0_128, fun _ h => absurd h List.not_mem_nil⟩⟩⟩⟩⟩⟩⟩⟩⟩⟩⟩⟩⟩⟩
theorem vfl_1_9 : pFL 1 (9, 1, 0, 12) := ⟨TX1, 10, tyX1, rfl, inT1, tyX1_ok, nmX1, by decide, tbT 202 (by decide +kernel) rfl, rfl, (fun _ _ => rfl), Or.inr (Or.inr (Or.inl ⟨rfl, Or.inr ⟨_, rfl⟩⟩))⟩
theorem vfl_1_15 : pFL 1 (15, 1, 1, 12) := ⟨TX1, 10, tyX1, rfl, inT1, tyX1_ok, nmX1, by decide, tbT 207 (by decide +kernel) rfl, rfl, (fun _ _ => rfl), Or.inr (Or.inr (Or.inl ⟨rfl, Or.inr ⟨_, rfl⟩⟩))⟩
theorem vfl_1_18 : pFL 1 (18, 1, 2, 12) := ⟨TX1, 10, tyX1, rfl, inT1, tyX1_ok, nmX1, by decide, tbT 211 (by decide +kernel) rfl, rfl, (fun _ _ => rfl), Or.inr (Or.inr (Or.inl ⟨rfl, Or.inr ⟨_, rfl⟩⟩))⟩
theorem vfl_1_21 : pFL 1 (21, 1, 3, 12) := ⟨TX1, 10, tyX1, rfl, inT1, tyX1_ok, nmX1, by decide, tbT 214 (by decide +kernel) rfl, rfl, (fun _ _ => rfl), Or.inr (Or.inr (Or.inl ⟨rfl, Or.inr ⟨_, rfl⟩⟩))⟩
theorem vfl_1_24 : pFL 1 (24, 1, 4, 12) := ⟨TX1, 10, tyX1, rfl, inT1, tyX1_ok, nmX1, by decide, tbT 217 (by decide +kernel) rfl, rfl, (fun _ _ => rfl), Or.inr (Or.inr (Or.inl ⟨rfl, Or.inr ⟨_, rfl⟩⟩))⟩
theorem vfl_1_33 : pFL 1 (33, 1, 5, 0) := ⟨TX1, 10, tyX1, rfl, inT1, tyX1_ok, nmX1, by decide, tbT 220 (by decide +kernel) rfl, rfl, (fun h => by cases h), Or.inl ⟨rfl, rfl⟩⟩
theorem vfl_1_37 : pFL 1 (37, 1, 6, 0) := ⟨TX1, 10, tyX1, rfl, inT1, tyX1_ok, nmX1, by decide, tbT 225 (by decide +kernel) rfl, rfl, (fun h => by cases h), Or.inl ⟨rfl, rfl⟩⟩
theorem vfl_1_40 : pFL 1 (40, 1, 7, 0) := ⟨TX1, 10, tyX1, rfl, inT1, tyX1_ok, nmX1, by decide, tbT 229 (by decide +kernel) rfl, rfl, (fun h => by cases h), Or.inl ⟨rfl, rfl⟩⟩
theorem vfl_1_43 : pFL 1 (43, 1, 8, 0) := ⟨TX1, 10, tyX1, rfl, inT1, tyX1_ok, nmX1, by decide, tbT 232 (by decide +kernel) rfl, rfl, (fun h => by cases h), Or.inl ⟨rfl, rfl⟩⟩
theorem vfl_1_46 : pFL 1 (46, 1, 9, 0) := ⟨TX1, 10, tyX1, rfl, inT1, tyX1_ok, nmX1, by decide, tbT 235 (by decide +kernel) rfl, rfl, (fun h => by cases h), Or.inl ⟨rfl, rfl⟩⟩
theorem vfl_1_82 : pFL 1 (82, 8, 9, 0) := ⟨TX8, 10, tyX8, rfl, inT8, tyX8_ok, nmX8, by decide, tbT 170 (by decide +kernel) rfl, rfl, (fun h => by cases h), Or.inl ⟨rfl, rfl⟩⟩
theorem vfl_1 : ∀ x ∈ gfl_1, pFL 1 x := List.forall_mem_cons.mpr ⟨vfl_1_9, List.forall_mem_cons.mpr ⟨vfl_1_15, List.forall_mem_cons.mpr ⟨vfl_1_18, List.forall_mem_cons.mpr ⟨vfl_1_21, List.forall_mem_cons.mpr ⟨vfl_1_24, List.forall_mem_cons.mpr ⟨vfl_1_33, List.forall_mem_cons.mpr ⟨vfl_1_37, List.forall_mem_cons.mpr ⟨vfl_1_40, List.forall_mem_cons.mpr ⟨vfl_1_43, List.forall_mem_cons.mpr ⟨vfl_1_46, List.forall_mem_cons.mpr ⟨vfl_1_82, fun _ h => absurd h List.not_mem_nil⟩⟩⟩⟩⟩⟩⟩⟩⟩⟩⟩
theorem vfl_2_9 : pFL 2 (9, 2, 0, 0) := ⟨TX2, 1, tyX2, rfl, inT2, tyX2_ok, nmX2, by decide, tbT 444 (by decide +kernel) rfl, rfl, (fun h => by cases h), Or.inl ⟨rfl, rfl⟩⟩
theorem vfl_2 : ∀ x ∈ gfl_2, pFL 2 x := List.forall_mem_cons.mpr ⟨vfl_2_9, fun _ h => absurd h List.not_mem_nil⟩
theorem vfl_3_9 : pFL 3 (9, 3, 0, 12) := ⟨TX3, 2, tyX3, rfl, inT3, tyX3_ok, nmX3, by decide, tbT 395 (by decide +kernel) rfl, rfl, (fun _ _ => rfl), Or.inr (Or.inr (Or.inl ⟨rfl, Or.inr ⟨_, rfl⟩⟩))⟩
theorem vfl_3_15 : pFL 3 (15, 3, 1, 12) := ⟨TX3, 2, tyX3, rfl, inT3, tyX3_ok, nmX3, by decide, tbT 396 (by decide +kernel) rfl, rfl, (fun _ _ => rfl), Or.inr (Or.inr (Or.inl ⟨rfl, Or.inr ⟨_, rfl⟩⟩))⟩
theorem vfl_3_18 : pFL 3 (18, 1, 5, 0) := ⟨TX1, 10, tyX1, rfl, inT1, tyX1_ok, nmX1, by decide, tbT 219 (by decide +kernel) rfl, rfl, (fun h => by cases h), Or.inl ⟨rfl, rfl⟩⟩
theorem vfl_3_24 : pFL 3 (24, 1, 7, 0) := ⟨TX1, 10, tyX1, rfl, inT1, tyX1_ok, nmX1, by decide, tbT 228 (by decide +kernel) rfl, rfl, (fun h => by cases h), Or.inl ⟨rfl, rfl⟩⟩
theorem vfl_3_51 : pFL 3 (51, 8, 8, 0) := ⟨TX8, 10, tyX8, rfl, inT8, tyX8_ok, nmX8, by decide, tbT 163 (by decide +kernel) rfl, rfl, (fun h => by cases h), Or.inl ⟨rfl, rfl⟩⟩
theorem vfl_3_54 : pFL 3 (54, 8, 9, 0) := ⟨TX8, 10, tyX8, rfl, inT8, tyX8_ok, nmX8, by decide, tbT 168 (by decide +kernel) rfl, rfl, (fun h => by cases h), Or.inl ⟨rfl, rfl⟩⟩
theorem vfl_3_57 : pFL 3 (57, 8, 5, 22) := ⟨TX8, 10, tyX8, rfl, inT8, tyX8_ok, nmX8, by decide, tbT 156 (by decide +kernel) rfl, rfl, (fun _ h => by cases h), Or.inr (Or.inr (Or.inl ⟨rfl, Or.inr ⟨_, rfl⟩⟩))⟩
theorem vfl_3_60 : pFL 3 (60, 8, 6, 22) := ⟨TX8, 10, tyX8, rfl, inT8, tyX8_ok, nmX8, by decide, tbT 159 (by decide +kernel) rfl, rfl, (fun _ h => by cases h), Or.inr (Or.inr (Or.inl ⟨rfl, Or.inr ⟨_, rfl⟩⟩))⟩
theorem vfl_3 : ∀ x ∈ gfl_3, pFL 3 x := List.forall_mem_cons.mpr ⟨vfl_3_9, List.forall_mem_cons.mpr ⟨vfl_3_15, List.forall_mem_cons.mpr ⟨vfl_3_18, List.forall_mem_cons.mpr ⟨vfl_3_24, List.forall_mem_cons.mpr ⟨vfl_3_51, List.forall_mem_cons.mpr ⟨vfl_3_54, List.forall_mem_cons.mpr ⟨vfl_3_57, List.forall_mem_cons.mpr ⟨vfl_3_60, fun _ h => absurd h List.not_mem_nil⟩⟩⟩⟩⟩⟩⟩⟩
theorem vfl_4_9 : pFL 4 (9, 4, 0, 12) := ⟨TX4, 8, tyX4, rfl, inT4, tyX4_ok, nmX4, by decide, tbT 408 (by decide +kernel) rfl, rfl, (fun _ _ => rfl), Or.inr (Or.inr (Or.inl ⟨rfl, Or.inr ⟨_, rfl⟩⟩))⟩
theorem vfl_4_15 : pFL 4 (15, 4, 2, 12) := ⟨TX4, 8, tyX4, rfl, inT4, tyX4_ok, nmX4, by decide, tbT 412 (by decide +kernel) rfl, rfl, (fun _ _ => rfl), Or.inr (Or.inr (Or.inl ⟨rfl, Or.inr ⟨_, rfl⟩⟩))⟩
theorem vfl_4_18 : pFL 4 (18, 4, 3, 12) := ⟨TX4, 8, tyX4, rfl, inT4, tyX4_ok, nmX4, by decide, tbT 414 (by decide +kernel) rfl, rfl, (fun _ _ => rfl), Or.inr (Or.inr (Or.inl ⟨rfl, Or.inr ⟨_, rfl⟩⟩))⟩
theorem vfl_4_21 : pFL 4 (21, 4, 5, 12) := ⟨TX4, 8, tyX4, rfl, inT4, tyX4_ok, nmX4, by decide, tbT 418 (by decide +kernel) rfl, rfl, (fun _ _ => rfl), Or.inr (Or.inr (Or.inl ⟨rfl, Or.inr ⟨_, rfl⟩⟩))⟩
theorem vfl_4_24 : pFL 4 (24, 4, 6, 12) := ⟨TX4, 8, tyX4, rfl, inT4, tyX4_ok, nmX4, by decide, tbT 419 (by decide +kernel) rfl, rfl, (fun _ _ => rfl), Or.inr (Or.inr (Or.inl ⟨rfl, Or.inr ⟨_, rfl⟩⟩))⟩
theorem vfl_4_27 : pFL 4 (27, 4, 7, 12) := ⟨TX4, 8, tyX4, rfl, inT4, tyX4_ok, nmX4, by decide, tbT 420 (by decide +kernel) rfl, rfl, (fun _ _ => rfl), Or.inr (Or.inr (Or.inl ⟨rfl, Or.inr ⟨_, rfl⟩⟩))⟩
theorem vfl_4_30 : pFL 4 (30, 4, 1, 0) := ⟨TX4, 8, tyX4, rfl, inT4, tyX4_ok, nmX4, by decide, tbT 410 (by decide +kernel) rfl, rfl, (fun h => by cases h), Or.inl ⟨rfl, rfl⟩⟩
theorem vfl_4_61 : pFL 4 (61, 1, 0, 22) := ⟨TX1, 10, tyX1, rfl, inT1, tyX1_ok, nmX1, by decide, tbT 204 (by decide +kernel) rfl, rfl, (fun _ h => by cases h), Or.inr (Or.inr (Or.inl ⟨rfl, Or.inr ⟨_, rfl⟩⟩))⟩
theorem vfl_4_70 : pFL 4 (70, 1, 5, 0) := ⟨TX1, 10, tyX1, rfl, inT1, tyX1_ok, nmX1, by decide, tbT 222 (by decide +kernel) rfl, rfl, (fun h => by cases h), Or.inl ⟨rfl, rfl⟩⟩
theorem vfl_4_91 : pFL 4 (91, 4, 4, 1) := ⟨TX4, 8, tyX4, rfl, inT4, tyX4_ok, nmX4, by decide, tbT 416 (by decide +kernel) rfl, rfl, (fun h => by cases h), Or.inr (Or.inl ⟨rfl, rfl⟩)⟩
theorem vfl_4 : ∀ x ∈ gfl_4, pFL 4 x := List.forall_mem_cons.mpr ⟨vfl_4_9, List.forall_mem_cons.mpr ⟨vfl_4_15, List.forall_mem_cons.mpr ⟨vfl_4_18, List.forall_mem_cons.mpr ⟨vfl_4_21, List.forall_mem_cons.mpr ⟨vfl_4_24, List.forall_mem_cons.mpr ⟨vfl_4_27, List.forall_mem_cons.mpr ⟨vfl_4_30, List.forall_mem_cons.mpr ⟨vfl_4_61, List.forall_mem_cons.mpr ⟨vfl_4_70, List.forall_mem_cons.mpr ⟨vfl_4_91, fun _ h => absurd h List.not_mem_nil⟩⟩⟩⟩⟩⟩⟩⟩⟩⟩
theorem vfl_5_13 : pFL 5 (13, 5, 0, 12) := ⟨TX5, 3, tyX5, rfl, inT5, tyX5_ok, nmX5, by decide, tbT 267 (by decide +kernel) rfl, rfl, (fun _ _ => rfl), Or.inr (Or.inr (Or.inl ⟨rfl, Or.inr ⟨_, rfl⟩⟩))⟩
theorem vfl_5_18 : pFL 5 (18, 5, 1, 0) := ⟨TX5, 3, tyX5, rfl, inT5, tyX5_ok, nmX5, by decide, tbT 268 (by decide +kernel) rfl, rfl, (fun h => by cases h), Or.inl ⟨rfl, rfl⟩⟩
theorem vfl_5_22 : pFL 5 (22, 5, 2, 0) := ⟨TX5, 3, tyX5, rfl, inT5, tyX5_ok, nmX5, by decide, tbT 269 (by decide +kernel) rfl, rfl, (fun h => by cases h), Or.inl ⟨rfl, rfl⟩⟩
theorem vfl_5 : ∀ x ∈ gfl_5, pFL 5 x := List.forall_mem_cons.mpr ⟨vfl_5_13, List.forall_mem_cons.mpr ⟨vfl_5_18, List.forall_mem_cons.mpr ⟨vfl_5_22, fun _ h => absurd h List.not_mem_nil⟩⟩⟩
theorem vfl_6_11 : pFL 6 (11, 6, 0, 12) := ⟨TX6, 5, tyX6, rfl, inT6, tyX6_ok, nmX6, by decide, tbT 283 (by decide +kernel) rfl, rfl, (fun _ _ => rfl), Or.inr (Or.inr (Or.inl ⟨rfl, Or.inr ⟨_, rfl⟩⟩))⟩
theorem vfl_6_15 : pFL 6 (15, 6, 1, 12) := ⟨TX6, 5, tyX6, rfl, inT6, tyX6_ok, nmX6, by decide, tbT 284 (by decide +kernel) rfl, rfl, (fun _ _ => rfl), Or.inr (Or.inr (Or.inl ⟨rfl, Or.inr ⟨_, rfl⟩⟩))⟩
theorem vfl_6_18 : pFL 6 (18, 6, 2, 12) := ⟨TX6, 5, tyX6, rfl, inT6, tyX6_ok, nmX6, by decide, tbT 285 (by decide +kernel) rfl, rfl, (fun _ _ => rfl), Or.inr (Or.inr (Or.inl ⟨rfl, Or.inr ⟨_, rfl⟩⟩))⟩
theorem vfl_6_21 : pFL 6 (21, 6, 3, 0) := ⟨TX6, 5, tyX6, rfl, inT6, tyX6_ok, nmX6, by decide, tbT 286 (by decide +kernel) rfl, rfl, (fun h => by cases h), Or.inl ⟨rfl, rfl⟩⟩
theorem vfl_6_25 : pFL 6 (25, 6, 4, 0) := ⟨TX6, 5, tyX6, rfl, inT6, tyX6_ok, nmX6, by decide, tbT 287 (by decide +kernel) rfl, rfl, (fun h => by cases h), Or.inl ⟨rfl, rfl⟩⟩
theorem vfl_6_47 : pFL 6 (47, 7, 4, 0) := ⟨TX7, 11, tyX7, rfl, inT7, tyX7_ok, nmX7, by decide, tbT 107 (by decide +kernel) rfl, rfl, (fun h => by cases h), Or.inl ⟨rfl, rfl⟩⟩
theorem vfl_6_86 : pFL 6 (86, 7, 6, 0) := ⟨TX7, 11, tyX7, rfl, inT7, tyX7_ok, nmX7, by decide, tbT 111 (by decide +kernel) rfl, rfl, (fun h => by cases h), Or.inl ⟨rfl, rfl⟩⟩
theorem vfl_6_102 : pFL 6 (102, 1, 5, 0) := ⟨TX1, 10, tyX1, rfl, inT1, tyX1_ok, nmX1, by decide, tbT 224 (by decide +kernel) rfl, rfl, (fun h => by cases h), Or.inl ⟨rfl, rfl⟩⟩
theorem vfl_6 : ∀ x ∈ gfl_6, pFL 6 x := List.forall_mem_cons.mpr ⟨vfl_6_11, List.forall_mem_cons.mpr ⟨vfl_6_15, List.forall_mem_cons.mpr ⟨vfl_6_18, List.forall_mem_cons.mpr ⟨vfl_6_21, List.forall_mem_cons.mpr ⟨vfl_6_25, List.forall_mem_cons.mpr ⟨vfl_6_47, List.forall_mem_cons.mpr ⟨vfl_6_86, List.forall_mem_cons.mpr ⟨vfl_6_102, fun _ h => absurd h List.not_mem_nil⟩⟩⟩⟩⟩⟩⟩⟩
theorem vfl_7_9 : pFL 7 (9, 7, 0, 12) := ⟨TX7, 11, tyX7, rfl, inT7, tyX7_ok, nmX7, by decide, tbT 98 (by decide +kernel) rfl, rfl, (fun _ _ => rfl), Or.inr (Or.inr (Or.inl ⟨rfl, Or.inr ⟨_, rfl⟩⟩))⟩
theorem vfl_7_15 : pFL 7 (15, 7, 8, 12) := ⟨TX7, 11, tyX7, rfl, inT7, tyX7_ok, nmX7, by decide, tbT 114 (by decide +kernel) rfl, rfl, (fun _ _ => rfl), Or.inr (Or.inr (Or.inl ⟨rfl, Or.inr ⟨_, rfl⟩⟩))⟩
theorem vfl_7_45 : pFL 7 (45, 7, 1, 0) := ⟨TX7, 11, tyX7, rfl, inT7, tyX7_ok, nmX7, by decide, tbT 100 (by decide +kernel) rfl, rfl, (fun h => by cases h), Or.inl ⟨rfl, rfl⟩⟩
theorem vfl_7_48 : pFL 7 (48, 7, 9, 0) := ⟨TX7, 11, tyX7, rfl, inT7, tyX7_ok, nmX7, by decide, tbT 115 (by decide +kernel) rfl, rfl, (fun h => by cases h), Or.inl ⟨rfl, rfl⟩⟩
theorem vfl_7_51 : pFL 7 (51, 7, 10, 0) := ⟨TX7, 11, tyX7, rfl, inT7, tyX7_ok, nmX7, by decide, tbT 116 (by decide +kernel) rfl, rfl, (fun h => by cases h), Or.inl ⟨rfl, rfl⟩⟩
theorem vfl_7_54 : pFL 7 (54, 7, 2, 0) := ⟨TX7, 11, tyX7, rfl, inT7, tyX7_ok, nmX7, by decide, tbT 102 (by decide +kernel) rfl, rfl, (fun h => by cases h), Or.inl ⟨rfl, rfl⟩⟩
theorem vfl_7_57 : pFL 7 (57, 7, 3, 0) := ⟨TX7, 11, tyX7, rfl, inT7, tyX7_ok, nmX7, by decide, tbT 104 (by decide +kernel) rfl, rfl, (fun h => by cases h), Or.inl ⟨rfl, rfl⟩⟩
theorem vfl_7_77 : pFL 7 (77, 7, 6, 0) := ⟨TX7, 11, tyX7, rfl, inT7, tyX7_ok, nmX7, by decide, tbT 110 (by decide +kernel) rfl, rfl, (fun h => by cases h), Or.inl ⟨rfl, rfl⟩⟩
theorem vfl_7_80 : pFL 7 (80, 7, 5, 0) := ⟨TX7, 11, tyX7, rfl, inT7, tyX7_ok, nmX7, by decide, tbT 109 (by decide +kernel) rfl, rfl, (fun h => by cases h), Or.inl ⟨rfl, rfl⟩⟩
theorem vfl_7_83 : pFL 7 (83, 7, 4, 0) := ⟨TX7, 11, tyX7, rfl, inT7, tyX7_ok, nmX7, by decide, tbT 108 (by decide +kernel) rfl, rfl, (fun h => by cases h), Or.inl ⟨rfl, rfl⟩⟩
theorem vfl_7_96 : pFL 7 (96, 7, 7, 3) := ⟨TX7, 11, tyX7, rfl, inT7, tyX7_ok, nmX7, by decide, tbT 113 (by decide +kernel) rfl, rfl, (fun h => by cases h), Or.inr (Or.inr (Or.inr ⟨rfl, rfl⟩))⟩
theorem vfl_7 : ∀ x ∈ gfl_7, pFL 7 x := List.forall_mem_cons.mpr ⟨vfl_7_9, List.forall_mem_cons.mpr ⟨vfl_7_15, List.forall_mem_cons.mpr ⟨vfl_7_45, List.forall_mem_cons.mpr ⟨vfl_7_48, List.forall_mem_cons.mpr ⟨vfl_7_51, List.forall_mem_cons.mpr ⟨vfl_7_54, List.forall_mem_cons.mpr ⟨vfl_7_57, List.forall_mem_cons.mpr ⟨vfl_7_77, List.forall_mem_cons.mpr ⟨vfl_7_80, List.forall_mem_cons.mpr ⟨vfl_7_83, List.forall_mem_cons.mpr ⟨vfl_7_96, fun _ h => absurd h List.not_mem_nil⟩⟩⟩⟩⟩⟩⟩⟩⟩⟩⟩
theorem vfl_8_9 : pFL 8 (9, 8, 0, 12) := ⟨TX8, 10, tyX8, rfl, inT8, tyX8_ok, nmX8, by decide, tbT 148 (by decide +kernel) rfl, rfl, (fun _ _ => rfl), Or.inr (Or.inr (Or.inl ⟨rfl, Or.inr ⟨_, rfl⟩⟩))⟩
theorem vfl_8_15 : pFL 8 (15, 8, 1, 12) := ⟨TX8, 10, tyX8, rfl, inT8, tyX8_ok, nmX8, by decide, tbT 149 (by decide +kernel) rfl, rfl, (fun _ _ => rfl), Or.inr (Or.inr (Or.inl ⟨rfl, Or.inr ⟨_, rfl⟩⟩))⟩
theorem vfl_8_19 : pFL 8 (19, 8, 2, 12) := ⟨TX8, 10, tyX8, rfl, inT8, tyX8_ok, nmX8, by decide, tbT 150 (by decide +kernel) rfl, rfl, (fun _ _ => rfl), Or.inr (Or.inr (Or.inl ⟨rfl, Or.inr ⟨_, rfl⟩⟩))⟩
theorem vfl_8_22 : pFL 8 (22, 8, 3, 12) := ⟨TX8, 10, tyX8, rfl, inT8, tyX8_ok, nmX8, by decide, tbT 151 (by decide +kernel) rfl, rfl, (fun _ _ => rfl), Or.inr (Or.inr (Or.inl ⟨rfl, Or.inr ⟨_, rfl⟩⟩))⟩
theorem vfl_8_25 : pFL 8 (25, 8, 4, 12) := ⟨TX8, 10, tyX8, rfl, inT8, tyX8_ok, nmX8, by decide, tbT 152 (by decide +kernel) rfl, rfl, (fun _ _ => rfl), Or.inr (Or.inr (Or.inl ⟨rfl, Or.inr ⟨_, rfl⟩⟩))⟩
theorem vfl_8_28 : pFL 8 (28, 8, 5, 12) := ⟨TX8, 10, tyX8, rfl, inT8, tyX8_ok, nmX8, by decide, tbT 155 (by decide +kernel) rfl, rfl, (fun _ _ => rfl), Or.inr (Or.inr (Or.inl ⟨rfl, Or.inr ⟨_, rfl⟩⟩))⟩
theorem vfl_8_31 : pFL 8 (31, 8, 6, 12) := ⟨TX8, 10, tyX8, rfl, inT8, tyX8_ok, nmX8, by decide, tbT 158 (by decide +kernel) rfl, rfl, (fun _ _ => rfl), Or.inr (Or.inr (Or.inl ⟨rfl, Or.inr ⟨_, rfl⟩⟩))⟩
theorem vfl_8_34 : pFL 8 (34, 8, 7, 12) := ⟨TX8, 10, tyX8, rfl, inT8, tyX8_ok, nmX8, by decide, tbT 161 (by decide +kernel) rfl, rfl, (fun _ _ => rfl), Or.inr (Or.inr (Or.inl ⟨rfl, Or.inr ⟨_, rfl⟩⟩))⟩
theorem vfl_8_43 : pFL 8 (43, 8, 8, 0) := ⟨TX8, 10, tyX8, rfl, inT8, tyX8_ok, nmX8, by decide, tbT 162 (by decide +kernel) rfl, rfl, (fun h => by cases h), Or.inl ⟨rfl, rfl⟩⟩
theorem vfl_8_47 : pFL 8 (47, 8, 9, 0) := ⟨TX8, 10, tyX8, rfl, inT8, tyX8_ok, nmX8, by decide, tbT 167 (by decide +kernel) rfl, rfl, (fun h => by cases h), Or.inl ⟨rfl, rfl⟩⟩
theorem vfl_8 : ∀ x ∈ gfl_8, pFL 8 x := List.forall_mem_cons.mpr ⟨vfl_8_9, List.forall_mem_cons.mpr ⟨vfl_8_15, List.forall_mem_cons.mpr ⟨vfl_8_19, List.forall_mem_cons.mpr ⟨vfl_8_22, List.forall_mem_cons.mpr ⟨vfl_8_25, List.forall_mem_cons.mpr ⟨vfl_8_28, List.forall_mem_cons.mpr ⟨vfl_8_31, List.forall_mem_cons.mpr ⟨vfl_8_34, List.forall_mem_cons.mpr ⟨vfl_8_43, List.forall_mem_cons.mpr ⟨vfl_8_47, fun _ h => absurd h List.not_mem_nil⟩⟩⟩⟩⟩⟩⟩⟩⟩⟩
theorem vfl_9_12 : pFL 9 (12, 9, 0, 12) := ⟨TX9, 2, tyX9, rfl, inT9, tyX9_ok, nmX9, by decide, tbT 310 (by decide +kernel) rfl, rfl, (fun _ _ => rfl), Or.inr (Or.inr (Or.inl ⟨rfl, Or.inl ⟨_, rfl⟩⟩))⟩
theorem vfl_9_21 : pFL 9 (21, 9, 1, 12) := ⟨TX9, 2, tyX9, rfl, inT9, tyX9_ok, nmX9, by decide, tbT 312 (by decide +kernel) rfl, rfl, (fun _ _ => rfl), Or.inr (Or.inr (Or.inl ⟨rfl, Or.inl ⟨_, rfl⟩⟩))⟩
theorem vfl_9_35 : pFL 9 (35, 7, 4, 0) := ⟨TX7, 11, tyX7, rfl, inT7, tyX7_ok, nmX7, by decide, tbT 106 (by decide +kernel) rfl, rfl, (fun h => by cases h), Or.inl ⟨rfl, rfl⟩⟩
theorem vfl_9_87 : pFL 9 (87, 7, 7, 3) := ⟨TX7, 11, tyX7, rfl, inT7, tyX7_ok, nmX7, by decide, tbT 112 (by decide +kernel) rfl, rfl, (fun h => by cases h), Or.inr (Or.inr (Or.inr ⟨rfl, rfl⟩))⟩
theorem vfl_9_107 : pFL 9 (107, 8, 4, 22) := ⟨TX8, 10, tyX8, rfl, inT8, tyX8_ok, nmX8, by decide, tbT 153 (by decide +kernel) rfl, rfl, (fun _ h => by cases h), Or.inr (Or.inr (Or.inl ⟨rfl, Or.inr ⟨_, rfl⟩⟩))⟩
theorem vfl_9_111 : pFL 9 (111, 1, 0, 22) := ⟨TX1, 10, tyX1, rfl, inT1, tyX1_ok, nmX1, by decide, tbT 205 (by decide +kernel) rfl, rfl, (fun _ h => by cases h), Or.inr (Or.inr (Or.inl ⟨rfl, Or.inr ⟨_, rfl⟩⟩))⟩
theorem vfl_9_114 : pFL 9 (114, 8, 8, 0) := ⟨TX8, 10, tyX8, rfl, inT8, tyX8_ok, nmX8, by decide, tbT 164 (by decide +kernel) rfl, rfl, (fun h => by cases h), Or.inl ⟨rfl, rfl⟩⟩
theorem vfl_9_124 : pFL 9 (124, 1, 1, 22) := ⟨TX1, 10, tyX1, rfl, inT1, tyX1_ok, nmX1, by decide, tbT 209 (by decide +kernel) rfl, rfl, (fun _ h => by cases h), Or.inr (Or.inr (Or.inl ⟨rfl, Or.inr ⟨_, rfl⟩⟩))⟩
theorem vfl_9_127 : pFL 9 (127, 1, 3, 22) := ⟨TX1, 10, tyX1, rfl, inT1, tyX1_ok, nmX1, by decide, tbT 216 (by decide +kernel) rfl, rfl, (fun _ h => by cases h), Or.inr (Or.inr (Or.inl ⟨rfl, Or.inr ⟨_, rfl⟩⟩))⟩
theorem vfl_9_136 : pFL 9 (136, 1, 2, 22) := ⟨TX1, 10, tyX1, rfl, inT1, tyX1_ok, nmX1, by decide, tbT 213 (by decide +kernel) rfl, rfl, (fun _ h => by cases h), Or.inr (Or.inr (Or.inl ⟨rfl, Or.inr ⟨_, rfl⟩⟩))⟩
theorem vfl_9 : ∀ x ∈ gfl_9, pFL 9 x := List.forall_mem_cons.mpr ⟨vfl_9_12, List.forall_mem_cons.mpr ⟨vfl_9_21, List.forall_mem_cons.mpr ⟨vfl_9_35, List.forall_mem_cons.mpr ⟨vfl_9_87, List.forall_mem_cons.mpr ⟨vfl_9_107, List.forall_mem_cons.mpr ⟨vfl_9_111, List.forall_mem_cons.mpr ⟨vfl_9_114, List.forall_mem_cons.mpr ⟨vfl_9_124, List.forall_mem_cons.mpr ⟨vfl_9_127, List.forall_mem_cons.mpr ⟨vfl_9_136, fun _ h => absurd h List.not_mem_nil⟩⟩⟩⟩⟩⟩⟩⟩⟩⟩
theorem vfl_10_9 : pFL 10 (9, 10, 0, 12) := ⟨TX10, 6, tyX10, rfl, inT10, tyX10_ok, nmX10, by decide, tbT 367 (by decide +kernel) rfl, rfl, (fun _ _ => rfl), Or.inr (Or.inr (Or.inl ⟨rfl, Or.inr ⟨_, rfl⟩⟩))⟩
theorem vfl_10_15 : pFL 10 (15, 10, 1, 12) := ⟨TX10, 6, tyX10, rfl, inT10, tyX10_ok, nmX10, by decide, tbT 368 (by decide +kernel) rfl, rfl, (fun _ _ => rfl), Or.inr (Or.inr (Or.inl ⟨rfl, Or.inr ⟨_, rfl⟩⟩))⟩
theorem vfl_10_18 : pFL 10 (18, 10, 2, 12) := ⟨TX10, 6, tyX10, rfl, inT10, tyX10_ok, nmX10, by decide, tbT 369 (by decide +kernel) rfl, rfl, (fun _ _ => rfl), Or.inr (Or.inr (Or.inl ⟨rfl, Or.inr ⟨_, rfl⟩⟩))⟩
theorem vfl_10_21 : pFL 10 (21, 10, 3, 12) := ⟨TX10, 6, tyX10, rfl, inT10, tyX10_ok, nmX10, by decide, tbT 370 (by decide +kernel) rfl, rfl, (fun _ _ => rfl), Or.inr (Or.inr (Or.inl ⟨rfl, Or.inr ⟨_, rfl⟩⟩))⟩
theorem vfl_10_24 : pFL 10 (24, 10, 5, 0) := ⟨TX10, 6, tyX10, rfl, inT10, tyX10_ok, nmX10, by decide, tbT 374 (by decide +kernel) rfl, rfl, (fun h => by cases h), Or.inl ⟨rfl, rfl⟩⟩
theorem vfl_10_34 : pFL 10 (34, 1, 0, 22) := ⟨TX1, 10, tyX1, rfl, inT1, tyX1_ok, nmX1, by decide, tbT 203 (by decide +kernel) rfl, rfl, (fun _ h => by cases h), Or.inr (Or.inr (Or.inl ⟨rfl, Or.inr ⟨_, rfl⟩⟩))⟩
theorem vfl_10_49 : pFL 10 (49, 1, 5, 0) := ⟨TX1, 10, tyX1, rfl, inT1, tyX1_ok, nmX1, by decide, tbT 221 (by decide +kernel) rfl, rfl, (fun h => by cases h), Or.inl ⟨rfl, rfl⟩⟩
theorem vfl_10_60 : pFL 10 (60, 1, 1, 22) := ⟨TX1, 10, tyX1, rfl, inT1, tyX1_ok, nmX1, by decide, tbT 208 (by decide +kernel) rfl, rfl, (fun _ h => by cases h), Or.inr (Or.inr (Or.inl ⟨rfl, Or.inr ⟨_, rfl⟩⟩))⟩
theorem vfl_10_63 : pFL 10 (63, 1, 7, 0) := ⟨TX1, 10, tyX1, rfl, inT1, tyX1_ok, nmX1, by decide, tbT 230 (by decide +kernel) rfl, rfl, (fun h => by cases h), Or.inl ⟨rfl, rfl⟩⟩
theorem vfl_10_97 : pFL 10 (97, 10, 4, 0) := ⟨TX10, 6, tyX10, rfl, inT10, tyX10_ok, nmX10, by decide, tbT 372 (by decide +kernel) rfl, rfl, (fun h => by cases h), Or.inl ⟨rfl, rfl⟩⟩
theorem vfl_10 : ∀ x ∈ gfl_10, pFL 10 x := List.forall_mem_cons.mpr ⟨vfl_10_9, List.forall_mem_cons.mpr ⟨vfl_10_15, List.forall_mem_cons.mpr ⟨vfl_10_18, List.forall_mem_cons.mpr ⟨vfl_10_21, List.forall_mem_cons.mpr ⟨vfl_10_24, List.forall_mem_cons.mpr ⟨vfl_10_34, List.forall_mem_cons.mpr ⟨vfl_10_49, List.forall_mem_cons.mpr ⟨vfl_10_60, List.forall_mem_cons.mpr ⟨vfl_10_63, List.forall_mem_cons.mpr ⟨vfl_10_97, fun _ h => absurd h List.not_mem_nil⟩⟩⟩⟩⟩⟩⟩⟩⟩⟩
theorem vfl_11_10 : pFL 11 (10, 11, 0, 12) := ⟨TX11, 17, tyX11, rfl, inT11, tyX11_ok, nmX11, by decide, tbT 450 (by decide +kernel) rfl, rfl, (fun _ _ => rfl), Or.inr (Or.inr (Or.inl ⟨rfl, Or.inl ⟨_, rfl⟩⟩))⟩
theorem vfl_11_19 : pFL 11 (19, 11, 1, 12) := ⟨TX11, 17, tyX11, rfl, inT11, tyX11_ok, nmX11, by decide, tbT 451 (by decide +kernel) rfl, rfl, (fun _ _ => rfl), Or.inr (Or.inr (Or.inl ⟨rfl, Or.inl ⟨_, rfl⟩⟩))⟩
theorem vfl_11_26 : pFL 11 (26, 11, 2, 12) := ⟨TX11, 17, tyX11, rfl, inT11, tyX11_ok, nmX11, by decide, tbT 452 (by decide +kernel) rfl, rfl, (fun _ _ => rfl), Or.inr (Or.inr (Or.inl ⟨rfl, Or.inl ⟨_, rfl⟩⟩))⟩
theorem vfl_11_30 : pFL 11 (30, 11, 3, 12) := ⟨TX11, 17, tyX11, rfl, inT11, tyX11_ok, nmX11, by decide, tbT 453 (by decide +kernel) rfl, rfl, (fun _ _ => rfl), Or.inr (Or.inr (Or.inl ⟨rfl, Or.inl ⟨_, rfl⟩⟩))⟩
theorem vfl_11_36 : pFL 11 (36, 11, 4, 12) := ⟨TX11, 17, tyX11, rfl, inT11, tyX11_ok, nmX11, by decide, tbT 454 (by decide +kernel) rfl, rfl, (fun _ _ => rfl), Or.inr (Or.inr (Or.inl ⟨rfl, Or.inl ⟨_, rfl⟩⟩))⟩
theorem vfl_11_43 : pFL 11 (43, 11, 5, 12) := ⟨TX11, 17, tyX11, rfl, inT11, tyX11_ok, nmX11, by decide, tbT 455 (by decide +kernel) rfl, rfl, (fun _ _ => rfl), Or.inr (Or.inr (Or.inl ⟨rfl, Or.inl ⟨_, rfl⟩⟩))⟩
theorem vfl_11_47 : pFL 11 (47, 11, 6, 12) := ⟨TX11, 17, tyX11, rfl, inT11, tyX11_ok, nmX11, by decide, tbT 456 (by decide +kernel) rfl, rfl, (fun _ _ => rfl), Or.inr (Or.inr (Or.inl ⟨rfl, Or.inl ⟨_, rfl⟩⟩))⟩
theorem vfl_11_53 : pFL 11 (53, 11, 7, 12) := ⟨TX11, 17, tyX11, rfl, inT11, tyX11_ok, nmX11, by decide, tbT 457 (by decide +kernel) rfl, rfl, (fun _ _ => rfl), Or.inr (Or.inr (Or.inl ⟨rfl, Or.inl ⟨_, rfl⟩⟩))⟩
theorem vfl_11_60 : pFL 11 (60, 11, 8, 12) := ⟨TX11, 17, tyX11, rfl, inT11, tyX11_ok, nmX11, by decide, tbT 458 (by decide +kernel) rfl, rfl, (fun _ _ => rfl), Or.inr (Or.inr (Or.inl ⟨rfl, Or.inl ⟨_, rfl⟩⟩))⟩
theorem vfl_11_67 : pFL 11 (67, 11, 9, 12) := ⟨TX11, 17, tyX11, rfl, inT11, tyX11_ok, nmX11, by decide, tbT 459 (by decide +kernel) rfl, rfl, (fun _ _ => rfl), Or.inr (Or.inr (Or.inl ⟨rfl, Or.inl ⟨_, rfl⟩⟩))⟩
theorem vfl_11_74 : pFL 11 (74, 11, 10, 12) := ⟨TX11, 17, tyX11, rfl, inT11, tyX11_ok, nmX11, by decide, tbT 460 (by decide +kernel) rfl, rfl, (fun _ _ => rfl), Or.inr (Or.inr (Or.inl ⟨rfl, Or.inl ⟨_, rfl⟩⟩))⟩
theorem vfl_11_81 : pFL 11 (81, 11, 11, 12) := ⟨TX11, 17, tyX11, rfl, inT11, tyX11_ok, nmX11, by decide, tbT 461 (by decide +kernel) rfl, rfl, (fun _ _ => rfl), Or.inr (Or.inr (Or.inl ⟨rfl, Or.inl ⟨_, rfl⟩⟩))⟩
theorem vfl_11_88 : pFL 11 (88, 11, 12, 12) := ⟨TX11, 17, tyX11, rfl, inT11, tyX11_ok, nmX11, by decide, tbT 462 (by decide +kernel) rfl, rfl, (fun _ _ => rfl), Or.inr (Or.inr (Or.inl ⟨rfl, Or.inl ⟨_, rfl⟩⟩))⟩
theorem vfl_11_92 : pFL 11 (92, 11, 13, 12) := ⟨TX11, 17, tyX11, rfl, inT11, tyX11_ok, nmX11, by decide, tbT 463 (by decide +kernel) rfl, rfl, (fun _ _ => rfl), Or.inr (Or.inr (Or.inl ⟨rfl, Or.inr ⟨_, rfl⟩⟩))⟩
theorem vfl_11_96 : pFL 11 (96, 11, 14, 12) := ⟨TX11, 17, tyX11, rfl, inT11, tyX11_ok, nmX11, by decide, tbT 464 (by decide +kernel) rfl, rfl, (fun _ _ => rfl), Or.inr (Or.inr (Or.inl ⟨rfl, Or.inr ⟨_, rfl⟩⟩))⟩
theorem vfl_11_100 : pFL 11 (100, 11, 15, 12) := ⟨TX11, 17, tyX11, rfl, inT11, tyX11_ok, nmX11, by decide, tbT 465 (by decide +kernel) rfl, rfl, (fun _ _ => rfl), Or.inr (Or.inr (Or.inl ⟨rfl, Or.inr ⟨_, rfl⟩⟩))⟩
theorem vfl_11_104 : pFL 11 (104, 7, 1, 0) := ⟨TX7, 11, tyX7, rfl, inT7, tyX7_ok, nmX7, by decide, tbT 99 (by decide +kernel) rfl, rfl, (fun h => by cases h), Or.inl ⟨rfl, rfl⟩⟩
theorem vfl_11_116 : pFL 11 (116, 7, 3, 0) := ⟨TX7, 11, tyX7, rfl, inT7, tyX7_ok, nmX7, by decide, tbT 103 (by decide +kernel) rfl, rfl, (fun h => by cases h), Or.inl ⟨rfl, rfl⟩⟩
theorem vfl_11_119 : pFL 11 (119, 9, 0, 22) := ⟨TX9, 2, tyX9, rfl, inT9, tyX9_ok, nmX9, by decide, tbT 311 (by decide +kernel) rfl, rfl, (fun _ h => by cases h), Or.inr (Or.inr (Or.inl ⟨rfl, Or.inl ⟨_, rfl⟩⟩))⟩
theorem vfl_11_126 : pFL 11 (126, 9, 1, 22) := ⟨TX9, 2, tyX9, rfl, inT9, tyX9_ok, nmX9, by decide, tbT 313 (by decide +kernel) rfl, rfl, (fun _ h => by cases h), Or.inr (Or.inr (Or.inl ⟨rfl, Or.inl ⟨_, rfl⟩⟩))⟩
theorem vfl_11_136 : pFL 11 (136, 7, 2, 0) := ⟨TX7, 11, tyX7, rfl, inT7, tyX7_ok, nmX7, by decide, tbT 101 (by decide +kernel) rfl, rfl, (fun h => by cases h), Or.inl ⟨rfl, rfl⟩⟩
theorem vfl_11_150 : pFL 11 (150, 8, 4, 22) := ⟨TX8, 10, tyX8, rfl, inT8, tyX8_ok, nmX8, by decide, tbT 154 (by decide +kernel) rfl, rfl, (fun _ h => by cases h), Or.inr (Or.inr (Or.inl ⟨rfl, Or.inr ⟨_, rfl⟩⟩))⟩
theorem vfl_11_154 : pFL 11 (154, 1, 0, 22) := ⟨TX1, 10, tyX1, rfl, inT1, tyX1_ok, nmX1, by decide, tbT 206 (by decide +kernel) rfl, rfl, (fun _ h => by cases h), Or.inr (Or.inr (Or.inl ⟨rfl, Or.inr ⟨_, rfl⟩⟩))⟩
theorem vfl_11_157 : pFL 11 (157, 1, 5, 0) := ⟨TX1, 10, tyX1, rfl, inT1, tyX1_ok, nmX1, by decide, tbT 223 (by decide +kernel) rfl, rfl, (fun h => by cases h), Or.inl ⟨rfl, rfl⟩⟩
theorem vfl_11_174 : pFL 11 (174, 1, 1, 22) := ⟨TX1, 10, tyX1, rfl, inT1, tyX1_ok, nmX1, by decide, tbT 210 (by decide +kernel) rfl, rfl, (fun _ h => by cases h), Or.inr (Or.inr (Or.inl ⟨rfl, Or.inr ⟨_, rfl⟩⟩))⟩
theorem vfl_11_187 : pFL 11 (187, 1, 3, 22) := ⟨TX1, 10, tyX1, rfl, inT1, tyX1_ok, nmX1, by decide, tbT 215 (by decide +kernel) rfl, rfl, (fun _ h => by cases h), Or.inr (Or.inr (Or.inl ⟨rfl, Or.inr ⟨_, rfl⟩⟩))⟩
theorem vfl_11_190 : pFL 11 (190, 1, 2, 22) := ⟨TX1, 10, tyX1, rfl, inT1, tyX1_ok, nmX1, by decide, tbT 212 (by decide +kernel) rfl, rfl, (fun _ h => by cases h), Or.inr (Or.inr (Or.inl ⟨rfl, Or.inr ⟨_, rfl⟩⟩))⟩
theorem vfl_11_193 : pFL 11 (193, 1, 4, 22) := ⟨TX1, 10, tyX1, rfl, inT1, tyX1_ok, nmX1, by decide, tbT 218 (by decide +kernel) rfl, rfl, (fun _ h => by cases h), Or.inr (Or.inr (Or.inl ⟨rfl, Or.inr ⟨_, rfl⟩⟩))⟩
theorem vfl_11_199 : pFL 11 (199, 8, 5, 22) := ⟨TX8, 10, tyX8, rfl, inT8, tyX8_ok, nmX8, by decide, tbT 157 (by decide +kernel) rfl, rfl, (fun _ h => by cases h), Or.inr (Or.inr (Or.inl ⟨rfl, Or.inr ⟨_, rfl⟩⟩))⟩
theorem vfl_11_202 : pFL 11 (202, 8, 6, 22) := ⟨TX8, 10, tyX8, rfl, inT8, tyX8_ok, nmX8, by decide, tbT 160 (by decide +kernel) rfl, rfl, (fun _ h => by cases h), Or.inr (Or.inr (Or.inl ⟨rfl, Or.inr ⟨_, rfl⟩⟩))⟩
theorem vfl_11_205 : pFL 11 (205, 8, 9, 0) := ⟨TX8, 10, tyX8, rfl, inT8, tyX8_ok, nmX8, by decide, tbT 169 (by decide +kernel) rfl, rfl, (fun h => by cases h), Or.inl ⟨rfl, rfl⟩⟩
theorem vfl_11_208 : pFL 11 (208, 1, 7, 0) := ⟨TX1, 10, tyX1, rfl, inT1, tyX1_ok, nmX1, by decide, tbT 231 (by decide +kernel) rfl, rfl, (fun h => by cases h), Or.inl ⟨rfl, rfl⟩⟩
theorem vfl_11_211 : pFL 11 (211, 1, 8, 0) := ⟨TX1, 10, tyX1, rfl, inT1, tyX1_ok, nmX1, by decide, tbT 233 (by decide +kernel) rfl, rfl, (fun h => by cases h), Or.inl ⟨rfl, rfl⟩⟩
theorem vfl_11_214 : pFL 11 (214, 1, 6, 0) := ⟨TX1, 10, tyX1, rfl, inT1, tyX1_ok, nmX1, by decide, tbT 227 (by decide +kernel) rfl, rfl, (fun h => by cases h), Or.inl ⟨rfl, rfl⟩⟩
theorem vfl_11_217 : pFL 11 (217, 1, 9, 0) := ⟨TX1, 10, tyX1, rfl, inT1, tyX1_ok, nmX1, by decide, tbT 236 (by decide +kernel) rfl, rfl, (fun h => by cases h), Or.inl ⟨rfl, rfl⟩⟩
theorem vfl_11_226 : pFL 11 (226, 8, 8, 0) := ⟨TX8, 10, tyX8, rfl, inT8, tyX8_ok, nmX8, by decide, tbT 165 (by decide +kernel) rfl, rfl, (fun h => by cases h), Or.inl ⟨rfl, rfl⟩⟩
theorem vfl_11_292 : pFL 11 (292, 10, 4, 0) := ⟨TX10, 6, tyX10, rfl, inT10, tyX10_ok, nmX10, by decide, tbT 373 (by decide +kernel) rfl, rfl, (fun h => by cases h), Or.inl ⟨rfl, rfl⟩⟩
theorem vfl_11_297 : pFL 11 (297, 10, 3, 22) := ⟨TX10, 6, tyX10, rfl, inT10, tyX10_ok, nmX10, by decide, tbT 371 (by decide +kernel) rfl, rfl, (fun _ h => by cases h), Or.inr (Or.inr (Or.inl ⟨rfl, Or.inr ⟨_, rfl⟩⟩))⟩
theorem vfl_11_306 : pFL 11 (306, 10, 5, 0) := ⟨TX10, 6, tyX10, rfl, inT10, tyX10_ok, nmX10, by decide, tbT 375 (by decide +kernel) rfl, rfl, (fun h => by cases h), Or.inl ⟨rfl, rfl⟩⟩
theorem vfl_11_349 : pFL 11 (349, 4, 0, 22) := ⟨TX4, 8, tyX4, rfl, inT4, tyX4_ok, nmX4, by decide, tbT 409 (by decide +kernel) rfl, rfl, (fun _ h => by cases h), Or.inr (Or.inr (Or.inl ⟨rfl, Or.inr ⟨_, rfl⟩⟩))⟩
theorem vfl_11_352 : pFL 11 (352, 4, 1, 0) := ⟨TX4, 8, tyX4, rfl, inT4, tyX4_ok, nmX4, by decide, tbT 411 (by decide +kernel) rfl, rfl, (fun h => by cases h), Or.inl ⟨rfl, rfl⟩⟩
theorem vfl_11_359 : pFL 11 (359, 4, 4, 1) := ⟨TX4, 8, tyX4, rfl, inT4, tyX4_ok, nmX4, by decide, tbT 417 (by decide +kernel) rfl, rfl, (fun h => by cases h), Or.inr (Or.inl ⟨rfl, rfl⟩)⟩
theorem vfl_11_363 : pFL 11 (363, 4, 2, 22) := ⟨TX4, 8, tyX4, rfl, inT4, tyX4_ok, nmX4, by decide, tbT 413 (by decide +kernel) rfl, rfl, (fun _ h => by cases h), Or.inr (Or.inr (Or.inl ⟨rfl, Or.inr ⟨_, rfl⟩⟩))⟩
theorem vfl_11_366 : pFL 11 (366, 4, 3, 22) := ⟨TX4, 8, tyX4, rfl, inT4, tyX4_ok, nmX4, by decide, tbT 415 (by decide +kernel) rfl, rfl, (fun _ h => by cases h), Or.inr (Or.inr (Or.inl ⟨rfl, Or.inr ⟨_, rfl⟩⟩))⟩
theorem vfl_11_393 : pFL 11 (393, 0, 5, 1) := ⟨TX0, 10, tyX0, rfl, inT0, tyX0_ok, nmX0, by decide, tbT 331 (by decide +kernel) rfl, rfl, (fun h => by cases h), Or.inr (Or.inl ⟨rfl, rfl⟩)⟩
theorem vfl_11_396 : pFL 11 (396, 0, 6, 0) := ⟨TX0, 10, tyX0, rfl, inT0, tyX0_ok, nmX0, by decide, tbT 333 (by decide +kernel) rfl, rfl, (fun h => by cases h), Or.inl ⟨rfl, rfl⟩⟩
theorem vfl_11_399 : pFL 11 (399, 0, 7, 0) := ⟨TX0, 10, tyX0, rfl, inT0, tyX0_ok, nmX0, by decide, tbT 335 (by decide +kernel) rfl, rfl, (fun h => by cases h), Or.inl ⟨rfl, rfl⟩⟩
theorem vfl_11_402 : pFL 11 (402, 0, 8, 0) := ⟨TX0, 10, tyX0, rfl, inT0, tyX0_ok, nmX0, by decide, tbT 337 (by decide +kernel) rfl, rfl, (fun h => by cases h), Or.inl ⟨rfl, rfl⟩⟩
theorem vfl_11_405 : pFL 11 (405, 0, 9, 0) := ⟨TX0, 10, tyX0, rfl, inT0, tyX0_ok, nmX0, by decide, tbT 339 (by decide +kernel) rfl, rfl, (fun h => by cases h), Or.inl ⟨rfl, rfl⟩⟩
theorem vfl_11_412 : pFL 11 (412, 6, 4, 0) := ⟨TX6, 5, tyX6, rfl, inT6, tyX6_ok, nmX6, by decide, tbT 288 (by decide +kernel) rfl, rfl, (fun h => by cases h), Or.inl ⟨rfl, rfl⟩⟩
theorem vfl_11_418 : pFL 11 (418, 11, 16, 0) := ⟨TX11, 17, tyX11, rfl, inT11, tyX11_ok, nmX11, by decide, tbT 466 (by decide +kernel) rfl, rfl, (fun h => by cases h), Or.inl ⟨rfl, rfl⟩⟩
theorem vfl_11 : ∀ x ∈ gfl_11, pFL 11 x := List.forall_mem_cons.mpr ⟨vfl_11_10, List.forall_mem_cons.mpr ⟨vfl_11_19, List.forall_mem_cons.mpr ⟨vfl_11_26, List.forall_mem_cons.mpr ⟨vfl_11_30, List.forall_mem_cons.mpr ⟨vfl_11_36, List.forall_mem_cons.mpr ⟨vfl_11_43, List.forall_mem_cons.mpr ⟨vfl_11_47, List.forall_mem_cons.mpr ⟨vfl_11_53, List.forall_mem_cons.mpr ⟨vfl_11_60, List.forall_mem_cons.mpr ⟨vfl_11_67, List.forall_mem_cons.mpr ⟨vfl_11_74, List.forall_mem_cons.mpr ⟨vfl_11_81, List.forall_mem_cons.mpr ⟨vfl_11_88, List.forall_mem_cons.mpr ⟨vfl_11_92, List.forall_mem_cons.mpr ⟨vfl_11_96, List.forall_mem_cons.mpr ⟨vfl_11_100, List.forall_mem_cons.mpr ⟨vfl_11_104, List.forall_mem_cons.mpr ⟨vfl_11_116, List.forall_mem_cons.mpr ⟨vfl_11_119, List.forall_mem_cons.mpr ⟨vfl_11_126, List.forall_mem_cons.mpr ⟨vfl_11_136, List.forall_mem_cons.mpr ⟨vfl_11_150, List.forall_mem_cons.mpr ⟨vfl_11_154, List.forall_mem_cons.mpr ⟨vfl_11_157, List.forall_mem_cons.mpr ⟨vfl_11_174, List.forall_mem_cons.mpr ⟨vfl_11_187, List.forall_mem_cons.mpr ⟨vfl_11_190, List.forall_mem_cons.mpr ⟨vfl_11_193, List.forall_mem_cons.mpr ⟨vfl_11_199, List.forall_mem_cons.mpr ⟨vfl_11_202, List.forall_mem_cons.mpr ⟨vfl_11_205, List.forall_mem_cons.mpr ⟨vfl_11_208, List.forall_mem_cons.mpr ⟨vfl_11_211, List.forall_mem_cons.mpr ⟨vfl_11_214, List.forall_mem_cons.mpr ⟨vfl_11_217, List.forall_mem_cons.mpr ⟨vfl_11_226, List.forall_mem_cons.mpr ⟨vfl_11_292, List.forall_mem_cons.mpr ⟨vfl_11_297, List.forall_mem_cons.mpr ⟨vfl_11_306, List.forall_mem_cons.mpr ⟨vfl_11_349, List.forall_mem_cons.mpr ⟨vfl_11_352, List.forall_mem_cons.mpr ⟨vfl_11_359, List.forall_mem_cons.mpr ⟨vfl_11_363, List.forall_mem_cons.mpr ⟨vfl_11_366, List.forall_mem_cons.mpr ⟨vfl_11_393, List.forall_mem_cons.mpr ⟨vfl_11_396, List.forall_mem_cons.mpr ⟨vfl_11_399, List.forall_mem_cons.mpr ⟨vfl_11_402, List.forall_mem_cons.mpr ⟨vfl_11_405, List.forall_mem_cons.mpr ⟨vfl_11_412, List.forall_mem_cons.mpr ⟨vfl_11_418, fun _ h => absurd h List.not_mem_nil⟩⟩⟩⟩⟩⟩⟩⟩⟩⟩⟩⟩⟩⟩⟩⟩⟩⟩⟩⟩⟩⟩⟩⟩⟩⟩⟩⟩⟩⟩⟩⟩⟩⟩⟩⟩⟩⟩⟩⟩⟩⟩⟩⟩⟩⟩⟩⟩⟩⟩⟩
theorem vfl_12_1 : pFL 12 (1, 12, 0, 0) := ⟨TX12, 55, tyX12, rfl, inT12, tyX12_ok, nmX12, by decide, tbT 1408 (by decide +kernel) rfl, rfl, (fun h => by cases h), Or.inl ⟨rfl, rfl⟩⟩
theorem vfl_12_7 : pFL 12 (7, 12, 2, 0) := ⟨TX12, 55, tyX12, rfl, inT12, tyX12_ok, nmX12, by decide, tbT 1410 (by decide +kernel) rfl, rfl, (fun h => by cases h), Or.inl ⟨rfl, rfl⟩⟩
theorem vfl_12_14 : pFL 12 (14, 12, 1, 12) := ⟨TX12, 55, tyX12, rfl, inT12, tyX12_ok, nmX12, by decide, tbT 1409 (by decide +kernel) rfl, rfl, (fun _ _ => rfl), Or.inr (Or.inr (Or.inl ⟨rfl, Or.inr ⟨_, rfl⟩⟩))⟩
theorem vfl_12_18 : pFL 12 (18, 12, 3, 0) := ⟨TX12, 55, tyX12, rfl, inT12, tyX12_ok, nmX12, by decide, tbT 1411 (by decide +kernel) rfl, rfl, (fun h => by cases h), Or.inl ⟨rfl, rfl⟩⟩
theorem vfl_12_21 : pFL 12 (21, 12, 4, 0) := ⟨TX12, 55, tyX12, rfl, inT12, tyX12_ok, nmX12, by decide, tbT 1412 (by decide +kernel) rfl, rfl, (fun h => by cases h), Or.inl ⟨rfl, rfl⟩⟩
theorem vfl_12_24 : pFL 12 (24, 12, 5, 0) := ⟨TX12, 55, tyX12, rfl, inT12, tyX12_ok, nmX12, by decide, tbT 1413 (by decide +kernel) rfl, rfl, (fun h => by cases h), Or.inl ⟨rfl, rfl⟩⟩
theorem vfl_12_33 : pFL 12 (33, 12, 6, 12) := ⟨TX12, 55, tyX12, rfl, inT12, tyX12_ok, nmX12, by decide, tbT 1414 (by decide +kernel) rfl, rfl, (fun _ _ => rfl), Or.inr (Or.inr (Or.inl ⟨rfl, Or.inr ⟨_, rfl⟩⟩))⟩
theorem vfl_12_37 : pFL 12 (37, 12, 7, 12) := ⟨TX12, 55, tyX12, rfl, inT12, tyX12_ok, nmX12, by decide, tbT 1415 (by decide +kernel) rfl, rfl, (fun _ _ => rfl), Or.inr (Or.inr (Or.inl ⟨rfl, Or.inr ⟨_, rfl⟩⟩))⟩
theorem vfl_12_40 : pFL 12 (40, 12, 8, 12) := ⟨TX12, 55, tyX12, rfl, inT12, tyX12_ok, nmX12, by decide, tbT 1416 (by decide +kernel) rfl, rfl, (fun _ _ => rfl), Or.inr (Or.inr (Or.inl ⟨rfl, Or.inr ⟨_, rfl⟩⟩))⟩
theorem vfl_12_43 : pFL 12 (43, 12, 9, 12) := ⟨TX12, 55, tyX12, rfl, inT12, tyX12_ok, nmX12, by decide, tbT 1417 (by decide +kernel) rfl, rfl, (fun _ _ => rfl), Or.inr (Or.inr (Or.inl ⟨rfl, Or.inr ⟨_, rfl⟩⟩))⟩
theorem vfl_12_47 : pFL 12 (47, 12, 10, 12) := ⟨TX12, 55, tyX12, rfl, inT12, tyX12_ok, nmX12, by decide, tbT 1418 (by decide +kernel) rfl, rfl, (fun _ _ => rfl), Or.inr (Or.inr (Or.inl ⟨rfl, Or.inr ⟨_, rfl⟩⟩))⟩
theorem vfl_12_50 : pFL 12 (50, 12, 20, 12) := ⟨TX12, 55, tyX12, rfl, inT12, tyX12_ok, nmX12, by decide, tbT 1428 (by decide +kernel) rfl, rfl, (fun _ _ => rfl), Or.inr (Or.inr (Or.inl ⟨rfl, Or.inr ⟨_, rfl⟩⟩))⟩
theorem vfl_12_53 : pFL 12 (53, 12, 21, 12) := ⟨TX12, 55, tyX12, rfl, inT12, tyX12_ok, nmX12, by decide, tbT 1429 (by decide +kernel) rfl, rfl, (fun _ _ => rfl), Or.inr (Or.inr (Or.inl ⟨rfl, Or.inr ⟨_, rfl⟩⟩))⟩
theorem vfl_12_56 : pFL 12 (56, 12, 23, 12) := ⟨TX12, 55, tyX12, rfl, inT12, tyX12_ok, nmX12, by decide, tbT 1431 (by decide +kernel) rfl, rfl, (fun _ _ => rfl), Or.inr (Or.inr (Or.inl ⟨rfl, Or.inr ⟨_, rfl⟩⟩))⟩
theorem vfl_12_59 : pFL 12 (59, 12, 24, 12) := ⟨TX12, 55, tyX12, rfl, inT12, tyX12_ok, nmX12, by decide, tbT 1432 (by decide +kernel) rfl, rfl, (fun _ _ => rfl), Or.inr (Or.inr (Or.inl ⟨rfl, Or.inr ⟨_, rfl⟩⟩))⟩
theorem vfl_12_62 : pFL 12 (62, 12, 25, 12) := ⟨TX12, 55, tyX12, rfl, inT12, tyX12_ok, nmX12, by decide, tbT 1433 (by decide +kernel) rfl, rfl, (fun _ _ => rfl), Or.inr (Or.inr (Or.inl ⟨rfl, Or.inr ⟨_, rfl⟩⟩))⟩
theorem vfl_12_65 : pFL 12 (65, 12, 29, 12) := ⟨TX12, 55, tyX12, rfl, inT12, tyX12_ok, nmX12, by decide, tbT 1437 (by decide +kernel) rfl, rfl, (fun _ _ => rfl), Or.inr (Or.inr (Or.inl ⟨rfl, Or.inr ⟨_, rfl⟩⟩))⟩
theorem vfl_12_68 : pFL 12 (68, 12, 30, 12) := ⟨TX12, 55, tyX12, rfl, inT12, tyX12_ok, nmX12, by decide, tbT 1438 (by decide +kernel) rfl, rfl, (fun _ _ => rfl), Or.inr (Or.inr (Or.inl ⟨rfl, Or.inr ⟨_, rfl⟩⟩))⟩
theorem vfl_12_71 : pFL 12 (71, 12, 31, 12) := ⟨TX12, 55, tyX12, rfl, inT12, tyX12_ok, nmX12, by decide, tbT 1439 (by decide +kernel) rfl, rfl, (fun _ _ => rfl), Or.inr (Or.inr (Or.inl ⟨rfl, Or.inr ⟨_, rfl⟩⟩))⟩
theorem vfl_12_74 : pFL 12 (74, 12, 32, 12) := ⟨TX12, 55, tyX12, rfl, inT12, tyX12_ok, nmX12, by decide, tbT 1440 (by decide +kernel) rfl, rfl, (fun _ _ => rfl), Or.inr (Or.inr (Or.inl ⟨rfl, Or.inr ⟨_, rfl⟩⟩))⟩
theorem vfl_12_77 : pFL 12 (77, 12, 33, 12) := ⟨TX12, 55, tyX12, rfl, inT12, tyX12_ok, nmX12, by decide, tbT 1441 (by decide +kernel) rfl, rfl, (fun _ _ => rfl), Or.inr (Or.inr (Or.inl ⟨rfl, Or.inr ⟨_, rfl⟩⟩))⟩
theorem vfl_12_80 : pFL 12 (80, 12, 34, 12) := ⟨TX12, 55, tyX12, rfl, inT12, tyX12_ok, nmX12, by decide, tbT 1442 (by decide +kernel) rfl, rfl, (fun _ _ => rfl), Or.inr (Or.inr (Or.inl ⟨rfl, Or.inr ⟨_, rfl⟩⟩))⟩
theorem vfl_12_83 : pFL 12 (83, 12, 36, 12) := ⟨TX12, 55, tyX12, rfl, inT12, tyX12_ok, nmX12, by decide, tbT 1444 (by decide +kernel) rfl, rfl, (fun _ _ => rfl), Or.inr (Or.inr (Or.inl ⟨rfl, Or.inr ⟨_, rfl⟩⟩))⟩
theorem vfl_12_86 : pFL 12 (86, 12, 37, 12) := ⟨TX12, 55, tyX12, rfl, inT12, tyX12_ok, nmX12, by decide, tbT 1445 (by decide +kernel) rfl, rfl, (fun _ _ => rfl), Or.inr (Or.inr (Or.inl ⟨rfl, Or.inr ⟨_, rfl⟩⟩))⟩
theorem vfl_12_89 : pFL 12 (89, 12, 38, 12) := ⟨TX12, 55, tyX12, rfl, inT12, tyX12_ok, nmX12, by decide, tbT 1446 (by decide +kernel) rfl, rfl, (fun _ _ => rfl), Or.inr (Or.inr (Or.inl ⟨rfl, Or.inr ⟨_, rfl⟩⟩))⟩
theorem vfl_12_92 : pFL 12 (92, 12, 39, 0) := ⟨TX12, 55, tyX12, rfl, inT12, tyX12_ok, nmX12, by decide, tbT 1447 (by decide +kernel) rfl, rfl, (fun h => by cases h), Or.inl ⟨rfl, rfl⟩⟩
theorem vfl_12_95 : pFL 12 (95, 12, 43, 12) := ⟨TX12, 55, tyX12, rfl, inT12, tyX12_ok, nmX12, by decide, tbT 1451 (by decide +kernel) rfl, rfl, (fun _ _ => rfl), Or.inr (Or.inr (Or.inl ⟨rfl, Or.inr ⟨_, rfl⟩⟩))⟩
theorem vfl_12_98 : pFL 12 (98, 12, 45, 12) := ⟨TX12, 55, tyX12, rfl, inT12, tyX12_ok, nmX12, by decide, tbT 1453 (by decide +kernel) rfl, rfl, (fun _ _ => rfl), Or.inr (Or.inr (Or.inl ⟨rfl, Or.inr ⟨_, rfl⟩⟩))⟩
theorem vfl_12_101 : pFL 12 (101, 12, 51, 12) := ⟨TX12, 55, tyX12, rfl, inT12, tyX12_ok, nmX12, by decide, tbT 1459 (by decide +kernel) rfl, rfl, (fun _ _ => rfl), Or.inr (Or.inr (Or.inl ⟨rfl, Or.inr ⟨_, rfl⟩⟩))⟩
theorem vfl_12_105 : pFL 12 (105, 12, 52, 12) := ⟨TX12, 55, tyX12, rfl, inT12, tyX12_ok, nmX12, by decide, tbT 1460 (by decide +kernel) rfl, rfl, (fun _ _ => rfl), Or.inr (Or.inr (Or.inl ⟨rfl, Or.inr ⟨_, rfl⟩⟩))⟩
theorem vfl_12_108 : pFL 12 (108, 12, 53, 12) := ⟨TX12, 55, tyX12, rfl, inT12, tyX12_ok, nmX12, by decide, tbT 1461 (by decide +kernel) rfl, rfl, (fun _ _ => rfl), Or.inr (Or.inr (Or.inl ⟨rfl, Or.inr ⟨_, rfl⟩⟩))⟩
theorem vfl_12_111 : pFL 12 (111, 12, 54, 12) := ⟨TX12, 55, tyX12, rfl, inT12, tyX12_ok, nmX12, by decide, tbT 1462 (by decide +kernel) rfl, rfl, (fun _ _ => rfl), Or.inr (Or.inr (Or.inl ⟨rfl, Or.inr ⟨_, rfl⟩⟩))⟩
theorem vfl_12_178 : pFL 12 (178, 12, 12, 0) := ⟨TX12, 55, tyX12, rfl, inT12, tyX12_ok, nmX12, by decide, tbT 1420 (by decide +kernel) rfl, rfl, (fun h => by cases h), Or.inl ⟨rfl, rfl⟩⟩
theorem vfl_12_181 : pFL 12 (181, 12, 13, 0) := ⟨TX12, 55, tyX12, rfl, inT12, tyX12_ok, nmX12, by decide, tbT 1421 (by decide +kernel) rfl, rfl, (fun h => by cases h), Or.inl ⟨rfl, rfl⟩⟩
theorem vfl_12_184 : pFL 12 (184, 12, 11, 0) := ⟨TX12, 55, tyX12, rfl, inT12, tyX12_ok, nmX12, by decide, tbT 1419 (by decide +kernel) rfl, rfl, (fun h => by cases h), Or.inl ⟨rfl, rfl⟩⟩
theorem vfl_12_194 : pFL 12 (194, 12, 14, 0) := ⟨TX12, 55, tyX12, rfl, inT12, tyX12_ok, nmX12, by decide, tbT 1422 (by decide +kernel) rfl, rfl, (fun h => by cases h), Or.inl ⟨rfl, rfl⟩⟩
theorem vfl_12_197 : pFL 12 (197, 12, 17, 3) := ⟨TX12, 55, tyX12, rfl, inT12, tyX12_ok, nmX12, by decide, tbT 1425 (by decide +kernel) rfl, rfl, (fun h => by cases h), Or.inr (Or.inr (Or.inr ⟨rfl, rfl⟩))⟩
theorem vfl_12_201 : pFL 12 (201, 12, 15, 0) := ⟨TX12, 55, tyX12, rfl, inT12, tyX12_ok, nmX12, by decide, tbT 1423 (by decide +kernel) rfl, rfl, (fun h => by cases h), Or.inl ⟨rfl, rfl⟩⟩
theorem vfl_12_204 : pFL 12 (204, 12, 16, 0) := ⟨TX12, 55, tyX12, rfl, inT12, tyX12_ok, nmX12, by decide, tbT 1424 (by decide +kernel) rfl, rfl, (fun h => by cases h), Or.inl ⟨rfl, rfl⟩⟩
theorem vfl_12_220 : pFL 12 (220, 12, 18, 0) := ⟨TX12, 55, tyX12, rfl, inT12, tyX12_ok, nmX12, by decide, tbT 1426 (by decide +kernel) rfl, rfl, (fun h => by cases h), Or.inl ⟨rfl, rfl⟩⟩
theorem vfl_12_263 : pFL 12 (263, 12, 19, 0) := ⟨TX12, 55, tyX12, rfl, inT12, tyX12_ok, nmX12, by decide, tbT 1427 (by decide +kernel) rfl, rfl, (fun h => by cases h), Or.inl ⟨rfl, rfl⟩⟩
theorem vfl_12_272 : pFL 12 (272, 12, 22, 0) := ⟨TX12, 55, tyX12, rfl, inT12, tyX12_ok, nmX12, by decide, tbT 1430 (by decide +kernel) rfl, rfl, (fun h => by cases h), Or.inl ⟨rfl, rfl⟩⟩
theorem vfl_12_366 : pFL 12 (366, 12, 26, 0) := ⟨TX12, 55, tyX12, rfl, inT12, tyX12_ok, nmX12, by decide, tbT 1434 (by decide +kernel) rfl, rfl, (fun h => by cases h), Or.inl ⟨rfl, rfl⟩⟩
theorem vfl_12_378 : pFL 12 (378, 12, 28, 1) := ⟨TX12, 55, tyX12, rfl, inT12, tyX12_ok, nmX12, by decide, tbT 1436 (by decide +kernel) rfl, rfl, (fun h => by cases h), Or.inr (Or.inl ⟨rfl, rfl⟩)⟩
theorem vfl_12_382 : pFL 12 (382, 12, 27, 0) := ⟨TX12, 55, tyX12, rfl, inT12, tyX12_ok, nmX12, by decide, tbT 1435 (by decide +kernel) rfl, rfl, (fun h => by cases h), Or.inl ⟨rfl, rfl⟩⟩
theorem vfl_12_394 : pFL 12 (394, 12, 35, 0) := ⟨TX12, 55, tyX12, rfl, inT12, tyX12_ok, nmX12, by decide, tbT 1443 (by decide +kernel) rfl, rfl, (fun h => by cases h), Or.inl ⟨rfl, rfl⟩⟩
theorem vfl_12_406 : pFL 12 (406, 12, 40, 0) := ⟨TX12, 55, tyX12, rfl, inT12, tyX12_ok, nmX12, by decide, tbT 1448 (by decide +kernel) rfl, rfl, (fun h => by cases h), Or.inl ⟨rfl, rfl⟩⟩
theorem vfl_12_415 : pFL 12 (415, 12, 41, 0) := ⟨TX12, 55, tyX12, rfl, inT12, tyX12_ok, nmX12, by decide, tbT 1449 (by decide +kernel) rfl, rfl, (fun h => by cases h), Or.inl ⟨rfl, rfl⟩⟩
theorem vfl_12_428 : pFL 12 (428, 12, 42, 0) := ⟨TX12, 55, tyX12, rfl, inT12, tyX12_ok, nmX12, by decide, tbT 1450 (by decide +kernel) rfl, rfl, (fun h => by cases h), Or.inl ⟨rfl, rfl⟩⟩
theorem vfl_12_445 : pFL 12 (445, 12, 44, 1) := ⟨TX12, 55, tyX12, rfl, inT12, tyX12_ok, nmX12, by decide, tbT 1452 (by decide +kernel) rfl, rfl, (fun h => by cases h), Or.inr (Or.inl ⟨rfl, rfl⟩)⟩
theorem vfl_12_448 : pFL 12 (448, 12, 46, 0) := ⟨TX12, 55, tyX12, rfl, inT12, tyX12_ok, nmX12, by decide, tbT 1454 (by decide +kernel) rfl, rfl, (fun h => by cases h), Or.inl ⟨rfl, rfl⟩⟩
theorem vfl_12_451 : pFL 12 (451, 12, 48, 0) := ⟨TX12, 55, tyX12, rfl, inT12, tyX12_ok, nmX12, by decide, tbT 1456 (by decide +kernel) rfl, rfl, (fun h => by cases h), Or.inl ⟨rfl, rfl⟩⟩
theorem vfl_12_458 : pFL 12 (458, 12, 49, 0) := ⟨TX12, 55, tyX12, rfl, inT12, tyX12_ok, nmX12, by decide, tbT 1457 (by decide +kernel) rfl, rfl, (fun h => by cases h), Or.inl ⟨rfl, rfl⟩⟩
theorem vfl_12_464 : pFL 12 (464, 12, 47, 0) := ⟨TX12, 55, tyX12, rfl, inT12, tyX12_ok, nmX12, by decide, tbT 1455 (by decide +kernel) rfl, rfl, (fun h => by cases h), Or.inl ⟨rfl, rfl⟩⟩
theorem vfl_12_467 : pFL 12 (467, 12, 50, 1) := ⟨TX12, 55, tyX12, rfl, inT12, tyX12_ok, nmX12, by decide, tbT 1458 (by decide +kernel) rfl, rfl, (fun h => by cases h), Or.inr (Or.inl ⟨rfl, rfl⟩)⟩
theorem vfl_12 : ∀ x ∈ gfl_12, pFL 12 x := List.forall_mem_cons.mpr ⟨vfl_12_1, List.forall_mem_cons.mpr ⟨vfl_12_7, List.forall_mem_cons.mpr ⟨vfl_12_14, List.forall_mem_cons.mpr ⟨vfl_12_18, List.forall_mem_cons.mpr ⟨vfl_12_21, List.forall_mem_cons.mpr ⟨vfl_12_24, List.forall_mem_cons.mpr ⟨vfl_12_33, List.forall_mem_cons.mpr ⟨vfl_12_37, List.forall_mem_cons.mpr ⟨vfl_12_40, List.forall_mem_cons.mpr ⟨vfl_12_43, List.forall_mem_cons.mpr ⟨vfl_12_47, List.forall_mem_cons.mpr ⟨vfl_12_50, List.forall_mem_cons.mpr ⟨vfl_12_53, List.forall_mem_cons.mpr ⟨vfl_12_56, List.forall_mem_cons.mpr ⟨vfl_12_59, List.forall_mem_cons.mpr ⟨vfl_12_62, List.forall_mem_cons.mpr ⟨vfl_12_65, List.forall_mem_cons.mpr ⟨vfl_12_68, List.forall_mem_cons.mpr ⟨vfl_12_71, List.forall_mem_cons.mpr ⟨vfl_12_74, List.forall_mem_cons.mpr ⟨vfl_12_77, List.forall_mem_cons.mpr ⟨vfl_12_80, List.forall_mem_cons.mpr ⟨vfl_12_83, List.forall_mem_cons.mpr ⟨vfl_12_86, List.forall_mem_cons.mpr ⟨vfl_12_89, List.forall_mem_cons.mpr ⟨vfl_12_92, List.forall_mem_cons.mpr ⟨vfl_12_95, List.forall_mem_cons.mpr ⟨vfl_12_98, List.forall_mem_cons.mpr ⟨vfl_12_101, List.forall_mem_cons.mpr ⟨vfl_12_105, List.forall_mem_cons.mpr ⟨vfl_12_108, List.forall_mem_cons.mpr ⟨vfl_12_111, List.forall_mem_cons.mpr ⟨vfl_12_178, List.forall_mem_cons.mpr ⟨vfl_12_181, List.forall_mem_cons.mpr ⟨vfl_12_184, List.forall_mem_cons.mpr ⟨vfl_12_194, List.forall_mem_cons.mpr ⟨vfl_12_197, List.forall_mem_cons.mpr ⟨vfl_12_201, List.forall_mem_cons.mpr ⟨vfl_12_204, List.forall_mem_cons.mpr ⟨vfl_12_220, List.forall_mem_cons.mpr ⟨vfl_12_263, List.forall_mem_cons.mpr ⟨vfl_12_272, List.forall_mem_cons.mpr ⟨vfl_12_366, List.forall_mem_cons.mpr ⟨vfl_12_378, List.forall_mem_cons.mpr ⟨vfl_12_382, List.forall_mem_cons.mpr ⟨vfl_12_394, List.forall_mem_cons.mpr ⟨vfl_12_406, List.forall_mem_cons.mpr ⟨vfl_12_415, List.forall_mem_cons.mpr ⟨vfl_12_428, List.forall_mem_cons.mpr ⟨vfl_12_445, List.forall_mem_cons.mpr ⟨vfl_12_448, List.forall_mem_cons.mpr ⟨vfl_12_451, List.forall_mem_cons.mpr ⟨vfl_12_458, List.forall_mem_cons.mpr ⟨vfl_12_464, List.forall_mem_cons.mpr ⟨vfl_12_467, fun _ h => absurd h List.not_mem_nil⟩⟩⟩⟩⟩⟩⟩⟩⟩⟩⟩⟩⟩⟩⟩⟩⟩⟩⟩⟩⟩⟩⟩⟩⟩⟩⟩⟩⟩⟩⟩⟩⟩⟩⟩⟩⟩⟩⟩⟩⟩⟩⟩⟩⟩⟩⟩⟩⟩⟩⟩⟩⟩⟩⟩
theorem vfl_13 : ∀ x ∈ gfl_13, pFL 13 x := fun _ h => absurd h List.not_mem_nil
theorem vfl_14 : ∀ x ∈ gfl_14, pFL 14 x := fun _ h => absurd h List.not_mem_nil
theorem vfl_15 : ∀ x ∈ gfl_15, pFL 15 x := fun _ h => absurd h List.not_mem_nil
theorem vfl_16 : ∀ x ∈ gfl_16, pFL 16 x := fun _ h => absurd h List.not_mem_nil
theorem vfl : eAll pFL 0 gfl := ⟨vfl_0, vfl_1, vfl_2, vfl_3, vfl_4, vfl_5, vfl_6, vfl_7, vfl_8, vfl_9, vfl_10, vfl_11, vfl_12, vfl_13, vfl_14, vfl_15, vfl_16, trivial⟩
theorem v_FL : eFOK vwCl Tb1 eCN gFL := fun o idx q h => ga2_all (P := pFL) vfl h
def pKI (o : Nat) (x : Nat × Nat) : Prop := Cond.constant (eCN o) x.1 (Int32.ofNat x.2) ∈ Tb1
theorem vki_0 : ∀ x ∈ gki_0, pKI 0 x := fun _ h => absurd h List.not_mem_nil
theorem vki_1 : ∀ x ∈ gki_1, pKI 1 x := fun _ h => absurd h List.not_mem_nil
theorem vki_2_15 : pKI 2 (15, 1103515245) := tbT 895 (by decide +kernel) rfl
theorem vki_2 : ∀ x ∈ gki_2, pKI 2 x := List.forall_mem_cons.mpr ⟨vki_2_15, fun _ h => absurd h List.not_mem_nil⟩
theorem vki_3 : ∀ x ∈ gki_3, pKI 3 x := fun _ h => absurd h List.not_mem_nil
theorem vki_4 : ∀ x ∈ gki_4, pKI 4 x := fun _ h => absurd h List.not_mem_nil
theorem vki_5 : ∀ x ∈ gki_5, pKI 5 x := fun _ h => absurd h List.not_mem_nil
theorem vki_6 : ∀ x ∈ gki_6, pKI 6 x := fun _ h => absurd h List.not_mem_nil
theorem vki_7 : ∀ x ∈ gki_7, pKI 7 x := fun _ h => absurd h List.not_mem_nil
theorem vki_8 : ∀ x ∈ gki_8, pKI 8 x := fun _ h => absurd h List.not_mem_nil
theorem vki_9 : ∀ x ∈ gki_9, pKI 9 x := fun _ h => absurd h List.not_mem_nil
theorem vki_10 : ∀ x ∈ gki_10, pKI 10 x := fun _ h => absurd h List.not_mem_nil
theorem vki_11 : ∀ x ∈ gki_11, pKI 11 x := fun _ h => absurd h List.not_mem_nil
theorem vki_12_418 : pKI 12 (418, 1103515245) := tbT 1970 (by decide +kernel) rfl
theorem vki_12 : ∀ x ∈ gki_12, pKI 12 x := List.forall_mem_cons.mpr ⟨vki_12_418, fun _ h => absurd h List.not_mem_nil⟩
theorem vki_13 : ∀ x ∈ gki_13, pKI 13 x := fun _ h => absurd h List.not_mem_nil
theorem vki_14_265 : pKI 14 (265, 1431655765) := tbT 754 (by decide +kernel) rfl
theorem vki_14_266 : pKI 14 (266, 858993459) := tbT 755 (by decide +kernel) rfl
theorem vki_14_267 : pKI 14 (267, 252645135) := tbT 756 (by decide +kernel) rfl
theorem vki_14 : ∀ x ∈ gki_14, pKI 14 x := List.forall_mem_cons.mpr ⟨vki_14_265, List.forall_mem_cons.mpr ⟨vki_14_266, List.forall_mem_cons.mpr ⟨vki_14_267, fun _ h => absurd h List.not_mem_nil⟩⟩⟩
theorem vki_15 : ∀ x ∈ gki_15, pKI 15 x := fun _ h => absurd h List.not_mem_nil
theorem vki_16 : ∀ x ∈ gki_16, pKI 16 x := fun _ h => absurd h List.not_mem_nil
theorem vki : eAll pKI 0 gki := ⟨vki_0, vki_1, vki_2, vki_3, vki_4, vki_5, vki_6, vki_7, vki_8, vki_9, vki_10, vki_11, vki_12, vki_13, vki_14, vki_15, vki_16, trivial⟩
theorem v_KI : eKOK Tb1 eCN gKI := fun o idx n h => ga2_all (P := pKI) vki h
def pKL (o : Nat) (x : Nat × Nat) : Prop := ∃ v : Int64, Cond.constantLong (eCN o) x.1 v ∈ Tb1
theorem vkl_0 : ∀ x ∈ gkl_0, pKL 0 x := fun _ h => absurd h List.not_mem_nil
theorem vkl_1 : ∀ x ∈ gkl_1, pKL 1 x := fun _ h => absurd h List.not_mem_nil
theorem vkl_2 : ∀ x ∈ gkl_2, pKL 2 x := fun _ h => absurd h List.not_mem_nil
theorem vkl_3 : ∀ x ∈ gkl_3, pKL 3 x := fun _ h => absurd h List.not_mem_nil
theorem vkl_4 : ∀ x ∈ gkl_4, pKL 4 x := fun _ h => absurd h List.not_mem_nil
theorem vkl_5 : ∀ x ∈ gkl_5, pKL 5 x := fun _ h => absurd h List.not_mem_nil
theorem vkl_6 : ∀ x ∈ gkl_6, pKL 6 x := fun _ h => absurd h List.not_mem_nil
theorem vkl_7_43 : pKL 7 (43, 0) := ⟨27, tbT 97 (by decide +kernel) rfl⟩
theorem vkl_7 : ∀ x ∈ gkl_7, pKL 7 x := List.forall_mem_cons.mpr ⟨vkl_7_43, fun _ h => absurd h List.not_mem_nil⟩
theorem vkl_8 : ∀ x ∈ gkl_8, pKL 8 x := fun _ h => absurd h List.not_mem_nil
theorem vkl_9 : ∀ x ∈ gkl_9, pKL 9 x := fun _ h => absurd h List.not_mem_nil
theorem vkl_10 : ∀ x ∈ gkl_10, pKL 10 x := fun _ h => absurd h List.not_mem_nil
theorem vkl_11 : ∀ x ∈ gkl_11, pKL 11 x := fun _ h => absurd h List.not_mem_nil
theorem vkl_12_114 : pKL 12 (114, 0) := ⟨448546567013, tbT 1378 (by decide +kernel) rfl⟩
theorem vkl_12_116 : pKL 12 (116, 0) := ⟨478745093490, tbT 1379 (by decide +kernel) rfl⟩
theorem vkl_12_118 : pKL 12 (118, 0) := ⟨1919905645, tbT 1380 (by decide +kernel) rfl⟩
theorem vkl_12_120 : pKL 12 (120, 0) := ⟨1685024626, tbT 1381 (by decide +kernel) rfl⟩
theorem vkl_12_122 : pKL 12 (122, 0) := ⟨1919902309, tbT 1382 (by decide +kernel) rfl⟩
theorem vkl_12_124 : pKL 12 (124, 0) := ⟨24948, tbT 1383 (by decide +kernel) rfl⟩
theorem vkl_12_126 : pKL 12 (126, 0) := ⟨465557354085, tbT 1384 (by decide +kernel) rfl⟩
theorem vkl_12_128 : pKL 12 (128, 0) := ⟨1751476594, tbT 1385 (by decide +kernel) rfl⟩
theorem vkl_12_130 : pKL 12 (130, 0) := ⟨465625113971, tbT 1386 (by decide +kernel) rfl⟩
theorem vkl_12_132 : pKL 12 (132, 0) := ⟨1735353715, tbT 1387 (by decide +kernel) rfl⟩
theorem vkl_12_134 : pKL 12 (134, 0) := ⟨495622843507, tbT 1388 (by decide +kernel) rfl⟩
theorem vkl_12_136 : pKL 12 (136, 0) := ⟨1818588275, tbT 1389 (by decide +kernel) rfl⟩
theorem vkl_12_138 : pKL 12 (138, 0) := ⟨1650553459, tbT 1390 (by decide +kernel) rfl⟩
theorem vkl_12_140 : pKL 12 (140, 0) := ⟨1684628851, tbT 1391 (by decide +kernel) rfl⟩
theorem vkl_12_142 : pKL 12 (142, 0) := ⟨512869821555, tbT 1392 (by decide +kernel) rfl⟩
theorem vkl_12_144 : pKL 12 (144, 0) := ⟨495673767027, tbT 1393 (by decide +kernel) rfl⟩
theorem vkl_12_146 : pKL 12 (146, 0) := ⟨478627065459, tbT 1394 (by decide +kernel) rfl⟩
theorem vkl_12_148 : pKL 12 (148, 0) := ⟨422877228659, tbT 1395 (by decide +kernel) rfl⟩
theorem vkl_12_150 : pKL 12 (150, 0) := ⟨120299592184933, tbT 1396 (by decide +kernel) rfl⟩
theorem vkl_12_152 : pKL 12 (152, 0) := ⟨28530, tbT 1397 (by decide +kernel) rfl⟩
theorem vkl_12_154 : pKL 12 (154, 0) := ⟨6385252, tbT 1398 (by decide +kernel) rfl⟩
theorem vkl_12_156 : pKL 12 (156, 0) := ⟨7237492, tbT 1399 (by decide +kernel) rfl⟩
theorem vkl_12_158 : pKL 12 (158, 0) := ⟨422877228660, tbT 1400 (by decide +kernel) rfl⟩
theorem vkl_12_160 : pKL 12 (160, 0) := ⟨1718773093, tbT 1401 (by decide +kernel) rfl⟩
theorem vkl_12_162 : pKL 12 (162, 0) := ⟨28518, tbT 1402 (by decide +kernel) rfl⟩
theorem vkl_12_164 : pKL 12 (164, 0) := ⟨26990, tbT 1403 (by decide +kernel) rfl⟩
theorem vkl_12_166 : pKL 12 (166, 0) := ⟨123580963646565, tbT 1404 (by decide +kernel) rfl⟩
theorem vkl_12_168 : pKL 12 (168, 0) := ⟨431366304371, tbT 1405 (by decide +kernel) rfl⟩
theorem vkl_12_170 : pKL 12 (170, 0) := ⟨512970880104, tbT 1406 (by decide +kernel) rfl⟩
theorem vkl_12_172 : pKL 12 (172, 0) := ⟨121450625394034, tbT 1407 (by decide +kernel) rfl⟩
theorem vkl_12 : ∀ x ∈ gkl_12, pKL 12 x := List.forall_mem_cons.mpr ⟨vkl_12_114, List.forall_mem_cons.mpr ⟨vkl_12_116, List.forall_mem_cons.mpr ⟨vkl_12_118, List.forall_mem_cons.mpr ⟨vkl_12_120, List.forall_mem_cons.mpr ⟨vkl_12_122, List.forall_mem_cons.mpr ⟨vkl_12_124, List.forall_mem_cons.mpr ⟨vkl_12_126, List.forall_mem_cons.mpr ⟨vkl_12_128, List.forall_mem_cons.mpr ⟨vkl_12_130, List.forall_mem_cons.mpr ⟨vkl_12_132, List.forall_mem_cons.mpr ⟨vkl_12_134, List.forall_mem_cons.mpr ⟨vkl_12_136, List.forall_mem_cons.mpr ⟨vkl_12_138, List.forall_mem_cons.mpr ⟨vkl_12_140, List.forall_mem_cons.mpr ⟨vkl_12_142, List.forall_mem_cons.mpr ⟨vkl_12_144, List.forall_mem_cons.mpr ⟨vkl_12_146, List.forall_mem_cons.mpr ⟨vkl_12_148, List.forall_mem_cons.mpr ⟨vkl_12_150, List.forall_mem_cons.mpr ⟨vkl_12_152, List.forall_mem_cons.mpr ⟨vkl_12_154, List.forall_mem_cons.mpr ⟨vkl_12_156, List.forall_mem_cons.mpr ⟨vkl_12_158, List.forall_mem_cons.mpr ⟨vkl_12_160, List.forall_mem_cons.mpr ⟨vkl_12_162, List.forall_mem_cons.mpr ⟨vkl_12_164, List.forall_mem_cons.mpr ⟨vkl_12_166, List.forall_mem_cons.mpr ⟨vkl_12_168, List.forall_mem_cons.mpr ⟨vkl_12_170, List.forall_mem_cons.mpr ⟨vkl_12_172, fun _ h => absurd h List.not_mem_nil⟩⟩⟩⟩⟩⟩⟩⟩⟩⟩⟩⟩⟩⟩⟩⟩⟩⟩⟩⟩⟩⟩⟩⟩⟩⟩⟩⟩⟩⟩
theorem vkl_13 : ∀ x ∈ gkl_13, pKL 13 x := fun _ h => absurd h List.not_mem_nil
theorem vkl_14 : ∀ x ∈ gkl_14, pKL 14 x := fun _ h => absurd h List.not_mem_nil
theorem vkl_15 : ∀ x ∈ gkl_15, pKL 15 x := fun _ h => absurd h List.not_mem_nil
theorem vkl_16 : ∀ x ∈ gkl_16, pKL 16 x := fun _ h => absurd h List.not_mem_nil
theorem vkl : eAll pKL 0 gkl := ⟨vkl_0, vkl_1, vkl_2, vkl_3, vkl_4, vkl_5, vkl_6, vkl_7, vkl_8, vkl_9, vkl_10, vkl_11, vkl_12, vkl_13, vkl_14, vkl_15, vkl_16, trivial⟩
theorem v_KL : eJOK Tb1 eCN gKL := fun o idx n h => ga2_all (P := pKL) vkl h
