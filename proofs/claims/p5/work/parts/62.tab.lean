/-! THE CLASS'S Terrace.copyFrom: from thing O to thing T (their arrays lie behind them) -/
noncomputable section
/-- the arrays of thing T that have been copied -/
def md79 : aMd := gc_79_0.2.2.2
def cpS (E : zE) (T O k : Nat) (ws ws2 : va_W) : Prop := (wOk (zso E) (zad E) E.2.2.2.2.2.2.1 gST ws2 ∧ (jOk (zso E) gJ1 ws2 ∧ fRel (zso E) md79 ws ws2)) ∧ (∀ o i : Nat, ¬ (T < o ∧ o ≤ T + k) → gcv ws2 o i = gcv ws o i) ∧ ∀ j i : Nat, j < k → gcv ws2 (T + 1 + j) i = gcv ws (O + 1 + j) i
/-- a Terrace's place: its own arrays behind it -/
def cpT (E : zE) (T : Nat) (ws : va_W) : Prop := (zso0[T]? = some 8 ∧ ∀ j : Nat, j < 8 → zso0[T + 1 + j]? = some (36 + j)) ∧ ∀ j : Nat, j < 8 → ∃ a : Nat, (zad E)[T + 1 + j]? = some a ∧ gcv ws T j = some (.ref a)
end
theorem cpS_up {E : zE} {T O k t n : Nat} {ws ws1 ws2 : va_W} (hTO : T + 8 < O ∨ O + 8 < T) (hk : k < 8) (h : cpS E T O k ws ws1) (w2 : wOk (zso E) (zad E) E.2.2.2.2.2.2.1 gST ws2) (j2 : jOk (zso E) gJ1 ws2) (hf : ∀ o i : Nat, ¬ o = T + 1 + k → gcv ws2 o i = gcv ws1 o i) (hc : ∀ i : Nat, gcv ws2 (T + 1 + k) i = gcv ws1 (O + 1 + k) i) (hF : fRel (zso E) [(t, 0, n)] ws1 ws2) (hm : amds md79 [(t, 0, n)] = true) : cpS E T O (k + 1) ws ws2 := by
  refine ⟨⟨w2, j2, fRel_tr h.1.2.2 hF (amds_ok hm)⟩, fun o i ho => (hf o i (by omega)).trans (h.2.1 o i (by omega)), fun j i hj => ?_⟩
  by_cases e : j = k
  · subst e
    exact (hc i).trans (h.2.1 _ i (by omega))
  · exact (hf _ i (by omega)).trans (h.2.2 j i (by omega))
theorem cpT_at {E : zE} {T O P k : Nat} {ws ws1 : va_W} (hP : P = T ∨ P = O) (hTO : T + 8 < O ∨ O + 8 < T) (hk : k ≤ 8) (h : cpS E T O k ws ws1) (hp : cpT E P ws) : cpT E P ws1 := ⟨hp.1, fun j hj => by
  obtain ⟨a, h1, h2⟩ := hp.2 j hj
  exact ⟨a, h1, (h.2.1 P j (by omega)).trans h2⟩⟩
section CB
variable {E : zE} {ws : va_W} {K : gK}
theorem z_cp79 (B : zB E) (A : zA E gJ1) (hE : zso E = zso0) {T O aT aO : Nat} (hTO : T + 8 < O ∨ O + 8 < T) (hw : wOk (zso E) (zad E) E.2.2.2.2.2.2.1 gST ws) (hj : jOk (zso E) gJ1 ws) (hT : cpT E T ws) (hO : cpT E O ws) (haT : (zad E)[T]? = some aT) (haO : (zad E)[O]? = some aO)
    (h : ∀ ws2 : va_W, wOk (zso E) (zad E) E.2.2.2.2.2.2.1 gST ws2 → jOk (zso E) gJ1 ws2 → (∀ o i : Nat, ¬ (T < o ∧ o ≤ T + 8) → ¬ (o = T ∧ (i = 8 ∨ i = 9)) → gcv ws2 o i = gcv ws o i) → (∀ j i : Nat, j < 8 → gcv ws2 (T + 1 + j) i = gcv ws (O + 1 + j) i) → (∀ i : Nat, i = 8 ∨ i = 9 → gcv ws2 T i = gcv ws O i) → fRel (zso E) md79 ws ws2 → K none ws2) : zgE E gm_79 0 (lv_args 0 [.ref aT, .ref aO]) [] ws 0 0 K := by
  have S0 : cpS E T O 0 ws ws := ⟨⟨hw, hj, fRel_refl⟩, fun o i _ => rfl, fun j i hj => by omega⟩
  -- 0
  obtain ⟨aO0, bO0, cO0⟩ := (cpT_at (Or.inr rfl) hTO (by decide) S0 hO).2 0 (by decide)
  obtain ⟨aT0, bT0, cT0⟩ := (cpT_at (Or.inl rfl) hTO (by decide) S0 hT).2 0 (by decide)
  refine g_aload (j := 1) (len := 1) (i := .aload_n 1) (Or.inr ⟨1, rfl, rfl, rfl⟩) (List.mem_of_getElem? (l := ga_79) (i := 0) (by decide +kernel)) (a := aO) (List.mem_cons_of_mem _ List.mem_cons_self) ?_
  refine g_getT B hE (idx := 9) (t := 8) (List.mem_of_getElem? (l := ga_79) (i := 1) (by decide +kernel)) (q := (8, 0, 12)) (by decide +kernel) S0.1.1 hO.1.1 haO ⟨_, rfl⟩ cO0 ?_
  refine g_iconst (n := 0) (List.mem_of_getElem? (l := ga_79) (i := 2) (by decide +kernel)) ?_
  refine g_aload (j := 0) (len := 1) (i := .aload_n 0) (Or.inr ⟨0, rfl, rfl, rfl⟩) (List.mem_of_getElem? (l := ga_79) (i := 3) (by decide +kernel)) (a := aT) List.mem_cons_self ?_
  refine g_getT B hE (idx := 9) (t := 8) (List.mem_of_getElem? (l := ga_79) (i := 4) (by decide +kernel)) (q := (8, 0, 12)) (by decide +kernel) S0.1.1 hT.1.1 haT ⟨_, rfl⟩ cT0 ?_
  refine g_iconst (n := 0) (List.mem_of_getElem? (l := ga_79) (i := 5) (by decide +kernel)) ?_
  refine g_iconst (n := 3) (List.mem_of_getElem? (l := ga_79) (i := 6) (by decide +kernel)) ?_
  refine g_cpI A.1 hE (idx := 50) (x := 0) (m := 5) (by decide +kernel) (List.mem_of_getElem? (l := ga_79) (i := 7) (by decide +kernel)) (o1 := O + 1 + 0) (o2 := T + 1 + 0) (t := 36) (n := 3) (hO.1.2 0 (by decide)) (hT.1.2 0 (by decide)) bO0 bT0 rfl S0.1.1 S0.1.2.1 (cj_no (by decide +kernel)) (by decide) (by decide) rfl (by decide) (by decide) (fun ws1 w1 j1 f1 c1 F1 => ?_)
  have S1 := cpS_up hTO (by decide : 0 < 8) S0 w1 j1 f1 c1 F1 (by decide +kernel)
  -- 1
  obtain ⟨aO1, bO1, cO1⟩ := (cpT_at (Or.inr rfl) hTO (by decide) S1 hO).2 1 (by decide)
  obtain ⟨aT1, bT1, cT1⟩ := (cpT_at (Or.inl rfl) hTO (by decide) S1 hT).2 1 (by decide)
  refine g_aload (j := 1) (len := 1) (i := .aload_n 1) (Or.inr ⟨1, rfl, rfl, rfl⟩) (List.mem_of_getElem? (l := ga_79) (i := 8) (by decide +kernel)) (a := aO) (List.mem_cons_of_mem _ List.mem_cons_self) ?_
  refine g_getT B hE (idx := 15) (t := 8) (List.mem_of_getElem? (l := ga_79) (i := 9) (by decide +kernel)) (q := (8, 1, 12)) (by decide +kernel) S1.1.1 hO.1.1 haO ⟨_, rfl⟩ cO1 ?_
  refine g_iconst (n := 0) (List.mem_of_getElem? (l := ga_79) (i := 10) (by decide +kernel)) ?_
  refine g_aload (j := 0) (len := 1) (i := .aload_n 0) (Or.inr ⟨0, rfl, rfl, rfl⟩) (List.mem_of_getElem? (l := ga_79) (i := 11) (by decide +kernel)) (a := aT) List.mem_cons_self ?_
  refine g_getT B hE (idx := 15) (t := 8) (List.mem_of_getElem? (l := ga_79) (i := 12) (by decide +kernel)) (q := (8, 1, 12)) (by decide +kernel) S1.1.1 hT.1.1 haT ⟨_, rfl⟩ cT1 ?_
  refine g_iconst (n := 0) (List.mem_of_getElem? (l := ga_79) (i := 13) (by decide +kernel)) ?_
  refine g_bipush (n := 6) (List.mem_of_getElem? (l := ga_79) (i := 14) (by decide +kernel)) ?_
  refine g_cpL A.1 hE (idx := 50) (x := 0) (m := 5) (by decide +kernel) (List.mem_of_getElem? (l := ga_79) (i := 15) (by decide +kernel)) (o1 := O + 1 + 1) (o2 := T + 1 + 1) (t := 37) (n := 6) (hO.1.2 1 (by decide)) (hT.1.2 1 (by decide)) bO1 bT1 rfl S1.1.1 S1.1.2.1 (cj_no (by decide +kernel)) (by decide) (by decide) rfl (by decide) (by decide) (fun ws2 w2 j2 f2 c2 F2 => ?_)
  have S2 := cpS_up hTO (by decide : 1 < 8) S1 w2 j2 f2 c2 F2 (by decide +kernel)
  -- 2
  obtain ⟨aO2, bO2, cO2⟩ := (cpT_at (Or.inr rfl) hTO (by decide) S2 hO).2 2 (by decide)
  obtain ⟨aT2, bT2, cT2⟩ := (cpT_at (Or.inl rfl) hTO (by decide) S2 hT).2 2 (by decide)
  refine g_aload (j := 1) (len := 1) (i := .aload_n 1) (Or.inr ⟨1, rfl, rfl, rfl⟩) (List.mem_of_getElem? (l := ga_79) (i := 16) (by decide +kernel)) (a := aO) (List.mem_cons_of_mem _ List.mem_cons_self) ?_
  refine g_getT B hE (idx := 19) (t := 8) (List.mem_of_getElem? (l := ga_79) (i := 17) (by decide +kernel)) (q := (8, 2, 12)) (by decide +kernel) S2.1.1 hO.1.1 haO ⟨_, rfl⟩ cO2 ?_
  refine g_iconst (n := 0) (List.mem_of_getElem? (l := ga_79) (i := 18) (by decide +kernel)) ?_
  refine g_aload (j := 0) (len := 1) (i := .aload_n 0) (Or.inr ⟨0, rfl, rfl, rfl⟩) (List.mem_of_getElem? (l := ga_79) (i := 19) (by decide +kernel)) (a := aT) List.mem_cons_self ?_
  refine g_getT B hE (idx := 19) (t := 8) (List.mem_of_getElem? (l := ga_79) (i := 20) (by decide +kernel)) (q := (8, 2, 12)) (by decide +kernel) S2.1.1 hT.1.1 haT ⟨_, rfl⟩ cT2 ?_
  refine g_iconst (n := 0) (List.mem_of_getElem? (l := ga_79) (i := 21) (by decide +kernel)) ?_
  refine g_bipush (n := 6) (List.mem_of_getElem? (l := ga_79) (i := 22) (by decide +kernel)) ?_
  refine g_cpL A.1 hE (idx := 50) (x := 0) (m := 5) (by decide +kernel) (List.mem_of_getElem? (l := ga_79) (i := 23) (by decide +kernel)) (o1 := O + 1 + 2) (o2 := T + 1 + 2) (t := 38) (n := 6) (hO.1.2 2 (by decide)) (hT.1.2 2 (by decide)) bO2 bT2 rfl S2.1.1 S2.1.2.1 (cj_no (by decide +kernel)) (by decide) (by decide) rfl (by decide) (by decide) (fun ws3 w3 j3 f3 c3 F3 => ?_)
  have S3 := cpS_up hTO (by decide : 2 < 8) S2 w3 j3 f3 c3 F3 (by decide +kernel)
  -- 3
  obtain ⟨aO3, bO3, cO3⟩ := (cpT_at (Or.inr rfl) hTO (by decide) S3 hO).2 3 (by decide)
  obtain ⟨aT3, bT3, cT3⟩ := (cpT_at (Or.inl rfl) hTO (by decide) S3 hT).2 3 (by decide)
  refine g_aload (j := 1) (len := 1) (i := .aload_n 1) (Or.inr ⟨1, rfl, rfl, rfl⟩) (List.mem_of_getElem? (l := ga_79) (i := 24) (by decide +kernel)) (a := aO) (List.mem_cons_of_mem _ List.mem_cons_self) ?_
  refine g_getT B hE (idx := 22) (t := 8) (List.mem_of_getElem? (l := ga_79) (i := 25) (by decide +kernel)) (q := (8, 3, 12)) (by decide +kernel) S3.1.1 hO.1.1 haO ⟨_, rfl⟩ cO3 ?_
  refine g_iconst (n := 0) (List.mem_of_getElem? (l := ga_79) (i := 26) (by decide +kernel)) ?_
  refine g_aload (j := 0) (len := 1) (i := .aload_n 0) (Or.inr ⟨0, rfl, rfl, rfl⟩) (List.mem_of_getElem? (l := ga_79) (i := 27) (by decide +kernel)) (a := aT) List.mem_cons_self ?_
  refine g_getT B hE (idx := 22) (t := 8) (List.mem_of_getElem? (l := ga_79) (i := 28) (by decide +kernel)) (q := (8, 3, 12)) (by decide +kernel) S3.1.1 hT.1.1 haT ⟨_, rfl⟩ cT3 ?_
  refine g_iconst (n := 0) (List.mem_of_getElem? (l := ga_79) (i := 29) (by decide +kernel)) ?_
  refine g_bipush (n := 12) (List.mem_of_getElem? (l := ga_79) (i := 30) (by decide +kernel)) ?_
  refine g_cpL A.1 hE (idx := 50) (x := 0) (m := 5) (by decide +kernel) (List.mem_of_getElem? (l := ga_79) (i := 31) (by decide +kernel)) (o1 := O + 1 + 3) (o2 := T + 1 + 3) (t := 39) (n := 12) (hO.1.2 3 (by decide)) (hT.1.2 3 (by decide)) bO3 bT3 rfl S3.1.1 S3.1.2.1 (cj_no (by decide +kernel)) (by decide) (by decide) rfl (by decide) (by decide) (fun ws4 w4 j4 f4 c4 F4 => ?_)
  have S4 := cpS_up hTO (by decide : 3 < 8) S3 w4 j4 f4 c4 F4 (by decide +kernel)
  -- 4
  obtain ⟨aO4, bO4, cO4⟩ := (cpT_at (Or.inr rfl) hTO (by decide) S4 hO).2 4 (by decide)
  obtain ⟨aT4, bT4, cT4⟩ := (cpT_at (Or.inl rfl) hTO (by decide) S4 hT).2 4 (by decide)
  refine g_aload (j := 1) (len := 1) (i := .aload_n 1) (Or.inr ⟨1, rfl, rfl, rfl⟩) (List.mem_of_getElem? (l := ga_79) (i := 32) (by decide +kernel)) (a := aO) (List.mem_cons_of_mem _ List.mem_cons_self) ?_
  refine g_getT B hE (idx := 25) (t := 8) (List.mem_of_getElem? (l := ga_79) (i := 33) (by decide +kernel)) (q := (8, 4, 12)) (by decide +kernel) S4.1.1 hO.1.1 haO ⟨_, rfl⟩ cO4 ?_
  refine g_iconst (n := 0) (List.mem_of_getElem? (l := ga_79) (i := 34) (by decide +kernel)) ?_
  refine g_aload (j := 0) (len := 1) (i := .aload_n 0) (Or.inr ⟨0, rfl, rfl, rfl⟩) (List.mem_of_getElem? (l := ga_79) (i := 35) (by decide +kernel)) (a := aT) List.mem_cons_self ?_
  refine g_getT B hE (idx := 25) (t := 8) (List.mem_of_getElem? (l := ga_79) (i := 36) (by decide +kernel)) (q := (8, 4, 12)) (by decide +kernel) S4.1.1 hT.1.1 haT ⟨_, rfl⟩ cT4 ?_
  refine g_iconst (n := 0) (List.mem_of_getElem? (l := ga_79) (i := 37) (by decide +kernel)) ?_
  refine g_bipush (n := 12) (List.mem_of_getElem? (l := ga_79) (i := 38) (by decide +kernel)) ?_
  refine g_cpI A.1 hE (idx := 50) (x := 0) (m := 5) (by decide +kernel) (List.mem_of_getElem? (l := ga_79) (i := 39) (by decide +kernel)) (o1 := O + 1 + 4) (o2 := T + 1 + 4) (t := 40) (n := 12) (hO.1.2 4 (by decide)) (hT.1.2 4 (by decide)) bO4 bT4 rfl S4.1.1 S4.1.2.1 (cj_no (by decide +kernel)) (by decide) (by decide) rfl (by decide) (by decide) (fun ws5 w5 j5 f5 c5 F5 => ?_)
  have S5 := cpS_up hTO (by decide : 4 < 8) S4 w5 j5 f5 c5 F5 (by decide +kernel)
  -- 5
  obtain ⟨aO5, bO5, cO5⟩ := (cpT_at (Or.inr rfl) hTO (by decide) S5 hO).2 5 (by decide)
  obtain ⟨aT5, bT5, cT5⟩ := (cpT_at (Or.inl rfl) hTO (by decide) S5 hT).2 5 (by decide)
  refine g_aload (j := 1) (len := 1) (i := .aload_n 1) (Or.inr ⟨1, rfl, rfl, rfl⟩) (List.mem_of_getElem? (l := ga_79) (i := 40) (by decide +kernel)) (a := aO) (List.mem_cons_of_mem _ List.mem_cons_self) ?_
  refine g_getT B hE (idx := 28) (t := 8) (List.mem_of_getElem? (l := ga_79) (i := 41) (by decide +kernel)) (q := (8, 5, 12)) (by decide +kernel) S5.1.1 hO.1.1 haO ⟨_, rfl⟩ cO5 ?_
  refine g_iconst (n := 0) (List.mem_of_getElem? (l := ga_79) (i := 42) (by decide +kernel)) ?_
  refine g_aload (j := 0) (len := 1) (i := .aload_n 0) (Or.inr ⟨0, rfl, rfl, rfl⟩) (List.mem_of_getElem? (l := ga_79) (i := 43) (by decide +kernel)) (a := aT) List.mem_cons_self ?_
  refine g_getT B hE (idx := 28) (t := 8) (List.mem_of_getElem? (l := ga_79) (i := 44) (by decide +kernel)) (q := (8, 5, 12)) (by decide +kernel) S5.1.1 hT.1.1 haT ⟨_, rfl⟩ cT5 ?_
  refine g_iconst (n := 0) (List.mem_of_getElem? (l := ga_79) (i := 45) (by decide +kernel)) ?_
  refine g_bipush (n := 20) (List.mem_of_getElem? (l := ga_79) (i := 46) (by decide +kernel)) ?_
  refine g_cpI A.1 hE (idx := 50) (x := 0) (m := 5) (by decide +kernel) (List.mem_of_getElem? (l := ga_79) (i := 47) (by decide +kernel)) (o1 := O + 1 + 5) (o2 := T + 1 + 5) (t := 41) (n := 20) (hO.1.2 5 (by decide)) (hT.1.2 5 (by decide)) bO5 bT5 rfl S5.1.1 S5.1.2.1 (cj_no (by decide +kernel)) (by decide) (by decide) rfl (by decide) (by decide) (fun ws6 w6 j6 f6 c6 F6 => ?_)
  have S6 := cpS_up hTO (by decide : 5 < 8) S5 w6 j6 f6 c6 F6 (by decide +kernel)
  -- 6
  obtain ⟨aO6, bO6, cO6⟩ := (cpT_at (Or.inr rfl) hTO (by decide) S6 hO).2 6 (by decide)
  obtain ⟨aT6, bT6, cT6⟩ := (cpT_at (Or.inl rfl) hTO (by decide) S6 hT).2 6 (by decide)
  refine g_aload (j := 1) (len := 1) (i := .aload_n 1) (Or.inr ⟨1, rfl, rfl, rfl⟩) (List.mem_of_getElem? (l := ga_79) (i := 48) (by decide +kernel)) (a := aO) (List.mem_cons_of_mem _ List.mem_cons_self) ?_
  refine g_getT B hE (idx := 31) (t := 8) (List.mem_of_getElem? (l := ga_79) (i := 49) (by decide +kernel)) (q := (8, 6, 12)) (by decide +kernel) S6.1.1 hO.1.1 haO ⟨_, rfl⟩ cO6 ?_
  refine g_iconst (n := 0) (List.mem_of_getElem? (l := ga_79) (i := 50) (by decide +kernel)) ?_
  refine g_aload (j := 0) (len := 1) (i := .aload_n 0) (Or.inr ⟨0, rfl, rfl, rfl⟩) (List.mem_of_getElem? (l := ga_79) (i := 51) (by decide +kernel)) (a := aT) List.mem_cons_self ?_
  refine g_getT B hE (idx := 31) (t := 8) (List.mem_of_getElem? (l := ga_79) (i := 52) (by decide +kernel)) (q := (8, 6, 12)) (by decide +kernel) S6.1.1 hT.1.1 haT ⟨_, rfl⟩ cT6 ?_
  refine g_iconst (n := 0) (List.mem_of_getElem? (l := ga_79) (i := 53) (by decide +kernel)) ?_
  refine g_bipush (n := 20) (List.mem_of_getElem? (l := ga_79) (i := 54) (by decide +kernel)) ?_
  refine g_cpI A.1 hE (idx := 50) (x := 0) (m := 5) (by decide +kernel) (List.mem_of_getElem? (l := ga_79) (i := 55) (by decide +kernel)) (o1 := O + 1 + 6) (o2 := T + 1 + 6) (t := 42) (n := 20) (hO.1.2 6 (by decide)) (hT.1.2 6 (by decide)) bO6 bT6 rfl S6.1.1 S6.1.2.1 (cj_no (by decide +kernel)) (by decide) (by decide) rfl (by decide) (by decide) (fun ws7 w7 j7 f7 c7 F7 => ?_)
  have S7 := cpS_up hTO (by decide : 6 < 8) S6 w7 j7 f7 c7 F7 (by decide +kernel)
  -- 7
  obtain ⟨aO7, bO7, cO7⟩ := (cpT_at (Or.inr rfl) hTO (by decide) S7 hO).2 7 (by decide)
  obtain ⟨aT7, bT7, cT7⟩ := (cpT_at (Or.inl rfl) hTO (by decide) S7 hT).2 7 (by decide)
  refine g_aload (j := 1) (len := 1) (i := .aload_n 1) (Or.inr ⟨1, rfl, rfl, rfl⟩) (List.mem_of_getElem? (l := ga_79) (i := 56) (by decide +kernel)) (a := aO) (List.mem_cons_of_mem _ List.mem_cons_self) ?_
  refine g_getT B hE (idx := 34) (t := 8) (List.mem_of_getElem? (l := ga_79) (i := 57) (by decide +kernel)) (q := (8, 7, 12)) (by decide +kernel) S7.1.1 hO.1.1 haO ⟨_, rfl⟩ cO7 ?_
  refine g_iconst (n := 0) (List.mem_of_getElem? (l := ga_79) (i := 58) (by decide +kernel)) ?_
  refine g_aload (j := 0) (len := 1) (i := .aload_n 0) (Or.inr ⟨0, rfl, rfl, rfl⟩) (List.mem_of_getElem? (l := ga_79) (i := 59) (by decide +kernel)) (a := aT) List.mem_cons_self ?_
  refine g_getT B hE (idx := 34) (t := 8) (List.mem_of_getElem? (l := ga_79) (i := 60) (by decide +kernel)) (q := (8, 7, 12)) (by decide +kernel) S7.1.1 hT.1.1 haT ⟨_, rfl⟩ cT7 ?_
  refine g_iconst (n := 0) (List.mem_of_getElem? (l := ga_79) (i := 61) (by decide +kernel)) ?_
  refine g_bipush (n := 72) (List.mem_of_getElem? (l := ga_79) (i := 62) (by decide +kernel)) ?_
  refine g_cpI A.1 hE (idx := 50) (x := 0) (m := 5) (by decide +kernel) (List.mem_of_getElem? (l := ga_79) (i := 63) (by decide +kernel)) (o1 := O + 1 + 7) (o2 := T + 1 + 7) (t := 43) (n := 72) (hO.1.2 7 (by decide)) (hT.1.2 7 (by decide)) bO7 bT7 rfl S7.1.1 S7.1.2.1 (cj_no (by decide +kernel)) (by decide) (by decide) rfl (by decide) (by decide) (fun ws8 w8 j8 f8 c8 F8 => ?_)
  have S8 := cpS_up hTO (by decide : 7 < 8) S7 w8 j8 f8 c8 F8 (by decide +kernel)
  obtain ⟨y8, hy8, r8⟩ := cf_int hE S8.1.1 hO.1.1 (f := 8) (lo := .ofNat 0) (hi := .ofNat 20) ⟨_, rfl, rfl⟩
  -- passages
  refine g_aload (j := 0) (len := 1) (i := .aload_n 0) (Or.inr ⟨0, rfl, rfl, rfl⟩) (List.mem_of_getElem? (l := ga_79) (i := 64) (by decide +kernel)) (a := aT) List.mem_cons_self ?_
  refine g_aload (j := 1) (len := 1) (i := .aload_n 1) (Or.inr ⟨1, rfl, rfl, rfl⟩) (List.mem_of_getElem? (l := ga_79) (i := 65) (by decide +kernel)) (a := aO) (List.mem_cons_of_mem _ List.mem_cons_self) ?_
  refine g_getT B hE (idx := 43) (t := 8) (List.mem_of_getElem? (l := ga_79) (i := 66) (by decide +kernel)) (q := (8, 8, 0)) (by decide +kernel) S8.1.1 hO.1.1 haO ⟨_, rfl⟩ hy8 ?_
  refine g_putT B hE (idx := 43) (t := 8) (List.mem_of_getElem? (l := ga_79) (i := 67) (by decide +kernel)) (q := (8, 8, 0)) (by decide +kernel) (by decide) S8.1.1 S8.1.2.1 hT.1.1 haT rfl rfl r8 (Or.inl ⟨rfl, _, rfl⟩) (cj_no (by decide +kernel)) (fun ws9 w9 j9 f9 c9 F9 => ?_)
  obtain ⟨y9, hy9, r9⟩ := cf_int hE w9 hO.1.1 (f := 9) (lo := .negSucc 2147483647) (hi := .ofNat 2147483647) ⟨_, rfl, rfl⟩
  -- robes
  refine g_aload (j := 0) (len := 1) (i := .aload_n 0) (Or.inr ⟨0, rfl, rfl, rfl⟩) (List.mem_of_getElem? (l := ga_79) (i := 68) (by decide +kernel)) (a := aT) List.mem_cons_self ?_
  refine g_aload (j := 1) (len := 1) (i := .aload_n 1) (Or.inr ⟨1, rfl, rfl, rfl⟩) (List.mem_of_getElem? (l := ga_79) (i := 69) (by decide +kernel)) (a := aO) (List.mem_cons_of_mem _ List.mem_cons_self) ?_
  refine g_getT B hE (idx := 47) (t := 8) (List.mem_of_getElem? (l := ga_79) (i := 70) (by decide +kernel)) (q := (8, 9, 0)) (by decide +kernel) w9 hO.1.1 haO ⟨_, rfl⟩ hy9 ?_
  refine g_putT B hE (idx := 47) (t := 8) (List.mem_of_getElem? (l := ga_79) (i := 71) (by decide +kernel)) (q := (8, 9, 0)) (by decide +kernel) (by decide) w9 j9 hT.1.1 haT rfl rfl r9 (Or.inl ⟨rfl, _, rfl⟩) (cj_no (by decide +kernel)) (fun ws10 w10 j10 f10 c10 F10 => ?_)
  refine g_return (List.mem_of_getElem? (l := ga_79) (i := 72) (by decide +kernel)) rfl (by decide) (by decide) (h ws10 w10 j10 (fun o i h1 h2 => ?_) (fun j i hj => ?_) (fun i hi => ?_) (fRel_tr (fRel_tr S8.1.2.2 F9 (amds_ok (by decide +kernel))) F10 (amds_ok (by decide +kernel))))
  · rw [f10 o i (by show ¬ (o = T ∧ i = 9); omega), f9 o i (by show ¬ (o = T ∧ i = 8); omega)]
    exact S8.2.1 o i h1
  · rw [f10 _ i (by show ¬ (T + 1 + j = T ∧ i = 9); omega), f9 _ i (by show ¬ (T + 1 + j = T ∧ i = 8); omega)]
    exact S8.2.2 j i hj
  · rcases hi with rfl | rfl
    · rw [f10 T 8 (by show ¬ (T = T ∧ 8 = 9); omega), c9, ← hy8]
      exact S8.2.1 O 8 (by omega)
    · rw [c10, ← hy9, f9 O 9 (by show ¬ (O = T ∧ 9 = 8); omega)]
      exact S8.2.1 O 9 (by omega)
end CB
