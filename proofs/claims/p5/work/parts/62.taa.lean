/-! A THING IS WRITTEN: the world stays well; copies from thing to thing. -/
section CA
variable {E : zE}
theorem cw_set {ws : va_W} (hE : zso E = zso0) (hw : wOk (zso E) (zad E) E.2.2.2.2.2.2.1 gST ws) (hj : jOk (zso E) gJ1 ws) {o t a : Nat} {e e2 : va_E} (he : ws[o]? = some (a, e)) (ho : zso0[o]? = some t) (h2 : eOk zso0 (zad E) E.2.2.2.2.2.2.1 gST t e2) (hx : xE t e2) (hno : ∀ J ∈ gJ1, ¬ J.1 = t ∧ ∀ q ∈ J.2.2.1, ¬ q.2.1 = t) : wOk (zso E) (zad E) E.2.2.2.2.2.2.1 gST (ws.set o (a, e2)) ∧ jOk (zso E) gJ1 (ws.set o (a, e2)) := by
  have ho2 : (zso E)[o]? = some t := by rw [hE]; exact ho
  refine ⟨⟨by rw [ead_set he]; exact hw.1, hw.2.1, fun o2 t2 q hq ht2 => ?_⟩, j_oth hj he ho2 hno⟩
  have hl : o < ws.length := (List.getElem?_eq_some_iff.mp he).1
  by_cases hh : o2 = o
  · subst hh
    rw [List.getElem?_set_self hl] at hq
    cases hq
    rw [ho2] at ht2
    cases ht2
    rw [hE]
    exact ⟨h2, hx⟩
  · rw [List.getElem?_set_ne (fun q => hh q.symm)] at hq
    exact hw.2.2 o2 t2 q hq ht2
theorem cj_no {t : Nat} (h : (gJ1.all fun J => !(Nat.beq J.1 t) && J.2.2.1.all fun q => !(Nat.beq q.2.1 t)) = true) : ∀ J ∈ gJ1, ¬ J.1 = t ∧ ∀ q ∈ J.2.2.1, ¬ q.2.1 = t := by
  intro J hJ
  have g := List.all_eq_true.mp h J hJ
  rw [Bool.and_eq_true] at g
  refine ⟨fun e => ?_, fun q hq e => ?_⟩
  · rw [e, Nat.beq_refl] at g; exact absurd g.1 (by decide)
  · have g2 := List.all_eq_true.mp g.2 q hq
    rw [e, Nat.beq_refl] at g2; exact absurd g2 (by decide)
theorem cw_at {ws : va_W} (hE : zso E = zso0) (hw : wOk (zso E) (zad E) E.2.2.2.2.2.2.1 gST ws) {o t a : Nat} (ho : zso0[o]? = some t) (ha : (zad E)[o]? = some a) : ∃ e, ws[o]? = some (a, e) ∧ eOk zso0 (zad E) E.2.2.2.2.2.2.1 gST t e := by
  obtain ⟨a2, e, g1, g2, g3⟩ := w0_at (ST := gST) (tys := E.2.2.2.2.2.2.1) ⟨hw.1, hw.2.1, fun o t q hq ht => (hw.2.2 o t q hq ht).1⟩ (o := o) (t := t) (by rw [hE]; exact ho)
  rw [ha] at g2
  cases g2
  rw [hE] at g3
  exact ⟨e, g1, g3⟩
theorem xE_no {t : Nat} {e : va_E} (h : ¬ (t = 52 ∨ t = 74)) : xE t e := fun _ _ _ _ => ⟨fun q => absurd (Or.inl q) h, fun q => absurd (Or.inr q) h⟩
/-- a whole array of ints -/
theorem g_cpI (hy : gCcy E.2.2.2.2.2.2.2.1 E.2.2.2.2.2.2.2.2.2.2.1 gCL) (hE : zso E = zso0) {mi : eM} {pc : Nat} {lv : List (Nat × Value)} {st : List Value} {ws : va_W} {ce sl : Nat} {K : gK} {idx x m : Nat} (hcl : gCL mi.1 idx = some (7, x, m)) (hm : (pc, .invokestatic idx, 3) ∈ mi.2.2.2.2.2.2) {o1 o2 t a1 a2 n : Nat} {rg : List (Nat × Int × Int)} {u : Nat} (h1 : zso0[o1]? = some t) (h2 : zso0[o2]? = some t) (ha1 : (zad E)[o1]? = some a1) (ha2 : (zad E)[o2]? = some a2) (hob : gST t = some (.inr (0, n, rg, u))) (hw : wOk (zso E) (zad E) E.2.2.2.2.2.2.1 gST ws) (hj : jOk (zso E) gJ1 ws) (hno : ∀ J ∈ gJ1, ¬ J.1 = t ∧ ∀ q ∈ J.2.2.1, ¬ q.2.1 = t) (ht : ¬ (t = 52 ∨ t = 74)) {z : Int32} (hz0 : ¬ z < 0) (hz : z.toNatClampNeg = n) (b1 : 1 ≤ mi.2.2.2.1) (b2 : (st.map fun v => v.category).sum + 100 ≤ mi.2.2.2.2.1)
    (h : ∀ ws2 : va_W, wOk (zso E) (zad E) E.2.2.2.2.2.2.1 gST ws2 → jOk (zso E) gJ1 ws2 → (∀ o i : Nat, ¬ o = o2 → gcv ws2 o i = gcv ws o i) → (∀ i : Nat, gcv ws2 o2 i = gcv ws o1 i) → fRel (zso E) [(t, 0, n)] ws ws2 → zgE E mi (pc + 3) lv st ws2 ce sl K) : zgE E mi pc lv (.int z :: .int 0 :: .ref a2 :: .int 0 :: .ref a1 :: st) ws ce sl K := by
  obtain ⟨e1, w1, k1⟩ := cw_at hE hw h1 ha1
  obtain ⟨e2, w2, k2⟩ := cw_at hE hw h2 ha2
  unfold eOk at k1 k2
  rw [hob] at k1 k2
  rcases k1 with ⟨q3, cA, f, t6, rfl, q1, q2⟩ | ⟨q1, -⟩ | ⟨q1, -⟩
  · rcases k2 with ⟨r3, cB, g, t7, rfl, r1, r2⟩ | ⟨r1, -⟩ | ⟨r1, -⟩
    · have hv : ∀ i : Nat, i < n → va_cpy f g 0 0 z.toNatClampNeg i = f i := fun i hi => by
        unfold va_cpy
        rw [if_pos (by omega), Nat.zero_add, Nat.sub_zero]
      have hE2 : eOk zso0 (zad E) E.2.2.2.2.2.2.1 gST t (.inl (cB, n, .inl (va_cpy f g 0 0 z.toNatClampNeg))) := by
        unfold eOk
        rw [hob]
        exact Or.inl ⟨r3, cB, _, t7, rfl, r1, fun j hj => by rw [hv j hj]; exact q2 j hj⟩
      obtain ⟨p1, p2⟩ := cw_set hE hw hj w2 h2 hE2 (xE_no ht) hno
      refine g_copyi2 hy hcl hm w1 w2 q1 r1 hz0 (by show z.toNatClampNeg ≤ n; omega) (by show z.toNatClampNeg ≤ n; omega) b1 b2 (h _ p1 p2 (fun o i ho => ?_) (fun i => ?_) (fun o3 t3 i g1 g2 => ?_))
      · rw [gcv_set w2, if_neg ho]
      · rw [gcv_set w2, if_pos rfl, gcv_at w1]
        show (if i < n then some (Value.int (va_cpy f g 0 0 z.toNatClampNeg i)) else none) = (if i < n then some (Value.int (f i)) else none)
        by_cases hi : i < n
        · rw [if_pos hi, if_pos hi, hv i hi]
        · rw [if_neg hi, if_neg hi]
      · rw [gcv_set w2]
        by_cases e : o3 = o2
        · subst e
          rw [if_pos rfl, gcv_at w2]
          rw [hE, h2] at g1
          cases g1
          have hi : ¬ i < n := fun hi => g2 (t, 0, n) List.mem_cons_self ⟨rfl, Nat.zero_le _, hi⟩
          show (if i < n then some (Value.int (va_cpy f g 0 0 z.toNatClampNeg i)) else none) = (if i < n then some (Value.int (g i)) else none)
          rw [if_neg hi, if_neg hi]
        · rw [if_neg e]
    · exact absurd r1 (show ¬ _ from by first | exact (by decide : ¬ (0 : Nat) = 3) | exact (by decide : ¬ (0 : Nat) = 4) | exact (by decide : ¬ (3 : Nat) < 3) | exact (by decide : ¬ (3 : Nat) = 4))
    · exact absurd r1 (show ¬ _ from by first | exact (by decide : ¬ (0 : Nat) = 3) | exact (by decide : ¬ (0 : Nat) = 4) | exact (by decide : ¬ (3 : Nat) < 3) | exact (by decide : ¬ (3 : Nat) = 4))
  · exact absurd q1 (show ¬ _ from by first | exact (by decide : ¬ (0 : Nat) = 3) | exact (by decide : ¬ (0 : Nat) = 4) | exact (by decide : ¬ (3 : Nat) < 3) | exact (by decide : ¬ (3 : Nat) = 4))
  · exact absurd q1 (show ¬ _ from by first | exact (by decide : ¬ (0 : Nat) = 3) | exact (by decide : ¬ (0 : Nat) = 4) | exact (by decide : ¬ (3 : Nat) < 3) | exact (by decide : ¬ (3 : Nat) = 4))
/-- .. of longs -/
theorem g_cpL (hy : gCcy E.2.2.2.2.2.2.2.1 E.2.2.2.2.2.2.2.2.2.2.1 gCL) (hE : zso E = zso0) {mi : eM} {pc : Nat} {lv : List (Nat × Value)} {st : List Value} {ws : va_W} {ce sl : Nat} {K : gK} {idx x m : Nat} (hcl : gCL mi.1 idx = some (7, x, m)) (hm : (pc, .invokestatic idx, 3) ∈ mi.2.2.2.2.2.2) {o1 o2 t a1 a2 n : Nat} {rg : List (Nat × Int × Int)} {u : Nat} (h1 : zso0[o1]? = some t) (h2 : zso0[o2]? = some t) (ha1 : (zad E)[o1]? = some a1) (ha2 : (zad E)[o2]? = some a2) (hob : gST t = some (.inr (3, n, rg, u))) (hw : wOk (zso E) (zad E) E.2.2.2.2.2.2.1 gST ws) (hj : jOk (zso E) gJ1 ws) (hno : ∀ J ∈ gJ1, ¬ J.1 = t ∧ ∀ q ∈ J.2.2.1, ¬ q.2.1 = t) (ht : ¬ (t = 52 ∨ t = 74)) {z : Int32} (hz0 : ¬ z < 0) (hz : z.toNatClampNeg = n) (b1 : 1 ≤ mi.2.2.2.1) (b2 : (st.map fun v => v.category).sum + 100 ≤ mi.2.2.2.2.1)
    (h : ∀ ws2 : va_W, wOk (zso E) (zad E) E.2.2.2.2.2.2.1 gST ws2 → jOk (zso E) gJ1 ws2 → (∀ o i : Nat, ¬ o = o2 → gcv ws2 o i = gcv ws o i) → (∀ i : Nat, gcv ws2 o2 i = gcv ws o1 i) → fRel (zso E) [(t, 0, n)] ws ws2 → zgE E mi (pc + 3) lv st ws2 ce sl K) : zgE E mi pc lv (.int z :: .int 0 :: .ref a2 :: .int 0 :: .ref a1 :: st) ws ce sl K := by
  obtain ⟨e1, w1, k1⟩ := cw_at hE hw h1 ha1
  obtain ⟨e2, w2, k2⟩ := cw_at hE hw h2 ha2
  unfold eOk at k1 k2
  rw [hob] at k1 k2
  rcases k1 with ⟨q1, -⟩ | ⟨q3, cA, f, t6, rfl, q1⟩ | ⟨q1, -⟩
  · exact absurd q1 (show ¬ _ from by first | exact (by decide : ¬ (0 : Nat) = 3) | exact (by decide : ¬ (0 : Nat) = 4) | exact (by decide : ¬ (3 : Nat) < 3) | exact (by decide : ¬ (3 : Nat) = 4))
  · rcases k2 with ⟨r1, -⟩ | ⟨r3, cB, g, t7, rfl, r1⟩ | ⟨r1, -⟩
    · exact absurd r1 (show ¬ _ from by first | exact (by decide : ¬ (0 : Nat) = 3) | exact (by decide : ¬ (0 : Nat) = 4) | exact (by decide : ¬ (3 : Nat) < 3) | exact (by decide : ¬ (3 : Nat) = 4))
    · have hE2 : eOk zso0 (zad E) E.2.2.2.2.2.2.1 gST t (.inl (cB, n, .inr (.inl (va_cpy f g 0 0 z.toNatClampNeg)))) := by
        unfold eOk
        rw [hob]
        exact Or.inr (Or.inl ⟨r3, cB, _, t7, rfl, r1⟩)
      obtain ⟨p1, p2⟩ := cw_set hE hw hj w2 h2 hE2 (xE_no ht) hno
      refine g_copyl2 hy hcl hm w1 w2 q1 r1 hz0 (by show z.toNatClampNeg ≤ n; omega) (by show z.toNatClampNeg ≤ n; omega) b1 b2 (h _ p1 p2 (fun o i ho => ?_) (fun i => ?_) (fun o3 t3 i g1 g2 => ?_))
      · rw [gcv_set w2, if_neg ho]
      · rw [gcv_set w2, if_pos rfl, gcv_at w1]
        show (if i < n then some (Value.long (va_cpy f g 0 0 z.toNatClampNeg i)) else none) = (if i < n then some (Value.long (f i)) else none)
        by_cases hi : i < n
        · rw [if_pos hi, if_pos hi]
          unfold va_cpy
          rw [if_pos (by omega), Nat.zero_add, Nat.sub_zero]
        · rw [if_neg hi, if_neg hi]
      · rw [gcv_set w2]
        by_cases e : o3 = o2
        · subst e
          rw [if_pos rfl, gcv_at w2]
          rw [hE, h2] at g1
          cases g1
          have hi : ¬ i < n := fun hi => g2 (t, 0, n) List.mem_cons_self ⟨rfl, Nat.zero_le _, hi⟩
          show (if i < n then some (Value.long (va_cpy f g 0 0 z.toNatClampNeg i)) else none) = (if i < n then some (Value.long (g i)) else none)
          rw [if_neg hi, if_neg hi]
        · rw [if_neg e]
    · exact absurd r1 (show ¬ _ from by first | exact (by decide : ¬ (0 : Nat) = 3) | exact (by decide : ¬ (0 : Nat) = 4) | exact (by decide : ¬ (3 : Nat) < 3) | exact (by decide : ¬ (3 : Nat) = 4))
  · exact absurd q1 (show ¬ _ from by first | exact (by decide : ¬ (0 : Nat) = 3) | exact (by decide : ¬ (0 : Nat) = 4) | exact (by decide : ¬ (3 : Nat) < 3) | exact (by decide : ¬ (3 : Nat) = 4))
/-- a field is looked at, by the thing's cells -/
theorem g_getT (B : zB E) (hE : zso E = zso0) {mi : eM} {pc : Nat} {lv : List (Nat × Value)} {st : List Value} {ws : va_W} {ce sl : Nat} {K : gK} {idx : Nat} {q : Nat × Nat × Nat} (hm : (pc, .getfield idx, 3) ∈ mi.2.2.2.2.2.2) (hq : gFL mi.1 idx = some q) (hw : wOk (zso E) (zad E) E.2.2.2.2.2.2.1 gST ws) {o a t : Nat} (ho : zso0[o]? = some t) (ha : (zad E)[o]? = some a) (hob : ∃ fs0, gST t = some (.inl (q.1, fs0))) {x : Value} (hx : gcv ws o q.2.1 = some x) (h : zgE E mi (pc + 3) lv (x :: st) ws ce sl K) : zgE E mi pc lv (.ref a :: st) ws ce sl K := by
  obtain ⟨e, w1, k1⟩ := cw_at hE hw ho ha
  obtain ⟨fs0, hob⟩ := hob
  unfold eOk at k1
  rw [hob] at k1
  obtain ⟨fs, rfl, -, -⟩ := k1
  rw [gcv_at w1] at hx
  exact g_get B.2.2.1 hm hq w1 hx h
/-- an int's field is written -/
theorem g_putT (B : zB E) (hE : zso E = zso0) {mi : eM} {pc : Nat} {lv : List (Nat × Value)} {st : List Value} {ws : va_W} {ce sl : Nat} {K : gK} {idx : Nat} {q : Nat × Nat × Nat} (hm : (pc, .putfield idx, 3) ∈ mi.2.2.2.2.2.2) (hq : gFL mi.1 idx = some q) (hn : q.2.2 < 10) (hw : wOk (zso E) (zad E) E.2.2.2.2.2.2.1 gST ws) (hj : jOk (zso E) gJ1 ws) {o a t : Nat} (ho : zso0[o]? = some t) (ha : (zad E)[o]? = some a) {fs0 : List aF} (hob : gST t = some (.inl (q.1, fs0))) {lo hi : Int} (hf : fs0[q.2.1]? = some (.inl (lo, hi))) {z : Int32} (hz : lo ≤ z.toInt ∧ z.toInt ≤ hi) (hfit : gFit q.2.2 (.int z)) (hno : ∀ J ∈ gJ1, ¬ J.1 = t ∧ ∀ q ∈ J.2.2.1, ¬ q.2.1 = t)
    (h : ∀ ws2 : va_W, wOk (zso E) (zad E) E.2.2.2.2.2.2.1 gST ws2 → jOk (zso E) gJ1 ws2 → (∀ o3 i : Nat, ¬ (o3 = o ∧ i = q.2.1) → gcv ws2 o3 i = gcv ws o3 i) → gcv ws2 o q.2.1 = some (.int z) → fRel (zso E) [(t, q.2.1, q.2.1 + 1)] ws ws2 → zgE E mi (pc + 3) lv st ws2 ce sl K) : zgE E mi pc lv (.int z :: .ref a :: st) ws ce sl K := by
  obtain ⟨e, w1, k1⟩ := cw_at hE hw ho ha
  unfold eOk at k1
  rw [hob] at k1
  obtain ⟨fs, rfl, k2, k3⟩ := k1
  have hl : q.2.1 < fs.length := by rw [k2]; exact (List.getElem?_eq_some_iff.mp hf).1
  have hE2 : eOk zso0 (zad E) E.2.2.2.2.2.2.1 gST t (.inr (q.1, fs.set q.2.1 (.int z))) := by
    unfold eOk
    rw [hob]
    refine ⟨_, rfl, by rw [List.length_set]; exact k2, fun i f x hi hx => ?_⟩
    by_cases e : i = q.2.1
    · subst e
      rw [List.getElem?_set_self hl] at hx
      cases hx
      rw [hf] at hi
      cases hi
      exact ⟨z, rfl, hz⟩
    · rw [List.getElem?_set_ne (fun q => e q.symm)] at hx
      exact k3 i f x hi hx
  obtain ⟨p1, p2⟩ := cw_set hE hw hj w1 ho hE2 (fun cA n f he => by cases he) hno
  refine g_put B.2.2.1 hm hq hn w1 hl hfit (h _ p1 p2 (fun o3 i hh => ?_) ?_ (fun o3 t3 i g1 g2 => ?_))
  · rw [gcv_set w1]
    by_cases e : o3 = o
    · subst e
      rw [if_pos rfl, gcv_at w1]
      show (fs.set q.2.1 (.int z))[i]? = fs[i]?
      exact List.getElem?_set_ne (fun e => hh ⟨rfl, e.symm⟩)
    · rw [if_neg e]
  · rw [gcv_set w1, if_pos rfl]
    show (fs.set q.2.1 (.int z))[q.2.1]? = _
    exact List.getElem?_set_self hl
  · rw [gcv_set w1]
    by_cases e : o3 = o
    · subst e
      rw [if_pos rfl, gcv_at w1]
      rw [hE, ho] at g1
      cases g1
      show (fs.set q.2.1 (.int z))[i]? = fs[i]?
      exact List.getElem?_set_ne (fun e => g2 (t, q.2.1, q.2.1 + 1) List.mem_cons_self ⟨rfl, by show q.2.1 ≤ i; omega, by show i < q.2.1 + 1; omega⟩)
    · rw [if_neg e]
/-- an int's field, within its bounds -/
theorem cf_int {ws : va_W} (hE : zso E = zso0) (hw : wOk (zso E) (zad E) E.2.2.2.2.2.2.1 gST ws) {o t f : Nat} (ho : zso0[o]? = some t) {lo hi : Int} (hob : ∃ ob, gST t = some (.inl ob) ∧ ob.2[f]? = some (.inl (lo, hi))) : ∃ y : Int32, gcv ws o f = some (.int y) ∧ lo ≤ y.toInt ∧ y.toInt ≤ hi := by
  obtain ⟨a, e, g1, g2, g3⟩ := w0_at (ST := gST) (tys := E.2.2.2.2.2.2.1) ⟨hw.1, hw.2.1, fun o t q hq ht => (hw.2.2 o t q hq ht).1⟩ (o := o) (t := t) (by rw [hE]; exact ho)
  unfold eOk at g3
  obtain ⟨ob, hob, hf⟩ := hob
  rw [hob] at g3
  obtain ⟨fs, rfl, k1, k2⟩ := g3
  have x1 := List.getElem?_eq_getElem (show f < fs.length by rw [k1]; exact (List.getElem?_eq_some_iff.mp hf).1)
  obtain ⟨y, hy, h2⟩ := k2 _ _ _ hf x1
  rw [hy] at x1
  exact ⟨y, (gcv_at g1 f).trans x1, h2⟩
end CA
