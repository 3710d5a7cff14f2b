/-! THE WALKER, what its words mean: the machine's values, locals and cells that a walker's state stands for. -/
def eRl (ρ : Nat → Int32) (b : Nat) (ad : List Nat) (v : eV) (x : Value) : Prop := match v with
  | .inl n => x = .int (Int32.ofNat n)
  | .inr (.inl j) => x = .int (ρ j)
  | .inr (.inr (.inl o)) => ∃ a, ad[o]? = some a ∧ x = .ref a
  | .inr (.inr (.inr 0)) => ∃ z : Int32, x = .int z
  | .inr (.inr (.inr 1)) => x = .null
  | .inr (.inr (.inr 2)) => ∃ z : Int64, x = .long z
  | .inr (.inr (.inr (_ + 3))) => x = .ref b
theorem eRl_int {ρ : Nat → Int32} {b : Nat} {ad : List Nat} {v : eV} {x : Value} (h : eRl ρ b ad v x) (hi : eint v = true) : ∃ z : Int32, x = .int z := by
  rcases v with n | j | o | n
  · exact ⟨_, h⟩
  · exact ⟨_, h⟩
  · cases hi
  · match n, h, hi with
    | 0, h, _ => exact h
    | 1, _, hi => cases hi
    | 2, _, hi => cases hi
    | _ + 3, _, hi => cases hi
theorem eRl_ref {ρ : Nat → Int32} {b : Nat} {ad : List Nat} {v : eV} {x : Value} (h : eRl ρ b ad v x) (hi : eref v = true) : ∃ (o a : Nat), v = .inr (.inr (.inl o)) ∧ ad[o]? = some a ∧ x = .ref a := by
  rcases v with n | j | o | n
  · cases hi
  · cases hi
  · obtain ⟨a, h1, h2⟩ := h
    exact ⟨o, a, rfl, h1, h2⟩
  · match n, hi with
    | 0, hi => cases hi
    | _ + 1, hi => cases hi
theorem eRl_cat {ρ : Nat → Int32} {b : Nat} {ad : List Nat} {v : eV} {x : Value} (h : eRl ρ b ad v x) : x.category = ecat v := by
  rcases v with n | j | o | n
  · have h : x = .int (Int32.ofNat n) := h
    rw [h]; rfl
  · have h : x = .int (ρ j) := h
    rw [h]; rfl
  · obtain ⟨a, -, h⟩ := h
    rw [h]; rfl
  · match n, h with
    | 0, ⟨z, h⟩ => rw [h]; rfl
    | 1, h =>
      have h : x = .null := h
      rw [h]; rfl
    | 2, ⟨z, h⟩ => rw [h]; rfl
    | _ + 3, h =>
      have h : x = .ref b := h
      rw [h]; rfl
theorem eRl_more {ρ : Nat → Int32} {b : Nat} {ad ad2 : List Nat} (hm : ∀ (o a : Nat), ad[o]? = some a → ad2[o]? = some a) {v : eV} {x : Value} (h : eRl ρ b ad v x) : eRl ρ b ad2 v x := by
  rcases v with n | j | o | n
  · exact h
  · exact h
  · obtain ⟨a, h1, h2⟩ := h
    exact ⟨a, hm o a h1, h2⟩
  · match n, h with
    | 0, h => exact h
    | 1, h => exact h
    | 2, h => exact h
    | _ + 3, h => exact h
theorem eRl_any {ρ : Nat → Int32} {b : Nat} {ad : List Nat} (z : Int32) : eRl ρ b ad eT (.int z) := ⟨z, rfl⟩
def eRs (ρ : Nat → Int32) (b : Nat) (ad : List Nat) : List eV → List Value → Prop
  | [], [] => True
  | v :: vs, x :: xs => eRl ρ b ad v x ∧ eRs ρ b ad vs xs
  | _, _ => False
theorem eRs_cons {ρ : Nat → Int32} {b : Nat} {ad : List Nat} {v : eV} {vs : List eV} {xs : List Value} (h : eRs ρ b ad (v :: vs) xs) : ∃ (x : Value) (t : List Value), xs = x :: t ∧ eRl ρ b ad v x ∧ eRs ρ b ad vs t := by
  cases xs with
  | nil => exact absurd h id
  | cons x t => exact ⟨x, t, rfl, h.1, h.2⟩
theorem eRs_nil {ρ : Nat → Int32} {b : Nat} {ad : List Nat} {xs : List Value} (h : eRs ρ b ad [] xs) : xs = [] := by
  cases xs with
  | nil => rfl
  | cons x t => exact absurd h id
theorem eRs_more {ρ : Nat → Int32} {b : Nat} {ad ad2 : List Nat} (hm : ∀ (o a : Nat), ad[o]? = some a → ad2[o]? = some a) : ∀ {vs : List eV} {xs : List Value}, eRs ρ b ad vs xs → eRs ρ b ad2 vs xs
  | [], [], _ => trivial
  | _ :: _, _ :: _, h => ⟨eRl_more hm h.1, eRs_more hm h.2⟩
  | [], _ :: _, h => absurd h id
  | _ :: _, [], h => absurd h id
theorem eRs_get {ρ : Nat → Int32} {b : Nat} {ad : List Nat} : ∀ {vs : List eV} {xs : List Value} {k : Nat} {v : eV}, eRs ρ b ad vs xs → vs[k]? = some v → ∃ x, xs[k]? = some x ∧ eRl ρ b ad v x
  | [], [], _, _, _, h => by simp at h
  | v0 :: vs, x0 :: xs, 0, v, h, hk => by
    rw [List.getElem?_cons_zero] at hk
    cases hk
    exact ⟨x0, List.getElem?_cons_zero, h.1⟩
  | v0 :: vs, x0 :: xs, k + 1, v, h, hk => by
    rw [List.getElem?_cons_succ] at hk
    rw [List.getElem?_cons_succ]
    exact eRs_get h.2 hk
  | [], _ :: _, _, _, h, _ => absurd h id
  | _ :: _, [], _, _, h, _ => absurd h id
theorem eRs_set {ρ : Nat → Int32} {b : Nat} {ad : List Nat} {v : eV} {x : Value} (hr : eRl ρ b ad v x) : ∀ {vs : List eV} {xs : List Value} {k : Nat}, eRs ρ b ad vs xs → eRs ρ b ad (vs.set k v) (xs.set k x)
  | [], [], _, _ => trivial
  | _ :: _, _ :: _, 0, h => ⟨hr, h.2⟩
  | _ :: _, _ :: _, _ + 1, h => ⟨h.1, eRs_set hr h.2⟩
  | [], _ :: _, _, h => absurd h id
  | _ :: _, [], _, h => absurd h id
theorem eRs_len {ρ : Nat → Int32} {b : Nat} {ad : List Nat} : ∀ {vs : List eV} {xs : List Value}, eRs ρ b ad vs xs → vs.length = xs.length
  | [], [], _ => rfl
  | _ :: _, _ :: _, h => by rw [List.length_cons, List.length_cons, eRs_len h.2]
  | [], _ :: _, h => absurd h id
  | _ :: _, [], h => absurd h id
theorem eRs_cats {ρ : Nat → Int32} {b : Nat} {ad : List Nat} : ∀ {vs : List eV} {xs : List Value}, eRs ρ b ad vs xs → (xs.map fun v => v.category).sum = ecats vs
  | [], [], _ => rfl
  | v :: vs, x :: xs, h => by
    rw [List.map_cons, List.sum_cons, eRs_cats h.2, eRl_cat h.1]
    rfl
  | [], _ :: _, h => absurd h id
  | _ :: _, [], h => absurd h id
/-- locals -/
def eLs (ρ : Nat → Int32) (b : Nat) (ad : List Nat) : List (Nat × eV) → List (Nat × Value) → Prop
  | [], [] => True
  | q :: vs, x :: xs => (q.1 = x.1 ∧ eRl ρ b ad q.2 x.2) ∧ eLs ρ b ad vs xs
  | _, _ => False
theorem eLs_more {ρ : Nat → Int32} {b : Nat} {ad ad2 : List Nat} (hm : ∀ (o a : Nat), ad[o]? = some a → ad2[o]? = some a) : ∀ {vs : List (Nat × eV)} {xs : List (Nat × Value)}, eLs ρ b ad vs xs → eLs ρ b ad2 vs xs
  | [], [], _ => trivial
  | _ :: _, _ :: _, h => ⟨⟨h.1.1, eRl_more hm h.1.2⟩, eLs_more hm h.2⟩
  | [], _ :: _, h => absurd h id
  | _ :: _, [], h => absurd h id
theorem el_ok {ρ : Nat → Int32} {b : Nat} {ad : List Nat} {j : Nat} {v : eV} : ∀ {ls : List (Nat × eV)} {lv : List (Nat × Value)}, eLs ρ b ad ls lv → el ls j = some v → ∃ (k : Nat) (x : Value), lv[k]? = some (j, x) ∧ eRl ρ b ad v x
  | [], [], _, h => by cases h
  | q :: ls, x :: lv, h, he => by
    have he : (bif Nat.beq q.1 j then some q.2 else el ls j) = some v := he
    cases hb : Nat.beq q.1 j with
    | true =>
      rw [hb] at he
      have he : some q.2 = some v := he
      cases he
      refine ⟨0, x.2, ?_, h.1.2⟩
      rw [List.getElem?_cons_zero, ← Nat.eq_of_beq_eq_true hb, h.1.1]
    | false =>
      rw [hb] at he
      obtain ⟨k, y, h1, h2⟩ := el_ok h.2 he
      exact ⟨k + 1, y, by rw [List.getElem?_cons_succ]; exact h1, h2⟩
  | [], _ :: _, h, _ => absurd h id
  | _ :: _, [], h, _ => absurd h id
theorem elf_ok {ρ : Nat → Int32} {b : Nat} {ad : List Nat} {j : Nat} : ∀ {ls : List (Nat × eV)} {lv : List (Nat × Value)} {k : List (Nat × eV) → Bool}, eLs ρ b ad ls lv → elf j ls k = true → ∃ t, k t = true ∧ eLs ρ b ad t (lv.filter (fun q => !(q.1 == j) && !(q.1 + 1 == j && q.2.category == 2)))
  | [], [], k, _, h => ⟨[], h, trivial⟩
  | q :: ls, x :: lv, k, h, he => by
    have he : (bif Nat.beq q.1 j then elf j ls k else (bif elp j q then elf j ls (fun t => k (q :: t)) else elf j ls k)) = true := he
    have hp : (!(x.1 == j) && !(x.1 + 1 == j && x.2.category == 2)) = elp j q := by unfold elp; rw [h.1.1, eRl_cat h.1.2]
    rw [List.filter_cons, hp]
    cases hb : Nat.beq q.1 j with
    | true =>
      rw [hb] at he
      have h0 : elp j q = false := by unfold elp; rw [Nat.eq_of_beq_eq_true hb]; simp
      rw [h0]
      exact elf_ok h.2 he
    | false =>
      rw [hb] at he
      cases h0 : elp j q with
      | true =>
        rw [h0] at he
        obtain ⟨t, h1, h2⟩ := elf_ok h.2 he
        exact ⟨q :: t, h1, h.1, h2⟩
      | false =>
        rw [h0] at he
        exact elf_ok h.2 he
  | [], _ :: _, _, h, _ => absurd h id
  | _ :: _, [], _, h, _ => absurd h id
theorem eargs_ok {ρ : Nat → Int32} {b : Nat} {ad : List Nat} : ∀ {vs : List eV} {xs : List Value} (i : Nat), eRs ρ b ad vs xs → eLs ρ b ad (eargs vs i) (lv_args i xs)
  | [], [], _, _ => trivial
  | v :: vs, x :: xs, i, h => by
    refine ⟨⟨rfl, h.1⟩, ?_⟩
    have hc := eRl_cat h.1
    have e : (if x.category = 2 then i + 2 else i + 1) = i + ecat v := by
      rcases lv_cat x with q | q
      · rw [if_neg (by omega), ← hc, q]
      · rw [if_pos q, ← hc, q]
    show eLs ρ b ad (eargs vs (i + ecat v)) (lv_args (if x.category = 2 then i + 2 else i + 1) xs)
    rw [e]
    exact eargs_ok _ h.2
  | [], _ :: _, _, h => absurd h id
  | _ :: _, [], _, h => absurd h id
/-- an object's cell -/
def ekt (kd : Nat) : FieldType := match kd with
  | 0 => .int
  | 1 => .byte
  | _ => .boolean
def eKn (f : Nat → Int64) : List Nat → Prop
  | [] => True
  | v :: r => f r.length = Int64.ofNat v ∧ eKn f r
def eOb (ρ : Nat → Int32) (b : Nat) (cl : List vw_C) (ad : List Nat) (tys : List (ClassId × FieldType)) (x : eO) (e : va_E) : Prop := match x with
  | .inl ob => ∃ fs, e = .inr (ob.1, fs) ∧ eRs ρ b ad ob.2 fs
  | .inr (.inl ob) => (ob.1 < 3 ∧ ∃ (cA : ClassId) (f : Nat → Int32) (t0 : Nat), e = .inl (cA, ob.2.1, .inl f) ∧ tys[t0]? = some (cA, ekt ob.1) ∧ ∀ j, j < ob.2.1 → ∃ v, tg 32 ob.2.2 j = some v ∧ eRl ρ b ad v (.int (f j)))
    ∨ ∃ (ci : Nat) (r : vw_C) (cA : ClassId) (f : Nat → Option Nat) (t0 : Nat), ob.1 = 3 + ci ∧ cl[ci]? = some r ∧ e = .inl (cA, ob.2.1, .inr (.inr (.inr (.inr f)))) ∧ tys[t0]? = some (cA, .object r.1) ∧ ∀ j, j < ob.2.1 → ∃ v, tg 32 ob.2.2 j = some v ∧ eRl ρ b ad v (va_rf (f j))
  | .inr (.inr n) => ∃ (cA : ClassId) (f : Nat → Int64) (t0 : Nat), e = .inl (cA, n.1, .inr (.inl f)) ∧ tys[t0]? = some (cA, .long) ∧ eKn f n.2
theorem eOb_more {ρ : Nat → Int32} {b : Nat} {cl : List vw_C} {ad ad2 : List Nat} {tys tys2 : List (ClassId × FieldType)} (hm : ∀ (o a : Nat), ad[o]? = some a → ad2[o]? = some a) (ht : ∀ (t : Nat) (q : ClassId × FieldType), tys[t]? = some q → tys2[t]? = some q) {x : eO} {e : va_E} (h : eOb ρ b cl ad tys x e) : eOb ρ b cl ad2 tys2 x e := by
  rcases x with ob | ob | n
  · obtain ⟨fs, h1, h2⟩ := h
    exact ⟨fs, h1, eRs_more hm h2⟩
  · rcases h with ⟨h0, cA, f, t0, h1, h2, h3⟩ | ⟨ci, r, cA, f, t0, h0, h4, h1, h2, h3⟩
    · exact Or.inl ⟨h0, cA, f, t0, h1, ht _ _ h2, fun j hj => by obtain ⟨v, q1, q2⟩ := h3 j hj; exact ⟨v, q1, eRl_more hm q2⟩⟩
    · exact Or.inr ⟨ci, r, cA, f, t0, h0, h4, h1, ht _ _ h2, fun j hj => by obtain ⟨v, q1, q2⟩ := h3 j hj; exact ⟨v, q1, eRl_more hm q2⟩⟩
  · obtain ⟨cA, f, t0, h1, h2, h3⟩ := h
    exact ⟨cA, f, t0, h1, ht _ _ h2, h3⟩
def ead (ws : va_W) : List Nat := ws.map (fun q => q.1)
theorem ead_at {ws : va_W} {o a : Nat} : (ead ws)[o]? = some a ↔ ∃ e, ws[o]? = some (a, e) := by
  unfold ead
  rw [List.getElem?_map]
  constructor
  · intro h
    cases hq : ws[o]? with
    | none => rw [hq] at h; cases h
    | some q =>
      rw [hq] at h
      have h : q.1 = a := Option.some.inj h
      exact ⟨q.2, by rw [← h]⟩
  · rintro ⟨e, h⟩
    rw [h]; rfl
theorem ead_set {ws : va_W} {o a : Nat} {e0 e : va_E} (h : ws[o]? = some (a, e0)) : ead (ws.set o (a, e)) = ead ws := by
  apply List.ext_getElem?
  intro k
  unfold ead
  rw [List.getElem?_map, List.getElem?_map]
  have hl : o < ws.length := (List.getElem?_eq_some_iff.mp h).1
  by_cases hk : o = k
  · subst hk
    rw [List.getElem?_set_self hl, h]; rfl
  · rw [List.getElem?_set_ne hk]
theorem ead_app {ws : va_W} {q : Nat × va_E} {o a : Nat} (h : (ead ws)[o]? = some a) : (ead (ws ++ [q]))[o]? = some a := by
  obtain ⟨e, h⟩ := ead_at.mp h
  have hl : o < ws.length := (List.getElem?_eq_some_iff.mp h).1
  exact ead_at.mpr ⟨e, by rw [List.getElem?_append_left hl]; exact h⟩
def eMt (ρ : Nat → Int32) (b : Nat) (cl : List vw_C) (hp : eH) (nx : Nat) (ws : va_W) (tys : List (ClassId × FieldType)) : Prop := ws.length = nx ∧ ∀ (o : Nat) (q : Nat × va_E), ws[o]? = some q → ∃ x, hg hp o = some x ∧ eOb ρ b cl (ead ws) tys x q.2
/-- a cell is written -/
theorem eMt_set {ρ : Nat → Int32} {b : Nat} {cl : List vw_C} {hp hp2 : eH} {nx : Nat} {ws : va_W} {tys : List (ClassId × FieldType)} {o a : Nat} {e0 e : va_E} {x : eO} (h : eMt ρ b cl hp nx ws tys) (hw : ws[o]? = some (a, e0)) (hh : ∀ j, hg hp2 j = if j = o then some x else hg hp j) (hx : eOb ρ b cl (ead ws) tys x e) : eMt ρ b cl hp2 nx (ws.set o (a, e)) tys := by
  refine ⟨by rw [List.length_set]; exact h.1, fun j q hq => ?_⟩
  have hl : o < ws.length := (List.getElem?_eq_some_iff.mp hw).1
  rw [ead_set hw, hh j]
  by_cases hj : j = o
  · subst hj
    rw [List.getElem?_set_self hl] at hq
    cases hq
    exact ⟨x, if_pos rfl, hx⟩
  · rw [List.getElem?_set_ne (fun q => hj q.symm)] at hq
    rw [if_neg hj]
    exact h.2 j q hq
/-- a cell is made -/
theorem eMt_push {ρ : Nat → Int32} {b : Nat} {cl : List vw_C} {hp hp2 : eH} {nx : Nat} {ws : va_W} {tys tys2 : List (ClassId × FieldType)} {q0 : Nat} {e : va_E} {x : eO} (h : eMt ρ b cl hp nx ws tys) (ht : ∀ (t : Nat) (q : ClassId × FieldType), tys[t]? = some q → tys2[t]? = some q) (hh : ∀ j, hg hp2 j = if j = nx then some x else hg hp j) (hx : eOb ρ b cl (ead (ws ++ [(q0, e)])) tys2 x e) : eMt ρ b cl hp2 (nx + 1) (ws ++ [(q0, e)]) tys2 := by
  refine ⟨by rw [List.length_append, h.1]; rfl, fun j q hq => ?_⟩
  rw [hh j]
  by_cases hj : j = nx
  · rw [if_pos hj]
    rw [hj, ← h.1, List.getElem?_append_right (Nat.le_refl _), Nat.sub_self] at hq
    cases hq
    exact ⟨x, rfl, hx⟩
  · rw [if_neg hj]
    have hl : j < (ws ++ [(q0, e)]).length := (List.getElem?_eq_some_iff.mp hq).1
    rw [List.length_append, h.1] at hl
    have hl : j < ws.length := by rw [h.1]; simp at hl; omega
    rw [List.getElem?_append_left hl] at hq
    obtain ⟨y, h1, h2⟩ := h.2 j q hq
    exact ⟨y, h1, eOb_more (fun _ _ z => ead_app z) ht h2⟩
theorem eMt_at {ρ : Nat → Int32} {b : Nat} {cl : List vw_C} {hp : eH} {nx : Nat} {ws : va_W} {tys : List (ClassId × FieldType)} {o a : Nat} {x : eO} (h : eMt ρ b cl hp nx ws tys) (ha : (ead ws)[o]? = some a) (hx : hg hp o = some x) : ∃ e, ws[o]? = some (a, e) ∧ eOb ρ b cl (ead ws) tys x e := by
  obtain ⟨e, he⟩ := ead_at.mp ha
  obtain ⟨y, h1, h2⟩ := h.2 o _ he
  rw [hx] at h1
  cases h1
  exact ⟨e, he, h2⟩
