/-! THE CHECKER IS RIGHT: an instruction at a time. -/
section AG
variable (b base LS : Nat) (xs : Nat → Int32) (D : va_G) (cl : List vw_C) (tys : List (ClassId × FieldType)) (Tb : List Cond) (NF : State → Prop) (l : Launch) (CN : Nat → String) (so ad : List Nat) (ST : Nat → Option aS) (JL : List aJ) (md : aMd) (ws0 : va_W)
def aSc (mi : eM) (n : Nat) (ρ : Nat → Int) : Prop := mi.2.2.2.2.2.1 = 20 → 8 < n ∧ ρ 1 = (LS : Int) ∧ LS ≤ 3072 ∧ ∀ c : Nat, c < 6 → ρ (3 + c) = (xs (ρ 2 + (c : Int)).toNat).toInt
def aStp (mi : eM) (A : aA) (sp : List aT) (K : gK) (ce sl : Nat) (ρ : Nat → Int) (ρr : Nat → Nat) : Prop := ∀ T ∈ sp, tWf so ρr T ∧ cSat ρ T.2.2.1.1 T.2.2.1.2.1 ∧ rSat so ρr T.2.2.1.2.2.1 T.2.2.1.2.2.2.1 ∧ (∀ e ∈ T.2.2.1.2.2.2.2, e.1 < T.2.2.1.2.2.1 ∧ so[ρr e.1]? = some e.2.1 ∧ e.2.2.1.1 < T.2.2.1.1 ∧ vWf T.2.2.1.1 T.2.2.1.2.2.1 e.2.2.2)
  ∧ T.2.2.1.1 ≤ A.1 ∧ T.2.2.1.2.2.1 ≤ A.2.2.1 ∧ (∀ q, T.2.2.2.2.2.2 = some q → q.2.1.1 < A.1)
  ∧ ∀ (ρ2 : Nat → Int) (ρr2 : Nat → Nat) (lv : List (Nat × Value)) (st : List Value) (ws : va_W), aExt T.2.2.1.1 T.2.2.1.2.2.1 ρ ρr ρ2 ρr2 → tRel b so ad tys ST JL md ws0 ρ2 ρr2 T lv st ws → tRk ρ ρr2 T.2.2.2.2.2.2 lv ws → gG b base LS xs D cl tys Tb NF l CN mi T.1 lv st ws (ce + T.2.1.1) (sl + T.2.1.2) K
def aRt (ρ : Nat → Int) (ρr : Nat → Nat) (A : aA) (ret : Option aV) (rv : Option Value) : Prop := match ret, rv with
  | none, none => True
  | some v, some x => vRel b ad ρ ρr A.1 A.2.2.1 v x
  | _, _ => False
def aKok (k : aK) (K : gK) (A : aA) (ρ : Nat → Int) (ρr : Nat → Nat) : Prop := ∀ (ret : Option aV) (A2 : aA), k ret A2 = true → ∀ (ρ2 : Nat → Int) (ρr2 : Nat → Nat) (ws : va_W) (rv : Option Value), aUp A ρ ρr A2 ρ2 ρr2 → aRel b so ad tys ST JL ρ2 ρr2 md ws0 A2 ws → aRt b ad ρ2 ρr2 A2 ret rv → K rv ws
def aCx (mi : eM) (cd : List eI) (A : aA) (sp : List aT) (k : aK) (K : gK) (ce sl : Nat) (ρ : Nat → Int) (ρr : Nat → Nat) (ws : va_W) : Prop := ((∀ q ∈ cd, q ∈ mi.2.2.2.2.2.2) ∧ ∀ q ∈ mi.2.2.2.2.2.2, elen q.2.1 q.2.2 = true) ∧ (ce + acpc mi ≤ mi.2.1 ∧ sl + 6 * acpc mi ≤ mi.2.2.1) ∧ aSc LS xs mi A.1 ρ ∧ aRel b so ad tys ST JL ρ ρr md ws0 A ws ∧ aStp b base LS xs D cl tys Tb NF l CN so ad ST JL md ws0 mi A sp K ce sl ρ ρr ∧ aKok b tys so ad ST JL md ws0 k K A ρ ρr
def aGl (mi : eM) (pc : Nat) (cd : List eI) (ls : List (Nat × aV)) (st : List aV) (A : aA) (ac as : Nat) (sp : List aT) (k : aK) : Prop := ∀ (K : gK) (ce sl : Nat) (ρ : Nat → Int) (ρr : Nat → Nat) (lv : List (Nat × Value)) (stA : List Value) (ws : va_W), aCx b base LS xs D cl tys Tb NF l CN so ad ST JL md ws0 mi cd A sp k K ce sl ρ ρr ws → lRel b ad ρ ρr A.1 A.2.2.1 ls lv → sRel b ad ρ ρr A.1 A.2.2.1 st stA → gG b base LS xs D cl tys Tb NF l CN mi pc lv stA ws (ce + ac) (sl + as) K
def aSn (ih : aRn) : Prop := ∀ (mi : eM) (xt : aXt) (pc : Nat) (cd : List eI) (ls : List (Nat × aV)) (st : List aV) (A : aA) (ac as : Nat) (sp : List aT) (k : aK), ih mi xt pc cd ls st A ac as sp k = true → aGl b base LS xs D cl tys Tb NF l CN so ad ST JL md ws0 mi pc cd ls st A ac as sp k
/-- a handler that is right for its instruction -/
def aHs (h : aHd) (i : Instr) (len : Nat) : Prop := ∀ (ih : aRn), aSn b base LS xs D cl tys Tb NF l CN so ad ST JL md ws0 ih → ∀ (mi : eM) (xt : aXt) (pc : Nat) (cd : List eI) (ls : List (Nat × aV)) (st : List aV) (A : aA) (ac as : Nat) (sp : List aT) (k : aK), h ih mi xt pc cd ls st A ac as sp k = true →
  ∀ (K : gK) (ce sl : Nat) (ρ : Nat → Int) (ρr : Nat → Nat) (lv : List (Nat × Value)) (stA : List Value) (ws : va_W), (pc, i, len) ∈ mi.2.2.2.2.2.2 → aCx b base LS xs D cl tys Tb NF l CN so ad ST JL md ws0 mi cd A sp k K ce sl ρ ρr ws → lRel b ad ρ ρr A.1 A.2.2.1 ls lv → sRel b ad ρ ρr A.1 A.2.2.1 st stA → gG b base LS xs D cl tys Tb NF l CN mi pc lv stA ws (ce + ac) (sl + as) K
end AG
section AI1
variable {b base LS : Nat} {xs : Nat → Int32} {D : va_G} {cl : List vw_C} {tys : List (ClassId × FieldType)} {Tb : List Cond} {NF : State → Prop} {l : Launch} {CN : Nat → String} {so ad : List Nat} {ST : Nat → Option aS} {JL : List aJ} {md : aMd} {ws0 : va_W}
theorem tWf_ext {ρr ρr2 : Nat → Nat} {T : aT} (h : ∀ r, r < T.2.2.1.2.2.1 → ρr2 r = ρr r) (hw : tWf so ρr T) : tWf so ρr2 T := ⟨hw.1, hw.2.1, fun q hq => by
  obtain ⟨g1, g2, g3⟩ := hw.2.2 q hq
  exact ⟨g1, by rw [h _ g1]; exact g2, g3⟩⟩
theorem aStp_up {mi : eM} {A A2 : aA} {sp : List aT} {K : gK} {ce sl : Nat} {ρ ρ2 : Nat → Int} {ρr ρr2 : Nat → Nat} (u : aUp A ρ ρr A2 ρ2 ρr2) (h : aStp b base LS xs D cl tys Tb NF l CN so ad ST JL md ws0 mi A sp K ce sl ρ ρr) : aStp b base LS xs D cl tys Tb NF l CN so ad ST JL md ws0 mi A2 sp K ce sl ρ2 ρr2 := by
  intro T hT
  obtain ⟨h1, h2, h3, h4, h5, h6, h7, h8⟩ := h T hT
  have hn : ∀ k, k < T.2.2.1.1 → ρ2 k = ρ k := fun k hk => u.2.2.1 k (Nat.lt_of_lt_of_le hk h5)
  have hr : ∀ r, r < T.2.2.1.2.2.1 → ρr2 r = ρr r := fun r hr => u.2.2.2 r (Nat.lt_of_lt_of_le hr h6)
  refine ⟨tWf_ext hr h1, cSat_ext hn h2, rSat_ext hr h3, fun e he => ?_, Nat.le_trans h5 u.1, Nat.le_trans h6 u.2.1, fun q hq => Nat.lt_of_lt_of_le (h7 q hq) u.1, fun ρ3 ρr3 lv st ws he ht hk => ?_⟩
  · obtain ⟨g1, g2, g3, g4⟩ := h4 e he
    exact ⟨g1, by rw [hr _ g1]; exact g2, g3, g4⟩
  · refine h8 ρ3 ρr3 lv st ws ⟨fun k hk => by rw [he.1 k hk, hn k hk], fun r hrr => by rw [he.2 r hrr, hr r hrr]⟩ ht ?_
    cases hq : T.2.2.2.2.2.2 with
    | none => trivial
    | some q =>
      rw [hq] at hk
      obtain ⟨z, k1, k2⟩ := hk
      refine ⟨z, k1, ?_⟩
      rw [← u.2.2.1 _ (h7 q hq)]
      exact k2
theorem aCx_up {mi : eM} {cd : List eI} {A A2 : aA} {sp : List aT} {k : aK} {K : gK} {ce sl : Nat} {ρ ρ2 : Nat → Int} {ρr ρr2 : Nat → Nat} {ws ws2 : va_W} (X : aCx b base LS xs D cl tys Tb NF l CN so ad ST JL md ws0 mi cd A sp k K ce sl ρ ρr ws) (u : aUp A ρ ρr A2 ρ2 ρr2) (hR : aRel b so ad tys ST JL ρ2 ρr2 md ws0 A2 ws2) : aCx b base LS xs D cl tys Tb NF l CN so ad ST JL md ws0 mi cd A2 sp k K ce sl ρ2 ρr2 ws2 := by
  obtain ⟨x1, x2, x3, x4, x5, x6⟩ := X
  refine ⟨x1, x2, fun q => ?_, hR, aStp_up u x5, fun ret A3 hk ρ3 ρr3 ws rv u2 hR3 hrt => x6 ret A3 hk ρ3 ρr3 ws rv (u.trans u2) hR3 hrt⟩
  obtain ⟨g1, g2, g3, g4⟩ := x3 q
  refine ⟨Nat.lt_of_lt_of_le g1 u.1, by rw [u.2.2.1 1 (by omega)]; exact g2, g3, fun c hc => ?_⟩
  rw [u.2.2.1 (3 + c) (by omega), u.2.2.1 2 (by omega)]
  exact g4 c hc
theorem aCx_cd {mi : eM} {cd cd2 : List eI} {A : aA} {sp : List aT} {k : aK} {K : gK} {ce sl : Nat} {ρ : Nat → Int} {ρr : Nat → Nat} {ws : va_W} (X : aCx b base LS xs D cl tys Tb NF l CN so ad ST JL md ws0 mi cd A sp k K ce sl ρ ρr ws) (h : ∀ q ∈ cd2, q ∈ mi.2.2.2.2.2.2) : aCx b base LS xs D cl tys Tb NF l CN so ad ST JL md ws0 mi cd2 A sp k K ce sl ρ ρr ws := ⟨⟨h, X.1.2⟩, X.2⟩
/-- behind a step that makes a value -/
theorem a_got {ih : aRn} (IH : aSn b base LS xs D cl tys Tb NF l CN so ad ST JL md ws0 ih) {mi : eM} {xt : aXt} {pc : Nat} {cd : List eI} {ls : List (Nat × aV)} {r : List aV} {A : aA} {ac as : Nat} {sp : List aT} {k : aK} {K : gK} {ce sl : Nat} {ρ : Nat → Int} {ρr : Nat → Nat} {lv : List (Nat × Value)} {t : List Value} {ws : va_W} {x : Value}
    (X : aCx b base LS xs D cl tys Tb NF l CN so ad ST JL md ws0 mi cd A sp k K ce sl ρ ρr ws) (hl : lRel b ad ρ ρr A.1 A.2.2.1 ls lv) (hs : sRel b ad ρ ρr A.1 A.2.2.1 r t) (h : aGot b so ad tys ST JL md ws0 ws A ρ ρr (fun v A => ih mi xt pc cd ls (v :: r) A ac as sp k) x) : gG b base LS xs D cl tys Tb NF l CN mi pc lv (x :: t) ws (ce + ac) (sl + as) K := by
  obtain ⟨v, A2, ρ2, ρr2, g1, g2, g3, g4⟩ := h
  exact IH _ _ _ _ _ _ _ _ _ _ _ g1 K ce sl ρ2 ρr2 lv _ ws (aCx_up X g2 g3) (lRel_up g2.1 g2.2.1 g2.2.2 hl) ⟨g4, sRel_up g2.1 g2.2.1 g2.2.2 hs⟩
/-- .. that only learns -/
theorem a_cut {ih : aRn} (IH : aSn b base LS xs D cl tys Tb NF l CN so ad ST JL md ws0 ih) {mi : eM} {xt : aXt} {pc : Nat} {cd : List eI} {ls : List (Nat × aV)} {r : List aV} {A : aA} {ac as : Nat} {sp : List aT} {k : aK} {K : gK} {ce sl : Nat} {ρ : Nat → Int} {ρr : Nat → Nat} {lv : List (Nat × Value)} {t : List Value} {ws : va_W}
    (X : aCx b base LS xs D cl tys Tb NF l CN so ad ST JL md ws0 mi cd A sp k K ce sl ρ ρr ws) (hl : lRel b ad ρ ρr A.1 A.2.2.1 ls lv) (hs : sRel b ad ρ ρr A.1 A.2.2.1 r t) (h : aCut b so ad tys ST JL md ws0 ws A ρ ρr (fun A => ih mi xt pc cd ls r A ac as sp k)) : gG b base LS xs D cl tys Tb NF l CN mi pc lv t ws (ce + ac) (sl + as) K := by
  obtain ⟨A2, g1, g2, g3, g4⟩ := h
  have u : aUp A ρ ρr A2 ρ ρr := aCut.up g2 g3
  exact IH _ _ _ _ _ _ _ _ _ _ _ g1 K ce sl ρ ρr lv _ ws (aCx_up X u g4) (lRel_up u.1 u.2.1 u.2.2 hl) (sRel_up u.1 u.2.1 u.2.2 hs)
theorem k_load {j len : Nat} {i : Instr} (hi : (i = .iload j ∧ len = 2) ∨ ∃ f : Fin 4, f.val = j ∧ i = .iload_n f ∧ len = 1) : aHs b base LS xs D cl tys Tb NF l CN so ad ST JL md ws0 (kLoad len j) i len := by
  intro ih IH mi xt pc cd ls st A ac as sp k h K ce sl ρ ρr lv stA ws hm X hl hs
  unfold kLoad at h
  split at h
  · rename_i x hx
    obtain ⟨y, g1, g2⟩ := hl _ (al_mem hx)
    obtain ⟨z, rfl, e⟩ := vRel_int g2
    exact g_iload hi hm g1 (IH _ _ _ _ _ _ _ _ _ _ _ h K ce sl ρ ρr lv _ ws X hl ⟨g2, hs⟩)
  · cases h
theorem k_loadr {j len : Nat} {i : Instr} (hi : (i = .aload j ∧ len = 2) ∨ ∃ f : Fin 4, f.val = j ∧ i = .aload_n f ∧ len = 1) : aHs b base LS xs D cl tys Tb NF l CN so ad ST JL md ws0 (kLoadr len j) i len := by
  intro ih IH mi xt pc cd ls st A ac as sp k h K ce sl ρ ρr lv stA ws hm X hl hs
  unfold kLoadr at h
  split at h
  · rename_i r hx
    obtain ⟨y, g1, g2⟩ := hl _ (al_mem hx)
    obtain ⟨g3, a, g4, rfl⟩ := g2
    exact g_aload hi hm g1 (IH _ _ _ _ _ _ _ _ _ _ _ h K ce sl ρ ρr lv _ ws X hl ⟨⟨g3, a, g4, rfl⟩, hs⟩)
  · rename_i hx
    obtain ⟨y, g1, g2⟩ := hl _ (al_mem hx)
    have g2 : y = .ref b := g2
    subst g2
    exact g_aload hi hm g1 (IH _ _ _ _ _ _ _ _ _ _ _ h K ce sl ρ ρr lv _ ws X hl ⟨rfl, hs⟩)
  · cases h
theorem k_lloa {f : Fin 4} : aHs b base LS xs D cl tys Tb NF l CN so ad ST JL md ws0 (kLloa f.val) (.lload_n f) 1 := by
  intro ih IH mi xt pc cd ls st A ac as sp k h K ce sl ρ ρr lv stA ws hm X hl hs
  unfold kLloa at h
  split at h
  · rename_i hx
    obtain ⟨y, g1, z, rfl⟩ := hl _ (al_mem hx)
    exact g_lload hm g1 (IH _ _ _ _ _ _ _ _ _ _ _ h K ce sl ρ ρr lv _ ws X hl ⟨⟨z, rfl⟩, hs⟩)
  · cases h
theorem k_stor {j len : Nat} {i : Instr} (hi : (i = .istore j ∧ len = 2) ∨ ∃ f : Fin 4, f.val = j ∧ i = .istore_n f ∧ len = 1) : aHs b base LS xs D cl tys Tb NF l CN so ad ST JL md ws0 (kStor len j false) i len := by
  intro ih IH mi xt pc cd ls st A ac as sp k h K ce sl ρ ρr lv stA ws hm X hl hs
  unfold kStor at h
  split at h
  · rename_i x r
    rw [cond_false, alf_eq] at h
    obtain ⟨y, t, rfl, g1, g2⟩ := sRel_cons hs
    obtain ⟨z, rfl, e⟩ := vRel_int g1
    exact g_istore hi hm (IH _ _ _ _ _ _ _ _ _ _ _ h K ce sl ρ ρr _ _ ws X (lRel_st hl g1) g2)
  · cases h
  · cases h
theorem k_storr {j len : Nat} {i : Instr} (hi : (i = .astore j ∧ len = 2) ∨ ∃ f : Fin 4, f.val = j ∧ i = .astore_n f ∧ len = 1) : aHs b base LS xs D cl tys Tb NF l CN so ad ST JL md ws0 (kStor len j true) i len := by
  intro ih IH mi xt pc cd ls st A ac as sp k h K ce sl ρ ρr lv stA ws hm X hl hs
  unfold kStor at h
  split at h
  · cases h
  · rename_i x r
    rw [cond_true, alf_eq] at h
    obtain ⟨y, t, rfl, g1, g2⟩ := sRel_cons hs
    obtain ⟨g3, a, g4, rfl⟩ := g1
    exact g_astore hi hm (IH _ _ _ _ _ _ _ _ _ _ _ h K ce sl ρ ρr _ _ ws X (lRel_st hl ⟨g3, a, g4, rfl⟩) g2)
  · cases h
theorem k_lsto {f : Fin 4} : aHs b base LS xs D cl tys Tb NF l CN so ad ST JL md ws0 (kLsto f.val) (.lstore_n f) 1 := by
  intro ih IH mi xt pc cd ls st A ac as sp k h K ce sl ρ ρr lv stA ws hm X hl hs
  unfold kLsto at h
  split at h
  · rename_i r
    rw [alf_eq] at h
    obtain ⟨y, t, rfl, ⟨z, rfl⟩, g2⟩ := sRel_cons hs
    exact g_lstore hm (IH _ _ _ _ _ _ _ _ _ _ _ h K ce sl ρ ρr _ _ ws X (lRel_st2 hl ⟨z, rfl⟩) g2)
  · cases h
theorem i_ofInt {n : Int} (h : irg n n = true) : (Int32.ofInt n).toInt = n := by
  rw [irg_iff] at h
  exact Int32.toInt_ofInt_of_le (by omega) (by omega)
theorem v_const {A : aA} {ρ : Nat → Int} {ρr : Nat → Nat} {ws : va_W} (hR : aRel b so ad tys ST JL ρ ρr md ws0 A ws) {n : Int} {z : Int32} (h : z.toInt = n) : vRel b ad ρ ρr A.1 A.2.2.1 (.inl (0, n)) (.int z) := ⟨hR.1.1, z, rfl, by show z.toInt = ρ 0 + n; rw [hR.1.2.2.1, h, Int.zero_add]⟩
theorem k_iconst {n : Int} : aHs b base LS xs D cl tys Tb NF l CN so ad ST JL md ws0 (kPush 1 n) (.iconst n) 1 := by
  intro ih IH mi xt pc cd ls st A ac as sp k h K ce sl ρ ρr lv stA ws hm X hl hs
  obtain ⟨h1, h⟩ := e_cond h e_ff
  exact g_iconst hm (IH _ _ _ _ _ _ _ _ _ _ _ h K ce sl ρ ρr lv _ ws X hl ⟨v_const X.2.2.2.1 (i_ofInt h1), hs⟩)
theorem k_bipush {n : Int} : aHs b base LS xs D cl tys Tb NF l CN so ad ST JL md ws0 (kPush 2 n) (.bipush n) 2 := by
  intro ih IH mi xt pc cd ls st A ac as sp k h K ce sl ρ ρr lv stA ws hm X hl hs
  obtain ⟨h1, h⟩ := e_cond h e_ff
  exact g_bipush hm (IH _ _ _ _ _ _ _ _ _ _ _ h K ce sl ρ ρr lv _ ws X hl ⟨v_const X.2.2.2.1 (i_ofInt h1), hs⟩)
theorem k_sipush {n : Int} : aHs b base LS xs D cl tys Tb NF l CN so ad ST JL md ws0 (kPush 3 n) (.sipush n) 3 := by
  intro ih IH mi xt pc cd ls st A ac as sp k h K ce sl ρ ρr lv stA ws hm X hl hs
  obtain ⟨h1, h⟩ := e_cond h e_ff
  exact g_sipush hm (IH _ _ _ _ _ _ _ _ _ _ _ h K ce sl ρ ρr lv _ ws X hl ⟨v_const X.2.2.2.1 (i_ofInt h1), hs⟩)
theorem k_lcon {n : Fin 2} : aHs b base LS xs D cl tys Tb NF l CN so ad ST JL md ws0 kLcon (.lconst n) 1 := by
  intro ih IH mi xt pc cd ls st A ac as sp k h K ce sl ρ ρr lv stA ws hm X hl hs
  exact g_lconst hm (fun z => IH _ _ _ _ _ _ _ _ _ _ _ h K ce sl ρ ρr lv _ ws X hl ⟨⟨z, rfl⟩, hs⟩)
theorem k_long {KL : Nat → Nat → Option Nat} (hK : eJOK Tb CN KL) {idx : Nat} : aHs b base LS xs D cl tys Tb NF l CN so ad ST JL md ws0 (kLong KL idx) (.ldc2_w idx) 3 := by
  intro ih IH mi xt pc cd ls st A ac as sp k h K ce sl ρ ρr lv stA ws hm X hl hs
  unfold kLong at h
  split at h
  · rename_i n hn
    exact g_ldc2 hK hm hn (fun z => IH _ _ _ _ _ _ _ _ _ _ _ h K ce sl ρ ρr lv _ ws X hl ⟨⟨z, rfl⟩, hs⟩)
  · cases h
theorem k_ldc {KI : Nat → Nat → Option Nat} (hK : eKOK Tb CN KI) {idx len : Nat} {i : Instr} (hi : (i = .ldc idx ∧ len = 2) ∨ (i = .ldc_w idx ∧ len = 3)) : aHs b base LS xs D cl tys Tb NF l CN so ad ST JL md ws0 (kLdc KI len idx) i len := by
  intro ih IH mi xt pc cd ls st A ac as sp k h K ce sl ρ ρr lv stA ws hm X hl hs
  unfold kLdc at h
  split at h
  · rename_i n hn
    exact g_ldc hK hi hm hn (IH _ _ _ _ _ _ _ _ _ _ _ h K ce sl ρ ρr lv _ ws X hl ⟨v_const X.2.2.2.1 (e_sg n), hs⟩)
  · cases h
theorem k_inc {j : Nat} {n : Int} : aHs b base LS xs D cl tys Tb NF l CN so ad ST JL md ws0 (kInc j n) (.iinc j n) 3 := by
  intro ih IH mi xt pc cd ls st A ac as sp k h K ce sl ρ ρr lv stA ws hm X hl hs
  unfold kInc at h
  split at h
  · rename_i x hx
    obtain ⟨h1, h⟩ := e_cond h e_ff
    obtain ⟨y, g1, g2⟩ := hl _ (al_mem hx)
    obtain ⟨g3, z, rfl, e⟩ := g2
    have hR := X.2.2.2.1
    obtain ⟨v, A2, ρ2, ρr2, k1, k2, k3, k4⟩ := aadd_ok hR g3 (show (0, n).1 < A.1 from hR.1.1) e (show (Int32.ofInt n).toInt = ρ 0 + n by rw [i_ofInt h1, hR.1.2.2.1, Int.zero_add]) h
    dsimp only at k1 k4
    rw [alf_eq] at k1
    exact g_iinc hm g1 (IH _ _ _ _ _ _ _ _ _ _ _ k1 K ce sl ρ2 ρr2 _ _ ws (aCx_up X k2 k3) (lRel_st (lRel_up k2.1 k2.2.1 k2.2.2 hl) k4) (sRel_up k2.1 k2.2.1 k2.2.2 hs))
  · cases h
theorem k_bin {f : aO} {op : Int32 → Int32 → Int32} {i : Instr} (ho : aOk f op)
    (hg : ∀ {mi : eM} {pc : Nat} {lv : List (Nat × Value)} {st : List Value} {ws : va_W} {ce sl : Nat} {K : gK} {z1 z2 : Int32}, (pc, i, 1) ∈ mi.2.2.2.2.2.2 → gG b base LS xs D cl tys Tb NF l CN mi (pc + 1) lv (.int (op z1 z2) :: st) ws ce sl K → gG b base LS xs D cl tys Tb NF l CN mi pc lv (.int z2 :: .int z1 :: st) ws ce sl K) : aHs b base LS xs D cl tys Tb NF l CN so ad ST JL md ws0 (kBin f) i 1 := by
  intro ih IH mi xt pc cd ls st A ac as sp k h K ce sl ρ ρr lv stA ws hm X hl hs
  unfold kBin at h
  split at h
  · rename_i y x r
    obtain ⟨yA, t0, rfl, g1, g2⟩ := sRel_cons hs
    obtain ⟨xA, t, rfl, g3, g4⟩ := sRel_cons g2
    obtain ⟨q1, z2, rfl, e2⟩ := g1
    obtain ⟨q2, z1, rfl, e1⟩ := g3
    exact hg hm (a_got IH X hl g4 (ho X.2.2.2.1 q2 q1 e1 e2 h))
  · cases h
theorem k_rem : aHs b base LS xs D cl tys Tb NF l CN so ad ST JL md ws0 (kBin arem) .irem 1 := by
  intro ih IH mi xt pc cd ls st A ac as sp k h K ce sl ρ ρr lv stA ws hm X hl hs
  unfold kBin at h
  split at h
  · rename_i y x r
    obtain ⟨yA, t0, rfl, g1, g2⟩ := sRel_cons hs
    obtain ⟨xA, t, rfl, g3, g4⟩ := sRel_cons g2
    obtain ⟨q1, z2, rfl, e2⟩ := g1
    obtain ⟨q2, z1, rfl, e1⟩ := g3
    obtain ⟨hn, hg⟩ := arem_ok X.2.2.2.1 e1 e2 h
    exact g_irem hm hn (a_got IH X hl g4 hg)
  · cases h
theorem k_div : aHs b base LS xs D cl tys Tb NF l CN so ad ST JL md ws0 (kBin adiv) .idiv 1 := by
  intro ih IH mi xt pc cd ls st A ac as sp k h K ce sl ρ ρr lv stA ws hm X hl hs
  unfold kBin at h
  split at h
  · rename_i y x r
    obtain ⟨yA, t0, rfl, g1, g2⟩ := sRel_cons hs
    obtain ⟨xA, t, rfl, g3, g4⟩ := sRel_cons g2
    obtain ⟨q1, z2, rfl, e2⟩ := g1
    obtain ⟨q2, z1, rfl, e1⟩ := g3
    obtain ⟨hn, hg⟩ := adiv_ok (z1 := z1) X.2.2.2.1 e2 h
    exact g_idiv hm hn (a_got IH X hl g4 hg)
  · cases h
theorem i_i2b (z : Int32) : -128 ≤ z.toInt8.toInt32.toInt ∧ z.toInt8.toInt32.toInt ≤ 127 := by
  rw [Int8.toInt_toInt32]
  have h1 := z.toInt8.le_toInt
  have h2 := z.toInt8.toInt_lt
  omega
theorem k_i2b : aHs b base LS xs D cl tys Tb NF l CN so ad ST JL md ws0 kI2b .i2b 1 := by
  intro ih IH mi xt pc cd ls st A ac as sp k h K ce sl ρ ρr lv stA ws hm X hl hs
  unfold kI2b at h
  split at h
  · rename_i x r
    obtain ⟨xA, t, rfl, g1, g2⟩ := sRel_cons hs
    obtain ⟨q1, z, rfl, e⟩ := g1
    have hb := i_i2b z
    exact g_i2b hm (a_got IH X hl g2 (anew_0 X.2.2.2.1 h hb.1 hb.2 hb.1))
  · cases h
theorem k_i2l : aHs b base LS xs D cl tys Tb NF l CN so ad ST JL md ws0 kI2l .i2l 1 := by
  intro ih IH mi xt pc cd ls st A ac as sp k h K ce sl ρ ρr lv stA ws hm X hl hs
  unfold kI2l at h
  split at h
  · rename_i x r
    obtain ⟨xA, t, rfl, g1, g2⟩ := sRel_cons hs
    obtain ⟨q1, z, rfl, e⟩ := g1
    exact g_i2l hm (fun z => IH _ _ _ _ _ _ _ _ _ _ _ h K ce sl ρ ρr lv _ ws X hl ⟨⟨z, rfl⟩, g2⟩)
  · cases h
theorem k_lbin {i : Instr} (hg : ∀ {mi : eM} {pc : Nat} {lv : List (Nat × Value)} {st : List Value} {ws : va_W} {ce sl : Nat} {K : gK} {z1 z2 : Int64}, (pc, i, 1) ∈ mi.2.2.2.2.2.2 → (∀ z : Int64, gG b base LS xs D cl tys Tb NF l CN mi (pc + 1) lv (.long z :: st) ws ce sl K) → gG b base LS xs D cl tys Tb NF l CN mi pc lv (.long z2 :: .long z1 :: st) ws ce sl K) : aHs b base LS xs D cl tys Tb NF l CN so ad ST JL md ws0 kLbin i 1 := by
  intro ih IH mi xt pc cd ls st A ac as sp k h K ce sl ρ ρr lv stA ws hm X hl hs
  unfold kLbin at h
  split at h
  · rename_i r
    obtain ⟨yA, t0, rfl, ⟨z2, rfl⟩, g2⟩ := sRel_cons hs
    obtain ⟨xA, t, rfl, ⟨z1, rfl⟩, g4⟩ := sRel_cons g2
    exact hg hm (fun z => IH _ _ _ _ _ _ _ _ _ _ _ h K ce sl ρ ρr lv _ ws X hl ⟨⟨z, rfl⟩, g4⟩)
  · cases h
theorem k_lshl : aHs b base LS xs D cl tys Tb NF l CN so ad ST JL md ws0 kLshl .lshl 1 := by
  intro ih IH mi xt pc cd ls st A ac as sp k h K ce sl ρ ρr lv stA ws hm X hl hs
  unfold kLshl at h
  split at h
  · rename_i y r
    obtain ⟨yA, t0, rfl, ⟨q1, z2, rfl, e2⟩, g2⟩ := sRel_cons hs
    obtain ⟨xA, t, rfl, ⟨z1, rfl⟩, g4⟩ := sRel_cons g2
    exact g_lshl hm (fun z => IH _ _ _ _ _ _ _ _ _ _ _ h K ce sl ρ ρr lv _ ws X hl ⟨⟨z, rfl⟩, g4⟩)
  · cases h
theorem k_lcmp : aHs b base LS xs D cl tys Tb NF l CN so ad ST JL md ws0 kLcmp .lcmp 1 := by
  intro ih IH mi xt pc cd ls st A ac as sp k h K ce sl ρ ρr lv stA ws hm X hl hs
  unfold kLcmp at h
  split at h
  · rename_i r
    obtain ⟨yA, t0, rfl, ⟨z2, rfl⟩, g2⟩ := sRel_cons hs
    obtain ⟨xA, t, rfl, ⟨z1, rfl⟩, g4⟩ := sRel_cons g2
    exact g_lcmp hm (fun z => a_got IH X hl g4 (aany_v X.2.2.2.1 h z))
  · cases h
theorem k_dup : aHs b base LS xs D cl tys Tb NF l CN so ad ST JL md ws0 kDup .dup 1 := by
  intro ih IH mi xt pc cd ls st A ac as sp k h K ce sl ρ ρr lv stA ws hm X hl hs
  unfold kDup at h
  split at h
  · rename_i x r
    obtain ⟨h1, h⟩ := e_cond h e_ff
    obtain ⟨xA, t, rfl, g1, g2⟩ := sRel_cons hs
    exact g_dup hm (by rw [vRel_cat g1]; exact Nat.eq_of_beq_eq_true h1) (IH _ _ _ _ _ _ _ _ _ _ _ h K ce sl ρ ρr lv _ ws X hl ⟨g1, g1, g2⟩)
  · cases h
theorem k_pop : aHs b base LS xs D cl tys Tb NF l CN so ad ST JL md ws0 kPop .pop 1 := by
  intro ih IH mi xt pc cd ls st A ac as sp k h K ce sl ρ ρr lv stA ws hm X hl hs
  unfold kPop at h
  split at h
  · rename_i x r
    obtain ⟨h1, h⟩ := e_cond h e_ff
    obtain ⟨xA, t, rfl, g1, g2⟩ := sRel_cons hs
    exact g_pop hm (by rw [vRel_cat g1]; exact Nat.eq_of_beq_eq_true h1) (IH _ _ _ _ _ _ _ _ _ _ _ h K ce sl ρ ρr lv _ ws X hl g2)
  · cases h
theorem k_dup2 : aHs b base LS xs D cl tys Tb NF l CN so ad ST JL md ws0 kDup2 .dup2 1 := by
  intro ih IH mi xt pc cd ls st A ac as sp k h K ce sl ρ ρr lv stA ws hm X hl hs
  unfold kDup2 at h
  split at h
  · rename_i y x r
    obtain ⟨h1, h⟩ := e_cond h e_ff
    rw [Bool.and_eq_true] at h1
    obtain ⟨yA, t0, rfl, g1, g2⟩ := sRel_cons hs
    obtain ⟨xA, t, rfl, g3, g4⟩ := sRel_cons g2
    exact g_dup2 hm (by rw [vRel_cat g1]; exact Nat.eq_of_beq_eq_true h1.1) (by rw [vRel_cat g3]; exact Nat.eq_of_beq_eq_true h1.2) (IH _ _ _ _ _ _ _ _ _ _ _ h K ce sl ρ ρr lv _ ws X hl ⟨g1, g3, g1, g3, g4⟩)
  · cases h
theorem k_dupx : aHs b base LS xs D cl tys Tb NF l CN so ad ST JL md ws0 kDupx .dup_x1 1 := by
  intro ih IH mi xt pc cd ls st A ac as sp k h K ce sl ρ ρr lv stA ws hm X hl hs
  unfold kDupx at h
  split at h
  · rename_i y x r
    obtain ⟨h1, h⟩ := e_cond h e_ff
    rw [Bool.and_eq_true] at h1
    obtain ⟨yA, t0, rfl, g1, g2⟩ := sRel_cons hs
    obtain ⟨xA, t, rfl, g3, g4⟩ := sRel_cons g2
    exact g_dupx1 hm (by rw [vRel_cat g1]; exact Nat.eq_of_beq_eq_true h1.1) (by rw [vRel_cat g3]; exact Nat.eq_of_beq_eq_true h1.2) (IH _ _ _ _ _ _ _ _ _ _ _ h K ce sl ρ ρr lv _ ws X hl ⟨g1, g3, g1, g4⟩)
  · cases h
theorem a_jmp {ih : aRn} (IH : aSn b base LS xs D cl tys Tb NF l CN so ad ST JL md ws0 ih) {mi : eM} {xt : aXt} {pc : Nat} {cd : List eI} {off : Int} {ls : List (Nat × aV)} {r : List aV} {A : aA} {ac as : Nat} {sp : List aT} {k : aK} {K : gK} {ce sl : Nat} {ρ : Nat → Int} {ρr : Nat → Nat} {lv : List (Nat × Value)} {t : List Value} {ws : va_W}
    (X : aCx b base LS xs D cl tys Tb NF l CN so ad ST JL md ws0 mi cd A sp k K ce sl ρ ρr ws) (hl : lRel b ad ρ ρr A.1 A.2.2.1 ls lv) (hs : sRel b ad ρ ρr A.1 A.2.2.1 r t) (h : aCut b so ad tys ST JL md ws0 ws A ρ ρr (fun A => aJmp ih mi xt pc off ls r A ac as sp k)) : ∃ tg : Nat, (pc : Int) + off = (tg : Int) ∧ gG b base LS xs D cl tys Tb NF l CN mi tg lv t ws (ce + ac) (sl + as) K := by
  obtain ⟨A2, h, g2, g3, g4⟩ := h
  have u : aUp A ρ ρr A2 ρ ρr := aCut.up g2 g3
  unfold aJmp at h
  split at h
  · rename_i tg ht
    split at h
    · rename_i cd2 hcd
      dsimp only at h
      rw [ef_eq] at h
      exact ⟨tg, ht, IH _ _ _ _ _ _ _ _ _ _ _ h K ce sl ρ ρr lv _ ws (aCx_cd (aCx_up X u g4) (fun q hq => ej_ok hcd q hq)) (lRel_up u.1 u.2.1 u.2.2 hl) (sRel_up u.1 u.2.1 u.2.2 hs)⟩
    · cases h
  · cases h
theorem a_same {A : aA} {ρ : Nat → Int} {ρr : Nat → Nat} {ws : va_W} (hR : aRel b so ad tys ST JL ρ ρr md ws0 A ws) {kk : aA → Bool} (h : kk A = true) : aCut b so ad tys ST JL md ws0 ws A ρ ρr kk := ⟨A, h, rfl, rfl, hR⟩
theorem k_goto {off : Int} : aHs b base LS xs D cl tys Tb NF l CN so ad ST JL md ws0 (kGoto off) (.goto off) 3 := by
  intro ih IH mi xt pc cd ls st A ac as sp k h K ce sl ρ ρr lv stA ws hm X hl hs
  obtain ⟨tg, h1, h2⟩ := a_jmp IH X hl hs (a_same X.2.2.2.1 (kk := fun A => aJmp ih mi xt pc off ls st A ac as sp k) h)
  exact g_goto hm h1 h2
theorem est_off {mi : eM} {p : Program} {R : Room} {s : State} {m : MethodId} {args : Array Value} {meth : Method} {c : Code} {cc : ByteArray} {nL pc len : Nat} {i : Instr} (X : gCx b base LS xs Tb NF CN p R s m args meth c mi cc nL) (hm : (pc, i, len) ∈ mi.2.2.2.2.2.2) : est pc i nL = true := (X.2.2.2.2.2.2.2.2.1 _ hm).1.2.1
/-- a branch whose place is told by the code -/
theorem g_icmp2 {mi : eM} {pc : Nat} {lv : List (Nat × Value)} {st : List Value} {ws : va_W} {ce sl : Nat} {K : gK} {cd : ClassFile.Cond} {off : Int} (hm : (pc, .if_icmp cd off, 3) ∈ mi.2.2.2.2.2.2) {x y : Int32} (h1 : eCd cd x y → ∃ t : Nat, (pc : Int) + off = (t : Int) ∧ gG b base LS xs D cl tys Tb NF l CN mi t lv st ws ce sl K) (h2 : ¬ eCd cd x y → gG b base LS xs D cl tys Tb NF l CN mi (pc + 3) lv st ws ce sl K) : gG b base LS xs D cl tys Tb NF l CN mi pc lv (.int y :: .int x :: st) ws ce sl K := by
  intro p e R s m args below meth c Q cc nL X hR H locs lsA hw hl
  have hd := X.2.2.2.2.2.2.2.2.1 _ hm
  exact e_icmp cd X.1 X.2.1 hd.1.1 (of_decide_eq_true hd.1.2.1) (fun q => by
    obtain ⟨t, ht, hg⟩ := h1 q
    exact ⟨t, ht, hg p e R s m args below meth c Q cc nL X hR H locs lsA hw hl⟩) (fun q => h2 q p e R s m args below meth c Q cc nL X hR H locs lsA hw hl)
theorem g_ifc2 {mi : eM} {pc : Nat} {lv : List (Nat × Value)} {st : List Value} {ws : va_W} {ce sl : Nat} {K : gK} {cd : ClassFile.Cond} {off : Int} (hm : (pc, .ifCond cd off, 3) ∈ mi.2.2.2.2.2.2) {x : Int32} (h1 : eCd cd x 0 → ∃ t : Nat, (pc : Int) + off = (t : Int) ∧ gG b base LS xs D cl tys Tb NF l CN mi t lv st ws ce sl K) (h2 : ¬ eCd cd x 0 → gG b base LS xs D cl tys Tb NF l CN mi (pc + 3) lv st ws ce sl K) : gG b base LS xs D cl tys Tb NF l CN mi pc lv (.int x :: st) ws ce sl K := by
  intro p e R s m args below meth c Q cc nL X hR H locs lsA hw hl
  have hd := X.2.2.2.2.2.2.2.2.1 _ hm
  exact e_ifc cd X.1 X.2.1 hd.1.1 (of_decide_eq_true hd.1.2.1) (fun q => by
    obtain ⟨t, ht, hg⟩ := h1 q
    exact ⟨t, ht, hg p e R s m args below meth c Q cc nL X hR H locs lsA hw hl⟩) (fun q => h2 q p e R s m args below meth c Q cc nL X hR H locs lsA hw hl)
theorem k_icmp {c : ClassFile.Cond} {off : Int} : aHs b base LS xs D cl tys Tb NF l CN so ad ST JL md ws0 (kIcmp c off) (.if_icmp c off) 3 := by
  intro ih IH mi xt pc cd ls st A ac as sp k h K ce sl ρ ρr lv stA ws hm X hl hs
  unfold kIcmp at h
  split at h
  · rename_i y x r
    obtain ⟨yA, t0, rfl, ⟨q1, z2, rfl, e2⟩, g2⟩ := sRel_cons hs
    obtain ⟨xA, t, rfl, ⟨q2, z1, rfl, e1⟩, g4⟩ := sRel_cons g2
    obtain ⟨h1, h2⟩ := acmp_ok X.2.2.2.1 e1 e2 h
    exact g_icmp2 hm (fun q => a_jmp IH X hl g4 (h1 q)) (fun q => a_cut IH X hl g4 (h2 q))
  · cases h
theorem k_if {c : ClassFile.Cond} {off : Int} : aHs b base LS xs D cl tys Tb NF l CN so ad ST JL md ws0 (kIf c off) (.ifCond c off) 3 := by
  intro ih IH mi xt pc cd ls st A ac as sp k h K ce sl ρ ρr lv stA ws hm X hl hs
  unfold kIf at h
  split at h
  · rename_i x r
    obtain ⟨xA, t, rfl, ⟨q2, z1, rfl, e1⟩, g4⟩ := sRel_cons hs
    obtain ⟨h1, h2⟩ := acmp_ok (z2 := 0) X.2.2.2.1 e1 (show (0 : Int32).toInt = ρ 0 + 0 by rw [X.2.2.2.1.1.2.2.1]; rfl) h
    exact g_ifc2 hm (fun q => a_jmp IH X hl g4 (h1 q)) (fun q => a_cut IH X hl g4 (h2 q))
  · cases h
theorem aswi_ok {A : aA} {ρ : Nat → Int} {ρr : Nat → Nat} {ws : va_W} (hR : aRel b so ad tys ST JL ρ ρr md ws0 A ws) {x : Nat × Int} {go : Int → aA → Bool} : ∀ {offs : List Int} {c : Int}, aswi x A go offs c = true → ∀ (n : Nat) (off : Int), offs[n]? = some off → ρ x.1 + x.2 = c + (n : Int) → aCut b so ad tys ST JL md ws0 ws A ρ ρr (go off)
  | [], c, h => fun n off hn => by simp at hn
  | o :: offs, c, h => by
    have h : (abt x c c A (go o) && efI (c + 1) (aswi x A go offs)) = true := h
    rw [Bool.and_eq_true, efI_eq] at h
    intro n off hn he
    cases n with
    | zero =>
      rw [List.getElem?_cons_zero] at hn
      cases hn
      exact abt_ok hR h.1 (by omega) (by omega)
    | succ n =>
      rw [List.getElem?_cons_succ] at hn
      exact aswi_ok hR h.2 n off hn (by omega)
theorem k_swit {d lo hi : Int} {offs : Array Int} {len : Nat} : aHs b base LS xs D cl tys Tb NF l CN so ad ST JL md ws0 (kSwit d lo hi offs) (.tableswitch d lo hi offs) len := by
  intro ih IH mi xt pc cd ls st A ac as sp k h K ce sl ρ ρr lv stA ws hm X hl hs
  unfold kSwit at h
  split at h
  · rename_i x r
    obtain ⟨xA, t, rfl, ⟨q2, z, rfl, e1⟩, g4⟩ := sRel_cons hs
    obtain ⟨h0, h⟩ := e_cond h e_ff
    rw [ieq_iff] at h0
    rw [Bool.and_eq_true, Bool.and_eq_true] at h
    obtain ⟨h1, h2, h3⟩ := h
    have hR := X.2.2.2.1
    have a1 := i_lo z
    have a2 := i_hi z
    rw [e1] at a1 a2
    have el : (Int.ofNat offs.toList.length : Int) = (offs.toList.length : Int) := rfl
    refine g_table hm (fun q => ?_) (fun q => ?_)
    · rcases q with q | q
      · exact a_jmp IH X hl g4 (abt_ok hR h2 a1 (by omega))
      · exact a_jmp IH X hl g4 (abt_ok hR h3 (by omega) a2)
    · have hlt : (z.toInt - lo).toNat < offs.toList.length := by omega
      obtain ⟨tg, k1, k2⟩ := a_jmp IH X hl g4 (aswi_ok hR h1 _ _ (List.getElem?_eq_getElem hlt) (by omega))
      exact ⟨_, tg, List.getElem?_eq_getElem hlt, k1, k2⟩
  · cases h
end AI1
