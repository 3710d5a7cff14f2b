/-- what the law's room(..) must do -/
def eTok (ρ : Nat → Int32) (b base : Nat) (D : va_G) (cl : List vw_C) (Tb : List Cond) (NF : State → Prop) (l : Launch) (CN : Nat → String) (CL : eFL) (MT : Nat → Option (eM × Nat)) : Prop := ∀ (ih : eR), eSn ρ b base D cl Tb NF l CN ih → ∀ (mi : eM) (idx mno n : Nat), CL mi.1 idx = some (9, mno, n) → ∀ q, MT mno = some q → ∀ (hp : eH) (as r : List eV) (nx ce sl : Nat) (cs : eC) (K : eK), eThc mi hp ce sl as r = true → eThk ih q as hp nx cs K = true →
  ∀ (p : Program) (e : Env) (R : Room) (s : State) (m : MethodId) (args : Array Value) (below : List Frame) (meth : Method) (c : Code) (cc : ByteArray) (nL : Nat), eCx ρ b base Tb NF CN p R s m args meth c mi cc nL →
  ∀ (H : Heap) (locs : List Loc) (ws : va_W) (tys : List (ClassId × FieldType)) (lsA : Array Slot) (lv : List (Nat × Value)) (asx rx : List Value) (pc : Nat), eDk cc nL (pc, .invokestatic idx, 3) → eSat ρ cs → eWd ρ b base D cl s H locs hp nx ws tys → lv_has lsA nL lv → eRs ρ b (ead ws) as asx → eRs ρ b (ead ws) r rx → asx.length = 4 →
    va_Run p l e R s m args below meth c H locs ce sl 1 6 (F0 m pc lsA (asx.reverse ++ rx)) rx (eQc ρ b base D cl ws K asx.toArray) (fun x => base ≤ x)
section ES8b
variable {ρ : Nat → Int32} {b base : Nat} {D : va_G} {cl : List vw_C} {Tb : List Cond} {NF : State → Prop} {l : Launch} {CN : Nat → String}
theorem s_thr {CL : eFL} {MT : Nat → Option (eM × Nat)} (hT : eTok ρ b base D cl Tb NF l CN CL MT) {idx mno n : Nat}
    {ih : eR} (IH : eSn ρ b base D cl Tb NF l CN ih) {mi : eM} {pc : Nat} {cd : List eI} {ls : List (Nat × eV)} {st : List eV} {hp : eH} {nx ce sl : Nat} {cs : eC} {k : eK} (hcl : CL mi.1 idx = some (9, mno, n)) (h : eThr MT mno ih mi pc cd ls st hp nx ce sl cs k = true)
    {p : Program} {e : Env} {R : Room} {s : State} {m : MethodId} {args : Array Value} {below : List Frame} {meth : Method} {c : Code} {Q : State → Prop} {cc : ByteArray} {nL : Nat} {ad0 : List Nat}
    (X : eCx ρ b base Tb NF CN p R s m args meth c mi cc nL) (hR : eRH ρ b base D cl l p e R s m args below meth c Q mi cc ad0 k)
    {H : Heap} {locs : List Loc} {ws : va_W} {tys : List (ClassId × FieldType)} {lsA : Array Slot} {lv : List (Nat × Value)} {stA : List Value}
    (hd : eDk cc nL (pc, .invokestatic idx, 3)) (hcd : ∀ q ∈ cd, eDk cc nL q) (hs : eSat ρ cs) (hw : eWd ρ b base D cl s H locs hp nx ws tys) (had : ∀ (o a : Nat), ad0[o]? = some a → (ead ws)[o]? = some a) (hl : lv_has lsA nL lv) (hls : eLs ρ b (ead ws) ls lv) (hst : eRs ρ b (ead ws) st stA) :
    W p l e R s m args below meth c H locs ce sl Q (F0 m pc lsA stA) := by
  unfold eThr at h
  cases hq : MT mno with
  | none => rw [hq] at h; cases h
  | some q =>
    rw [hq] at h
    obtain ⟨as, r, asx, rx, h1, has, hr, hsp, hlen⟩ := etake_ok (acc := []) (accx := []) 4 hst trivial h
    rw [List.reverse_nil, List.nil_append] at hsp
    rw [List.length_nil, Nat.zero_add] at hlen
    obtain ⟨h2, h3⟩ := e_cond h1 e_ff
    rw [hsp]
    exact e_back IH X hR hcd hw had hl hls hr (mc := 1) (ms := 6) (a := asx.toArray) (hT ih IH mi idx mno n hcl q hq hp as r nx ce sl cs _ h2 h3 p e R s m args below meth c cc nL X H locs ws tys lsA lv asx rx pc hd hs hw hl has hr hlen)
end ES8b
/-- what must hold where the law's switch is come to -/
def eBok (ρ : Nat → Int32) (b base : Nat) (D : va_G) (cl : List vw_C) (Tb : List Cond) (NF : State → Prop) (l : Launch) (CN : Nat → String) (BK : eBk) : Prop := ∀ (d lo hi : Int) (offs : Array Int) (len : Nat) (mi : eM) (pc : Nat) (ls : List (Nat × eV)) (st : List eV) (hp : eH) (nx ce sl : Nat) (cs : eC) (k : eK), mi.2.2.2.2.2.1 = 20 → BK hp nx ce sl cs ls st = true → ∀ (p : Program) (e : Env) (R : Room) (s : State) (m : MethodId) (args : Array Value) (below : List Frame) (meth : Method) (c : Code) (Q : State → Prop) (cc : ByteArray) (nL : Nat) (ad0 : List Nat),
  eCx ρ b base Tb NF CN p R s m args meth c mi cc nL → eRH ρ b base D cl l p e R s m args below meth c Q mi cc ad0 k → ∀ (H : Heap) (locs : List Loc) (ws : va_W) (tys : List (ClassId × FieldType)) (lsA : Array Slot) (lv : List (Nat × Value)) (stA : List Value) (z : Int32),
  eDk cc nL (pc, .tableswitch d lo hi offs, len) → eSat ρ cs → eWd ρ b base D cl s H locs hp nx ws tys → (∀ (o a : Nat), ad0[o]? = some a → (ead ws)[o]? = some a) → lv_has lsA nL lv → eLs ρ b (ead ws) ls lv → eRs ρ b (ead ws) st stA → W p l e R s m args below meth c H locs ce sl Q (F0 m pc lsA (.int z :: stA))
/-- the tables are right -/
def eVal (ρ : Nat → Int32) (b base : Nat) (D : va_G) (cl : List vw_C) (Tb : List Cond) (NF : State → Prop) (l : Launch) (CN : Nat → String) (FL : eFL) (CL : eFL) (MT : Nat → Option (eM × Nat)) (NW : Nat → Nat → Option (Nat × Nat × List eV)) (NA : Nat → Nat → Option Nat) (KI KL : Nat → Nat → Option Nat) (SP : Nat → eM → eH → List eV → Option (Nat × Nat × Nat)) : Prop :=
  (ρ 7 = ρ 6 - 6 ∧ ρ 8 = ρ 0 &&& 63) ∧ (∀ w ∈ Tb, goodWord w = true) ∧ eNFw base NF ∧ eFOK cl Tb CN FL ∧ eNOK cl Tb CN NW ∧ eAOK cl Tb NF CN NA ∧ eKOK Tb CN KI ∧ eJOKx Tb CN KL ∧ eACk Tb ∧ eCok cl Tb NF CN CL MT ∧ eOok Tb CN CL ∧ eSok ρ b base D cl Tb NF l CN CL SP ∧ eTok ρ b base D cl Tb NF l CN CL MT
section ES9
variable {ρ : Nat → Int32} {b base : Nat} {D : va_G} {cl : List vw_C} {Tb : List Cond} {NF : State → Prop} {l : Launch} {CN : Nat → String} {FL : eFL} {CL : eFL} {MT : Nat → Option (eM × Nat)} {NW : Nat → Nat → Option (Nat × Nat × List eV)} {NA : Nat → Nat → Option Nat} {KI KL : Nat → Nat → Option Nat} {SP : Nat → eM → eH → List eV → Option (Nat × Nat × Nat)} {BK : eBk}
theorem s_D (V : eVal ρ b base D cl Tb NF l CN FL CL MT NW NA KI KL SP) (hB : eBok ρ b base D cl Tb NF l CN BK) (i : Instr) (len : Nat) : eStp ρ b base D cl Tb NF l CN (eD FL CL MT NW NA KI KL SP BK i len) i len := by
  obtain ⟨⟨hρ, hρ8⟩, hTg, hNF, vF, vN, vA, vK, vJ, vC, vL, vO, vS, vT⟩ := V
  intro ih IH mi pc cd ls st hp nx ce sl cs k h p e R s m args below meth c Q cc nL ad0 X hR H locs ws tys lsA lv stA hd hcd hs hw had hl hls hst
  have go : ∀ {hh : eHd}, eStp ρ b base D cl Tb NF l CN hh i len → hh ih mi pc cd ls st hp nx ce sl cs k = true → W p l e R s m args below meth c H locs ce sl Q (F0 m pc lsA stA) := fun g h => g ih IH mi pc cd ls st hp nx ce sl cs k h p e R s m args below meth c Q cc nL ad0 X hR H locs ws tys lsA lv stA hd hcd hs hw had hl hls hst
  have hlen : elen i len = true := hd.2.2
  cases i with
  | iload j => have q := Nat.eq_of_beq_eq_true hlen; subst q; exact go (s_Load (Or.inl ⟨rfl, rfl⟩)) h
  | iload_n j => have q := Nat.eq_of_beq_eq_true hlen; subst q; exact go (s_Load (Or.inr ⟨j, rfl, rfl, rfl⟩)) h
  | aload j => have q := Nat.eq_of_beq_eq_true hlen; subst q; exact go (s_Loadr (Or.inl ⟨rfl, rfl⟩)) h
  | aload_n j => have q := Nat.eq_of_beq_eq_true hlen; subst q; exact go (s_Loadr (Or.inr ⟨j, rfl, rfl, rfl⟩)) h
  | istore j => have q := Nat.eq_of_beq_eq_true hlen; subst q; exact go (s_Store (Or.inl ⟨rfl, rfl⟩)) h
  | istore_n j => have q := Nat.eq_of_beq_eq_true hlen; subst q; exact go (s_Store (Or.inr ⟨j, rfl, rfl, rfl⟩)) h
  | astore j => have q := Nat.eq_of_beq_eq_true hlen; subst q; exact go (s_Storer (Or.inl ⟨rfl, rfl⟩)) h
  | astore_n j => have q := Nat.eq_of_beq_eq_true hlen; subst q; exact go (s_Storer (Or.inr ⟨j, rfl, rfl, rfl⟩)) h
  | iconst n => have q := Nat.eq_of_beq_eq_true hlen; subst q; exact go s_iconst h
  | bipush n =>
    have hlen : (Nat.beq len 2 && decide (-128 ≤ n ∧ n < 128)) = true := hlen
    rw [Bool.and_eq_true] at hlen
    have q := Nat.eq_of_beq_eq_true hlen.1
    subst q
    exact go (s_bipush (of_decide_eq_true hlen.2)) h
  | sipush n =>
    have hlen : (Nat.beq len 3 && decide (-32768 ≤ n ∧ n < 32768)) = true := hlen
    rw [Bool.and_eq_true] at hlen
    have q := Nat.eq_of_beq_eq_true hlen.1
    subst q
    exact go (s_sipush (of_decide_eq_true hlen.2)) h
  | ldc idx => have q := Nat.eq_of_beq_eq_true hlen; subst q; exact go (s_ldc vK (Or.inl ⟨rfl, rfl⟩)) h
  | ldc_w idx => have q := Nat.eq_of_beq_eq_true hlen; subst q; exact go (s_ldc vK (Or.inr ⟨rfl, rfl⟩)) h
  | ldc2_w idx => have q := Nat.eq_of_beq_eq_true hlen; subst q; exact go (s_ldc2 vJ) h
  | iinc j n => have q := Nat.eq_of_beq_eq_true hlen; subst q; exact go s_iinc h
  | iadd => have q := Nat.eq_of_beq_eq_true hlen; subst q; exact go (s_Bin (op := fun a c => a + c) (fun _ _ _ _ _ _ hx hy hk => eadd_ok hx hy hk) (fun hx hb hd hW => lv_iadd hx hb hd hW)) h
  | isub => have q := Nat.eq_of_beq_eq_true hlen; subst q; exact go (s_Bin (op := fun a c => a - c) (fun _ _ _ _ _ _ hx hy hk => esub_ok hρ hx hy hk) (fun hx hb hd hW => lv_isub hx hb hd hW)) h
  | imul => have q := Nat.eq_of_beq_eq_true hlen; subst q; exact go (s_Bin (op := fun a c => a * c) (fun _ _ _ _ _ _ hx hy hk => e2_ok (op := fun a c => a * c) e_mul hx hy hk) (fun hx hb hd hW => lv_imul hx hb hd hW)) h
  | iand => have q := Nat.eq_of_beq_eq_true hlen; subst q; exact go (s_Bin (op := fun a c => a &&& c) (fun _ _ _ _ _ _ hx hy hk => eand_ok hρ8 hx hy hk) (fun hx hb hd hW => lv_iand hx hb hd hW)) h
  | ior => have q := Nat.eq_of_beq_eq_true hlen; subst q; exact go (s_Bin (op := fun a c => a ||| c) (fun _ _ _ _ _ _ hx hy hk => e2_ok (op := fun a c => a ||| c) e_or hx hy hk) (fun hx hb hd hW => lv_ior hx hb hd hW)) h
  | ixor => have q := Nat.eq_of_beq_eq_true hlen; subst q; exact go (s_Bin (op := fun a c => a ^^^ c) (fun _ _ _ _ _ _ hx hy hk => e2_ok (op := fun a c => a ^^^ c) e_xor hx hy hk) (fun hx hb hd hW => lv_ixor hx hb hd hW)) h
  | ishl => have q := Nat.eq_of_beq_eq_true hlen; subst q; exact go (s_Bin (op := fun a c => a <<< (c &&& 31)) (fun _ _ _ _ _ _ hx hy hk => e2_ok (op := fun a c => a <<< (c &&& 31)) e_shl hx hy hk) (fun hx hb hd hW => lv_ishl hx hb hd hW)) h
  | iushr => have q := Nat.eq_of_beq_eq_true hlen; subst q; exact go (s_Bin (op := fun a c => (a.toUInt32 >>> (c.toUInt32 &&& Int32.toUInt32 31)).toInt32) (fun _ _ _ _ _ _ hx hy hk => e2_ok (op := fun a c => (a.toUInt32 >>> (c.toUInt32 &&& Int32.toUInt32 31)).toInt32) e_ushr hx hy hk) (fun hx hb hd hW => lv_iushr hx hb hd rfl hW)) h
  | ishr => have q := Nat.eq_of_beq_eq_true hlen; subst q; exact go (s_Bin (op := fun a c => a >>> (c &&& 31)) (fun _ _ _ _ _ _ hx hy hk => eshr_ok hx hy hk) (fun hx hb hd hW => lv_ishr hx hb hd hW)) h
  | irem => have q := Nat.eq_of_beq_eq_true hlen; subst q; exact go s_irem h
  | i2b => have q := Nat.eq_of_beq_eq_true hlen; subst q; exact go s_i2b h
  | dup => have q := Nat.eq_of_beq_eq_true hlen; subst q; exact go s_dup h
  | dup2 => have q := Nat.eq_of_beq_eq_true hlen; subst q; exact go s_dup2 h
  | pop => have q := Nat.eq_of_beq_eq_true hlen; subst q; exact go s_pop h
  | goto off => have q := Nat.eq_of_beq_eq_true hlen; subst q; exact go s_goto h
  | ifCond cd off => have q := Nat.eq_of_beq_eq_true hlen; subst q; exact go s_ifc h
  | if_icmp cd off => have q := Nat.eq_of_beq_eq_true hlen; subst q; exact go s_icmp h
  | tableswitch d lo hi offs => exact go (s_switch (hB d lo hi offs len)) h
  | getfield idx => have q := Nat.eq_of_beq_eq_true hlen; subst q; exact go (s_get vF) h
  | putfield idx => have q := Nat.eq_of_beq_eq_true hlen; subst q; exact go (s_put vF) h
  | new idx => have q := Nat.eq_of_beq_eq_true hlen; subst q; exact go (s_new vN) h
  | newarray t => have q := Nat.eq_of_beq_eq_true hlen; subst q; exact go (s_newa vC) h
  | anewarray idx => have q := Nat.eq_of_beq_eq_true hlen; subst q; exact go (s_newq vA) h
  | arraylength => have q := Nat.eq_of_beq_eq_true hlen; subst q; exact go s_alen h
  | iaload => have q := Nat.eq_of_beq_eq_true hlen; subst q; exact go (s_iald hρ) h
  | baload => have q := Nat.eq_of_beq_eq_true hlen; subst q; exact go (s_bald hρ) h
  | aaload => have q := Nat.eq_of_beq_eq_true hlen; subst q; exact go (s_aald hρ) h
  | laload => have q := Nat.eq_of_beq_eq_true hlen; subst q; exact go s_lald h
  | lastore => have q := Nat.eq_of_beq_eq_true hlen; subst q; exact go s_last h
  | iastore => have q := Nat.eq_of_beq_eq_true hlen; subst q; exact go s_iast h
  | bastore => have q := Nat.eq_of_beq_eq_true hlen; subst q; exact go s_bast h
  | aastore => have q := Nat.eq_of_beq_eq_true hlen; subst q; exact go s_aast h
  | ireturn => have q := Nat.eq_of_beq_eq_true hlen; subst q; exact go (s_ret (Or.inl ⟨rfl, rfl⟩)) h
  | areturn => have q := Nat.eq_of_beq_eq_true hlen; subst q; exact go (s_ret (Or.inr ⟨rfl, rfl⟩)) h
  | return_ => have q := Nat.eq_of_beq_eq_true hlen; subst q; exact go s_retv h
  | invokestatic idx =>
    have q := Nat.eq_of_beq_eq_true hlen
    subst q
    have h : (match CL mi.1 idx with
      | some (0, mno, n) => eCall MT 0 mno n ih mi pc cd ls st hp nx ce sl cs k
      | some (3, mno, n) => eCall MT 3 mno n ih mi pc cd ls st hp nx ce sl cs k
      | some (7, _, _) => eCopy ih mi pc cd ls st hp nx ce sl cs k
      | some (8, mno, n) => eSpec SP mno n ih mi pc cd ls st hp nx ce sl cs k
      | some (9, mno, _) => eThr MT mno ih mi pc cd ls st hp nx ce sl cs k
      | _ => false) = true := h
    split at h
    · rename_i mno n hcl
      exact s_call hTg hNF vL (Or.inl ⟨rfl, rfl, Or.inl rfl⟩) IH hcl h X hR hd hcd hs hw had hl hls hst
    · rename_i mno n hcl
      exact s_call hTg hNF vL (Or.inl ⟨rfl, rfl, Or.inr rfl⟩) IH hcl h X hR hd hcd hs hw had hl hls hst
    · rename_i x n hcl
      exact s_copy vO IH hcl h X hR hd hcd hs hw had hl hls hst
    · rename_i sn n hcl
      exact s_spec vS IH hcl h X hR hd hcd hs hw had hl hls hst
    · rename_i mno n hcl
      exact s_thr vT IH hcl h X hR hd hcd hs hw had hl hls hst
    · cases h
  | invokevirtual idx =>
    have q := Nat.eq_of_beq_eq_true hlen
    subst q
    have h : (match CL mi.1 idx with
      | some (1, mno, n) => eCall MT 1 mno n ih mi pc cd ls st hp nx ce sl cs k
      | some (4, mno, n) => eCall MT 4 mno n ih mi pc cd ls st hp nx ce sl cs k
      | _ => false) = true := h
    split at h
    · rename_i mno n hcl
      exact s_call hTg hNF vL (Or.inr (Or.inl ⟨rfl, rfl, Or.inl rfl⟩)) IH hcl h X hR hd hcd hs hw had hl hls hst
    · rename_i mno n hcl
      exact s_call hTg hNF vL (Or.inr (Or.inl ⟨rfl, rfl, Or.inr rfl⟩)) IH hcl h X hR hd hcd hs hw had hl hls hst
    · cases h
  | invokespecial idx =>
    have q := Nat.eq_of_beq_eq_true hlen
    subst q
    have h : (match CL mi.1 idx with
      | some (2, mno, n) => eCall MT 2 mno n ih mi pc cd ls st hp nx ce sl cs k
      | some (5, mno, n) => eCall MT 5 mno n ih mi pc cd ls st hp nx ce sl cs k
      | some (6, _, _) => eObj ih mi pc cd ls st hp nx ce sl cs k
      | _ => false) = true := h
    split at h
    · rename_i mno n hcl
      exact s_call hTg hNF vL (Or.inr (Or.inr ⟨rfl, rfl, Or.inl rfl⟩)) IH hcl h X hR hd hcd hs hw had hl hls hst
    · rename_i mno n hcl
      exact s_call hTg hNF vL (Or.inr (Or.inr ⟨rfl, rfl, Or.inr rfl⟩)) IH hcl h X hR hd hcd hs hw had hl hls hst
    · rename_i x n hcl
      exact s_obj vO IH hcl h X hR hd hcd hs hw had hl hls hst
    · cases h
  | _ => exact absurd (show false = true from h) Bool.false_ne_true
/-- THE WALKER IS RIGHT -/
theorem e_sound (V : eVal ρ b base D cl Tb NF l CN FL CL MT NW NA KI KL SP) (hB : eBok ρ b base D cl Tb NF l CN BK) : ∀ n, eSn ρ b base D cl Tb NF l CN (eRun FL CL MT NW NA KI KL SP BK n)
  | 0 => fun mi pc cd ls st hp nx ce sl cs k h => absurd (show false = true from h) Bool.false_ne_true
  | n + 1 => fun mi pc cd ls st hp nx ce sl cs k h => by
    have IH := e_sound V hB n
    intro p e R s m args below meth c Q cc nL ad0 X hR H locs ws tys lsA lv stA hcd hs hw had hl hls hst
    cases cd with
    | nil => exact absurd (show false = true from h) Bool.false_ne_true
    | cons q r =>
      have h : (bif Nat.beq q.1 pc then eD FL CL MT NW NA KI KL SP BK q.2.1 q.2.2 (eRun FL CL MT NW NA KI KL SP BK n) mi q.1 r ls st hp nx ce sl cs k else false) = true := h
      obtain ⟨h1, h⟩ := e_cond h e_ff
      have h1 := Nat.eq_of_beq_eq_true h1
      rw [← h1]
      exact s_D V hB q.2.1 q.2.2 _ IH mi q.1 r ls st hp nx ce sl cs k h p e R s m args below meth c Q cc nL ad0 X hR H locs ws tys lsA lv stA (hcd q List.mem_cons_self) (fun z hz => hcd z (List.mem_cons_of_mem _ hz)) hs hw had hl hls hst
end ES9
