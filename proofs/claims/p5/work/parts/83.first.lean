/-! THE LAW'S HEAD: what it makes ahead of its loop. -/
noncomputable section
def hp_0 : eH := er 16 (er 16 none)
def bk_f : eBk := fun _ _ _ _ _ _ _ => false
abbrev eRn1 (n : Nat) : eR := eRun eFL1 eCL1 eMT1 eNW1 eNA1 eKI1 eKL1 eSP1 bk_f n
def en_X : Nat × Nat × List eV := (11, 17, [eN, eN, eN, eN, eN, eN, eN, eN, eN, eN, eN, eN, eN, eN, eN, eN, .inl 0])
def en_M : Nat × Nat × List eV := (12, 55, [.inl 0, eN, .inl 0, .inl 0, .inl 0, .inl 0, eN, eN, eN, eN, eN, .inl 0, .inl 0, .inl 0, .inl 0, .inl 0, .inl 0, eL, .inl 0, .inl 0, eN, eN, .inl 0, eN, eN, eN, .inl 0, .inl 0, .inl 0, eN, eN, eN, eN, eN, eN, .inl 0, eN, eN, eN, .inl 0, .inl 0, .inl 0, .inl 0, eN, .inl 0, eN, .inl 0, .inl 0, .inl 0, .inl 0, .inl 0, eN, eN, eN, eN])
def ek_M : eK := fun ret hp nx _ => match ret with
  | none => bif Nat.beq nx 194 then ts 16 (some (.inr (.inr (1, [])))) hp nx (fun hp => bkw hp 195) else false
  | some _ => false
def ek_X : eK := fun ret hp nx cs => match ret with
  | none => bif Nat.beq nx 167 then ts 16 (some (.inl (en_M.1, en_M.2.2))) hp nx (fun hp => eRn1 1000000 em_12 0 ec_12 (eargs [.inr (.inr (.inl 167))] 0) [] hp 168 0 0 cs ek_M) else false
  | some _ => false
def run_1 : Bool := ts 16 (some (.inl (en_X.1, en_X.2.2))) hp_0 0 (fun hp => eRn1 1000000 em_11 0 ec_11 (eargs [.inr (.inr (.inl 0))] 0) [] hp 1 0 0 [] ek_X)
end
theorem en_Xis : eNW1 13 8 = some en_X := rfl
theorem en_Mis : eNW1 13 16 = some en_M := rfl
set_option maxRecDepth 1000000 in
theorem run_ok : run_1 = true := by decide +kernel
theorem v_val {ρ : Nat → Int32} {b base : Nat} {D : va_G} {l : Launch} (hρ : ρ 7 = ρ 6 - 6 ∧ ρ 8 = ρ 0 &&& 63) : eVal ρ b base D vwCl Tb1 (NF1 base) l eCN eFL1 eCL1 eMT1 eNW1 eNA1 eKI1 eKL1 eSP1 := ⟨hρ, tb_good, v_NF base, w_FL, w_NW, w_NA base, w_KI, w_KL, w_AC, w_CL base, w_Ob, v_S, v_T⟩
theorem w_bok {ρ : Nat → Int32} {b base : Nat} {D : va_G} {l : Launch} : eBok ρ b base D vwCl Tb1 (NF1 base) l eCN bk_f := by
  intro d lo hi offs len mi pc ls st hp nx ce sl cs k _ h
  exact absurd h Bool.false_ne_true
/-- the script's ints, their number, and what the law makes of them -/
def wr (L : Nat) (xs : Nat → Int32) : Nat → Int32 := fun j => match j with
  | 6 => Int32.ofNat L
  | 7 => Int32.ofNat L - 6
  | 8 => xs 0 &&& 63
  | j => xs j
theorem wr_xs (L : Nat) (xs : Nat → Int32) {j : Nat} (hj : j < 6) : wr L xs j = xs j := by
  match j, hj with
  | 0, _ => rfl
  | 1, _ => rfl
  | 2, _ => rfl
  | 3, _ => rfl
  | 4, _ => rfl
  | 5, _ => rfl
  | n + 6, h => omega
section FST
variable {ρ : Nat → Int32} {b base : Nat} {D : va_G} {l : Launch} {p : Program} {e : Env} {R : Room} {s : State} {m : MethodId} {args : Array Value} {below : List Frame} {meth : Method} {c : Code} {Q : State → Prop} {cc : ByteArray} {nL : Nat}
  {H : Heap} {locs : List Loc} {ws : va_W} {tys : List (ClassId × FieldType)} {lsA : Array Slot} {lv : List (Nat × Value)} {stA : List Value} {hp hp2 : eH} {nx ce sl pc : Nat}
theorem n_new {idx : Nat} {q : Nat × Nat × List eV} (hq : eNW1 13 idx = some q) (X : eCx ρ b base Tb1 (NF1 base) eCN p R s m args meth c em_13 cc nL) (hw : eWd ρ b base D vwCl s H locs hp nx ws tys) (hd : decode cc pc = .ok (.new idx, 3))
    (h5 : ∀ j, hg hp2 j = if j = nx then some (.inl (q.1, q.2.2)) else hg hp j) (a1 : ce + 1 ≤ 601024) (a2 : sl + q.2.1 ≤ 7293034)
    (K : ∀ (qa : Nat) (H1 : Heap) (e1 : va_E), eWd ρ b base D vwCl s H1 locs hp2 (nx + 1) (ws ++ [(qa, e1)]) tys → W p l e R s m args below meth c H1 locs (ce + 1) (sl + q.2.1) Q (F0 m (pc + 3) lsA (.ref qa :: stA))) :
    W p l e R s m args below meth c H locs ce sl Q (F0 m pc lsA stA) := by
  obtain ⟨T, ty, fs, f1, f2, f3, f4, f5, f6, f7, f8⟩ := w_NW _ _ _ hq
  have hRc := X.2.2.2.2.2.2.2.1
  refine va_new (fs := fs) X.1 X.2.1 X.2.2.2.2.1 f2 ty f3 X.2.2.2.1 (X.2.2.2.2.1 _ f4) (X.2.2.2.2.1 _ f5) (X.2.2.2.2.1 _ f6) hw.1 hw.2.1 hw.2.2.1 hw.2.2.2.1 (e_hA X) f1 f7 (by rw [hRc.1]; exact a1) (by rw [hRc.2.1]; exact a2) hd (fun qa H1 q1 q2 q3 => ?_)
  have hm : eMt ρ b vwCl hp2 (nx + 1) (ws ++ [(qa, .inr (q.1, fs))]) tys := eMt_push hw.2.2.2.2 (fun _ _ z => z) h5 ⟨_, rfl, f8 ρ b _⟩
  exact K qa H1 _ ⟨hw.1, q1, q2, q3, hm⟩
theorem n_newl (X : eCx ρ b base Tb1 (NF1 base) eCN p R s m args meth c em_13 cc nL) (hw : eWd ρ b base D vwCl s H locs hp nx ws tys) (hd : decode cc pc = .ok (.newarray .long, 2))
    (h5 : ∀ j, hg hp2 j = if j = nx then some (.inr (.inr (1, []))) else hg hp j) (a1 : ce + 1 ≤ 601024) (a2 : sl + 1 ≤ 7293034)
    (K : ∀ (qa : Nat) (H1 : Heap) (e1 : va_E) (ty1 : ClassId × FieldType), eWd ρ b base D vwCl s H1 locs hp2 (nx + 1) (ws ++ [(qa, e1)]) (tys ++ [ty1]) → W p l e R s m args below meth c H1 locs (ce + 1) (sl + 1) Q (F0 m (pc + 2) lsA (.ref qa :: stA))) :
    W p l e R s m args below meth c H locs ce sl Q (F0 m pc lsA (.int (Int32.ofNat 1) :: stA)) := by
  have hRc := X.2.2.2.2.2.2.2.1
  have b1 : ce + 1 ≤ R.cells := by rw [hRc.1]; exact a1
  have b2 : sl + 1 ≤ R.slots := by rw [hRc.2.1]; exact a2
  refine va_newa (atype := .long) (ty := .long) (a0 := (1, .inr (.inl (fun _ => 0)))) X.1 X.2.1 (X.2.2.2.2.1 _ w_AC.2.2.2) rfl hw.1 hw.2.1 hw.2.2.1 hw.2.2.2.1 (e_hA X) (fun _ => rfl) (e_pos (n := 1) (by omega)) (e_cl (n := 1) (by omega)) (by show 1 * 8 ≤ _; omega) b1 b2 hd (fun qa cA H1 q0 q1 q2 q3 => ?_)
  have hm : eMt ρ b vwCl hp2 (nx + 1) (ws ++ [(qa, .inl (cA, (1, .inr (.inl (fun _ => 0)))))]) (tys ++ [(cA, .long)]) := eMt_push hw.2.2.2.2 e_app h5 ⟨cA, _, _, rfl, e_last, trivial⟩
  exact K qa H1 _ _ ⟨q0, q1, q2, q3, hm⟩
/-- a constructor without arguments -/
theorem n_init {ih : eR} (IH : eSn ρ b base D vwCl Tb1 (NF1 base) l eCN ih) {idx mno : Nat} {q : eM × Nat} (hcl : eCL1 13 idx = some (2, mno, 1)) (hq : eMT1 mno = some q) (hk10 : q.1.2.2.2.2.2.1 = 10) {o : Nat} {cs : eC} {k : eK} (h : ih q.1 0 q.1.2.2.2.2.2.2 (eargs [.inr (.inr (.inl o))] 0) [] hp nx 0 0 cs k = true) (hkn : ∀ v hp nx cs, k (some v) hp nx cs = false)
    (r1 : q.1.2.2.2.1 + 1 ≤ 2048) (r2 : 8 + (q.2 + 11) + q.1.2.2.2.2.1 ≤ 84000) (r3 : ce + q.1.2.1 ≤ 601024) (r4 : sl + q.1.2.2.1 ≤ 7293034) (r6 : 1 ≤ q.2)
    (X : eCx ρ b base Tb1 (NF1 base) eCN p R s m args meth c em_13 cc nL) (hd : decode cc pc = .ok (.invokespecial idx, 3)) (hs : eSat ρ cs) (hw : eWd ρ b base D vwCl s H locs hp nx ws tys) (hl : lv_has lsA nL lv) {a : Nat} (ha : (ead ws)[o]? = some a) {rx : List Value} (hcat : (rx.map fun v => v.category).sum ≤ 8)
    (K : ∀ (H1 : Heap) (locs1 : List Loc) (hp1 : eH) (nx1 : Nat) (cs1 : eC) (ws1 : va_W) (tys1 : List (ClassId × FieldType)), k none hp1 nx1 cs1 = true → eSat ρ cs1 → eWd ρ b base D vwCl s H1 locs1 hp1 nx1 ws1 tys1 → (∀ (o a : Nat), (ead ws)[o]? = some a → (ead ws1)[o]? = some a) → W p l e R s m args below meth c H1 locs1 (ce + q.1.2.1) (sl + q.1.2.2.1) Q (F0 m (pc + 3) lsA rx)) :
    W p l e R s m args below meth c H locs ce sl Q (F0 m pc lsA (.ref a :: rx)) := by
  obtain ⟨y, cc2, ret, ok, ⟨hpar, hlk⟩, -⟩ := w_CL base _ _ _ _ _ hcl (by decide) q hq
  have has : eRs ρ b (ead ws) [.inr (.inr (.inl o))] [.ref a] := ⟨⟨a, ha, rfl⟩, trivial⟩
  have hM := e_met IH ok h r6 hs hw.2.2.2.2 has
  obtain ⟨o1, o2, o3, o4, o5, o6, o7, o8⟩ := ok
  have hRc := X.2.2.2.2.2.2.2.1
  have hts := X.2.2.2.2.1
  have hG : GoodIn Tb1 (Cond.code y cc2 q.2 ret :: Tb1) := e_goodIn tb_good (fun w z => (List.mem_cons.mp z).elim (fun z => by rw [z]; exact o1) (fun z => z))
  have S : CallFix p m c cc nL s args Tb1 (eCN em_13.1) := ⟨X.1, X.2.1, X.2.2.1, X.2.2.2.1, hts⟩
  have hRR : (eRoom q.1).frames + 1 ≤ R.frames ∧ 8 + (q.2 + 11) + (eRoom q.1).locals ≤ R.locals := ⟨by rw [hRc.2.2.1]; exact r1, by rw [hRc.2.2.2]; exact r2⟩
  have hff : ce + q.1.2.1 ≤ R.cells ∧ sl + q.1.2.2.1 ≤ R.slots := ⟨by rw [hRc.1]; exact r3, by rw [hRc.2.1]; exact r4⟩
  have hr0 : ret = none := by
    rcases o8 with ⟨z2, z3⟩ | ⟨z2, z3⟩ | ⟨z2, z3⟩ | ⟨z2, z3⟩ | ⟨z2, z3⟩
    · exact z3
    · exact z3
    all_goals omega
  subst hr0
  have hlk2 : Cond.methodLink (eCN 13) idx y ∈ Tb1 ∧ Cond.instanceMethod y ∈ Tb1 ∧ y.name = "<init>" := by
    rcases hlk with ⟨z, -⟩ | ⟨z, -⟩ | ⟨-, l1, l2, l3⟩ | ⟨z, -⟩ | ⟨z, -⟩ | ⟨z, -⟩
    · omega
    · omega
    · exact ⟨l1, l2, l3⟩
    all_goals omega
  obtain ⟨l1, l2, l3⟩ := hlk2
  have run : va_Run p l e R s m args below meth c H locs ce sl q.1.2.1 q.1.2.2.1 (F0 m pc lsA (.ref a :: rx)) rx (eQc ρ b base D vwCl ws k [Value.ref a].toArray) (fun x => base ≤ x) :=
    va_runI (n := 0) (As := []) (rest := rx) S hM ⟨callB_of 0 hts hG rfl rfl rfl (hts _ o2) (hts _ l1) ⟨o5.1, o5.2, hpar⟩ hRR, l3, hts _ l2⟩ ⟨e_blind (v_NF base), e_pre (v_NF base) X hw⟩ rfl rfl hl.1 rfl (lv_room hcat) hd hff
  intro T hT XT
  obtain ⟨v, st₀, t, T', L, h0, X', hL, e1, e2, ⟨⟨ret, hp2, nx2, cs2, ws2, tys2, hk, hs2, hext, hK2, hP2, hD2, hm2, hret⟩, hz, hkp⟩, st⟩ := run T hT XT
  rw [h0] at hz hkp
  have hS := hw.2.2.2.1
  have hw2 : eWd ρ b base D vwCl s T'.heap (locs ++ L) hp2 nx2 ws2 tys2 := by
    refine ⟨va_K.moved (by rw [← e2]; exact X'.warmed.alike.symm) hK2, by rw [e1]; exact hP2, hD2, ⟨Nat.le_trans hS.1 (by rw [e1]; exact hz), fun q h1 h2 => ?_, fun q hq => ?_⟩, hm2⟩
    · rw [e1, hkp q (Nat.lt_of_lt_of_le h1 hS.1) h2]
      exact hS.2.1 q h1 h2
    · rcases List.mem_append.mp hq with z | z
      · exact hS.2.2 q z
      · exact hL q z
  have K2 : W p l e R s m args below meth c T'.heap (locs ++ L) (ce + q.1.2.1) (sl + q.1.2.2.1) Q (F0 m (pc + 3) lsA (v.toList ++ rx)) := by
    rcases hret with ⟨rfl, ho⟩ | ⟨v2, x, rfl, hvx, ho⟩
    · cases ho
      exact K _ _ hp2 nx2 cs2 ws2 tys2 hk hs2 hw2 hext
    · rw [hkn] at hk
      cases hk
  obtain ⟨t2, a1, b1⟩ := K2 T' rfl X'
  exact ⟨t2, st t2 a1, b1⟩
end FST
theorem ead_new {ws : va_W} {qa n : Nat} {e1 : va_E} (h : ws.length = n) : (ead (ws ++ [(qa, e1)]))[n]? = some qa := ead_at.mpr ⟨e1, by rw [← h, List.getElem?_append_right (Nat.le_refl _), Nat.sub_self]; rfl⟩
section FS2
variable {b L base : Nat} {xs : Nat → Int32} {D : va_G} {l : Launch} {p : Program} {e : Env} {R : Room} {s : State} {m : MethodId} {args : Array Value} {below : List Frame} {meth : Method} {c : Code} {Q : State → Prop} {lsA : Array Slot}
theorem d_law (k : Nat) {t : eI} (h : ga_297_0[k]? = some t) : decode code t.1 = .ok (t.2.1, t.2.2) := gd_297_0 _ (List.mem_of_getElem? h)
/-- from the law's entry -/
theorem w_first (hst : l.stackTraces = false) (hL : L ≤ 3072) (X : eCx (wr L xs) b base Tb1 (NF1 base) eCN p R s m args meth c em_13 code 7) (hscr : gScr b base L xs s) (hK : va_K D vwCl [] s) (hRH : ∀ tys, gRH base D vwCl tys l p e R s m args below meth c Q gm_L code zK1) (hl : lv_has lsA 7 [(0, .ref b)]) :
    W p l e R s m args below meth c s.heap [] 0 0 Q (F0 m 0 lsA []) := by
  have hV : eVal (wr L xs) b base D vwCl Tb1 (NF1 base) l eCN eFL1 eCL1 eMT1 eNW1 eNA1 eKI1 eKL1 eSP1 := v_val ⟨rfl, rfl⟩
  have IH : eSn (wr L xs) b base D vwCl Tb1 (NF1 base) l eCN (eRn1 1000000) := e_sound hV w_bok 1000000
  have hP : va_P D vwCl [] s.heap := fun k q h => by simp at h
  have hD : va_D (fun q : Nat => base ≤ q) [] := ⟨fun i j p q h => by simp at h, fun k q h => by simp at h⟩
  have hm : eMt (wr L xs) b vwCl hp_0 0 [] [] := ⟨rfl, fun o q h => by simp at h⟩
  have hw0 : eWd (wr L xs) b base D vwCl s s.heap [] hp_0 0 [] [] := ⟨hK, hP, hD, va_S.rf, hm⟩
  obtain ⟨hpA, hrun, hA5⟩ := hs_ok (show ts 16 (some (.inl (en_X.1, en_X.2.2))) hp_0 0 (fun hp => eRn1 1000000 em_11 0 ec_11 (eargs [.inr (.inr (.inl 0))] 0) [] hp 1 0 0 [] ek_X) = true from run_ok)
  have hX := X.1
  have hb := X.2.1
  -- new WardrobeRow()
  refine n_new (pc := 0) en_Xis X hw0 (d_law 0 (t := (0, .new 8, 3)) rfl) hA5 (by omega) (by decide) (fun qx H1 e1 w1 => ?_)
  refine lv_dup hX hb (d_law 1 (t := (3, .dup, 1)) rfl) rfl ?_
  refine n_init IH (idx := 15) (mno := 11) (q := (em_11, 2)) (by decide +kernel) rfl rfl (o := 0) (cs := []) (k := ek_X) hrun (fun _ _ _ _ => rfl) (by decide) (by decide) (by decide) (by decide) (by decide) X (d_law 2 (t := (4, .invokespecial 15, 3)) rfl) (fun j q h => by simp at h) w1 hl (a := qx) (ead_new rfl) (rx := [.ref qx]) (Nat.le_of_ble_eq_true rfl) (fun H2 locs2 hp2 nx2 cs2 ws2 tys2 hk2 hs2 w2 x2 => ?_)
  refine lv_astore_n (lv' := [(1, .ref qx), (0, .ref b)]) hX hb (d_law 3 (t := (7, .astore_n 1, 1)) rfl) rfl hl (by decide) rfl (fun lsB hlB => ?_)
  obtain ⟨hn2, hk2⟩ := e_cond (show (bif Nat.beq nx2 167 then ts 16 (some (.inl (en_M.1, en_M.2.2))) hp2 nx2 (fun hp => eRn1 1000000 em_12 0 ec_12 (eargs [.inr (.inr (.inl 167))] 0) [] hp 168 0 0 cs2 ek_M) else false) = true from hk2) e_ff
  have hn2 := Nat.eq_of_beq_eq_true hn2
  subst hn2
  obtain ⟨hpB, hrun2, hB5⟩ := hs_ok hk2
  have ax2 : (ead ws2)[0]? = some qx := x2 0 qx (ead_new rfl)
  -- new WardrobeRowModel()
  refine n_new (pc := 8) en_Mis X w2 (d_law 4 (t := (8, .new 16, 3)) rfl) hB5 (by decide) (by decide) (fun qm H3 e3 w3 => ?_)
  refine lv_dup hX hb (d_law 5 (t := (11, .dup, 1)) rfl) rfl ?_
  refine n_init IH (idx := 18) (mno := 12) (q := (em_12, 1)) (by decide +kernel) rfl rfl (o := 167) (cs := cs2) (k := ek_M) hrun2 (fun _ _ _ _ => rfl) (by decide) (by decide) (by decide) (by decide) (by decide) X (d_law 6 (t := (12, .invokespecial 18, 3)) rfl) hs2 w3 hlB (a := qm) (ead_new w2.2.2.2.2.1) (rx := [.ref qm]) (Nat.le_of_ble_eq_true rfl) (fun H4 locs4 hp4 nx4 cs4 ws4 tys4 hk4 hs4 w4 x4 => ?_)
  refine lv_astore_n (lv' := [(2, .ref qm), (1, .ref qx), (0, .ref b)]) hX hb (d_law 7 (t := (15, .astore_n 2, 1)) rfl) rfl hlB (by decide) rfl (fun lsC hlC => ?_)
  obtain ⟨hn4, hk4⟩ := e_cond (show (bif Nat.beq nx4 194 then ts 16 (some (.inr (.inr (1, [])))) hp4 nx4 (fun hp => bkw hp 195) else false) = true from hk4) e_ff
  have hn4 := Nat.eq_of_beq_eq_true hn4
  subst hn4
  obtain ⟨hpC, hbk, hC5⟩ := hs_ok hk4
  have ax4 : (ead ws4)[0]? = some qx := x4 0 qx (ead_app ax2)
  have am4 : (ead ws4)[167]? = some qm := x4 167 qm (ead_new w2.2.2.2.2.1)
  -- new long[1]
  refine lv_iconst (v := Int32.ofNat 1) hX hb (d_law 8 (t := (16, .iconst 1, 1)) rfl) rfl ?_
  refine n_newl (pc := 17) X w4 (d_law 9 (t := (17, .newarray .long, 2)) rfl) hC5 (by decide) (by decide) (fun qo H5 e5 ty5 w5 => ?_)
  refine lv_astore_n (lv' := [(3, .ref qo), (2, .ref qm), (1, .ref qx), (0, .ref b)]) hX hb (d_law 10 (t := (19, .astore_n 3, 1)) rfl) rfl hlC (by decide) rfl (fun lsD hlD => ?_)
  refine lv_iconst (v := 0) hX hb (d_law 11 (t := (20, .iconst 0, 1)) rfl) rfl ?_
  refine lv_istore (lv' := [(4, .int 0), (3, .ref qo), (2, .ref qm), (1, .ref qx), (0, .ref b)]) hX hb (d_law 12 (t := (21, .istore 4, 2)) rfl) hlD (by decide) rfl (fun lsE hlE => ?_)
  -- the loop
  have hWl := bk_world (base := base) (LS := L) (xs := xs) (D := D) (l := l) hbk w5.2.2.2.2
  have hz : zin (zE1 b base L xs D (tys4 ++ [ty5]) l zso0 (ead (ws4 ++ [(qo, e5)]))) := ead_in w5.2.2.1
  have B := z_B0 (b := b) (base := base) (LS := L) (xs := xs) (D := D) (tys := tys4 ++ [ty5]) (l := l) (ad := ead (ws4 ++ [(qo, e5)]))
  have A := z_A1 hz
  have F := z_F0 (b := b) (base := base) (LS := L) (xs := xs) (D := D) (tys := tys4 ++ [ty5]) (l := l) (ead_app (q := (qo, e5)) ax4) (ead_app (q := (qo, e5)) am4) (ead_new (qa := qo) (e1 := e5) w4.2.2.2.2.1)
  have c0 : (0 : Int32).toInt = 0 := rfl
  have G := z_loop v_KX B A (z_Al hz) (z_rm hst B A F hL) F hL (L + 1) 0 0 (ws4 ++ [(qo, e5)]) (0 + 1 + em_11.2.1 + 1 + em_12.2.1 + 1) (0 + en_X.2.1 + em_11.2.2.1 + en_M.2.1 + em_12.2.2.1 + 1) (by rw [c0]; show (L : Int) - 0 < ((L + 1 : Nat) : Int); omega) (by rw [c0]; omega) (by rw [c0]; show (0 : Int) ≤ (L : Int); omega)
    (by rw [c0]; show ((0 + 1 + 166 + 1 + 26 + 1 : Nat) : Int) + ((L : Int) - 0) ≤ 601024; omega) (by rw [c0]; show ((0 + 17 + 3029 + 55 + 3337 + 1 : Nat) : Int) + 6 * ((L : Int) - 0) ≤ 7293034; omega) hWl
  have X2 : gCx b base L xs Tb1 (NF1 base) eCN p R s m args meth c gm_L code 7 := ⟨X.1, X.2.1, X.2.2.1, X.2.2.2.1, X.2.2.2.2.1, X.2.2.2.2.2.1, X.2.2.2.2.2.2.1, X.2.2.2.2.2.2.2.1, g_dk gd_297 ge_297, fun _ => hscr⟩
  refine G p e R s m args below meth c Q code 7 X2 (hRH _) H5 locs4 lsE ⟨w5.1, w5.2.1, w5.2.2.1, w5.2.2.2.1⟩ ⟨hlE.1, hlE.2.1, fun q hq => hlE.2.2 q ?_⟩
  have hq : q ∈ [(0, Value.ref b), (1, .ref qx), (2, .ref qm), (3, .ref qo), (4, .int 0)] := hq
  simp only [List.mem_cons, List.not_mem_nil, or_false] at hq ⊢
  rcases hq with h | h | h | h | h
  · exact Or.inr (Or.inr (Or.inr (Or.inr h)))
  · exact Or.inr (Or.inr (Or.inr (Or.inl h)))
  · exact Or.inr (Or.inr (Or.inl h))
  · exact Or.inr (Or.inl h)
  · exact Or.inl h
end FS2
