noncomputable section
/-! THE WALKER, its pure part: a walk over bytecode with values that are known ints, ints of the script, references by the number of the object, or unknown; every branch that may be taken is walked; the answer says whether every end satisfies k. -/
/-- a value: an int (as it stands in 32 bits), the script's int of that number, the object of that number, or: 0 some int, 1 null, 2 some long, 3 the script -/
abbrev eV : Type := Nat ⊕ (Nat ⊕ (Nat ⊕ Nat))
/-- an object (its class, its fields), an array (kind, length, what is in it), an array of longs (its length, what is known of its first places, the last first) -/
abbrev eO : Type := (Nat × List eV) ⊕ ((Nat × Nat × List (List eV)) ⊕ (Nat × List Nat))
abbrev eH : Type := List (List (Option eO))
/-- what is known of the script's ints: from, to, shifted by 2^31 -/
abbrev eC : Type := List (Nat × Nat)
abbrev eI : Type := Nat × Instr × Nat
/-- a method: its class, cells, slots, frames, words of locals, kind (0: returns nothing, 1: int, 2: boolean, 3: long, 4: reference; 10: a constructor; 20: the law), code -/
abbrev eM : Type := Nat × Nat × Nat × Nat × Nat × Nat × List eI
abbrev eK : Type := Option eV → eH → Nat → eC → Bool
abbrev eR : Type := eM → Nat → List eI → List (Nat × eV) → List eV → eH → Nat → Nat → Nat → eC → eK → Bool
abbrev eHd : Type := eR → eM → Nat → List eI → List (Nat × eV) → List eV → eH → Nat → Nat → Nat → eC → eK → Bool
def ef {α : Type} (n : Nat) (k : Nat → α) : α := Nat.rec (k 0) (fun m _ => k (Nat.succ m)) n
theorem ef_eq {α : Type} (n : Nat) (k : Nat → α) : ef n k = k n := by cases n <;> rfl
def eg {α : Type} (l : List α) : Nat → Option α := List.rec (fun _ => none) (fun a _ ih n => Nat.rec (some a) (fun m _ => ih m) n) l
theorem eg_eq {α : Type} (l : List α) : ∀ n : Nat, eg l n = l[n]? := by
  induction l with
  | nil => intro n; rfl
  | cons a t ih => intro n; cases n with
    | zero => rfl
    | succ m => rw [List.getElem?_cons_succ, ← ih m]; rfl
def es {α β : Type} (x : α) (l : List α) : Nat → (List α → β) → β := List.rec (fun _ k => k []) (fun a t ih n k => Nat.rec (k (x :: t)) (fun m _ => ih m (fun t2 => k (a :: t2))) n) l
theorem es_eq {α β : Type} (x : α) (l : List α) : ∀ (n : Nat) (k : List α → β), es x l n k = k (l.set n x) := by
  induction l with
  | nil => intro n k; rfl
  | cons a t ih => intro n k; cases n with
    | zero => rfl
    | succ m => exact ih m (fun t2 => k (a :: t2))
def er {α : Type} (n : Nat) (x : α) : List α := Nat.rec [] (fun _ ih => x :: ih) n
theorem er_eq {α : Type} (n : Nat) (x : α) : er n x = List.replicate n x := by
  induction n with
  | zero => rfl
  | succ m ih => rw [List.replicate_succ, ← ih]; rfl
/-- two levels: of rows of b -/
def tg {α : Type} (b : Nat) (l : List (List α)) (i : Nat) : Option α := match eg l (i / b) with
  | some r => eg r (i % b)
  | none => none
def ts {α : Type} (b : Nat) (x : α) (l : List (List α)) (i : Nat) (k : List (List α) → Bool) : Bool := match eg l (i / b) with
  | some r => (match eg r (i % b) with
    | some _ => es x r (i % b) (fun r2 => es r2 l (i / b) k)
    | none => false)
  | none => false
theorem ts_ok {α : Type} {b : Nat} (hb : 0 < b) {x : α} {l : List (List α)} {i : Nat} {k : List (List α) → Bool} (h : ts b x l i k = true) : ∃ l2, k l2 = true ∧ (∃ y, tg b l i = some y) ∧ ∀ j, tg b l2 j = if j = i then some x else tg b l j := by
  unfold ts at h
  rw [eg_eq] at h
  cases hr : l[i / b]? with
  | none => rw [hr] at h; cases h
  | some r =>
    rw [hr] at h
    dsimp only at h
    rw [eg_eq] at h
    cases hy : r[i % b]? with
    | none => rw [hy] at h; cases h
    | some y =>
      rw [hy] at h
      dsimp only at h
      rw [es_eq, es_eq] at h
      refine ⟨_, h, ⟨y, by unfold tg; rw [eg_eq, hr]; dsimp only; rw [eg_eq, hy]⟩, fun j => ?_⟩
      have h1 : i / b < l.length := (List.getElem?_eq_some_iff.mp hr).1
      have h2 : i % b < r.length := (List.getElem?_eq_some_iff.mp hy).1
      unfold tg
      rw [eg_eq, eg_eq]
      by_cases hj : j / b = i / b
      · rw [hj, List.getElem?_set_self h1, hr]
        dsimp only
        rw [eg_eq, eg_eq]
        by_cases hm : j % b = i % b
        · have : j = i := by rw [← Nat.div_add_mod j b, ← Nat.div_add_mod i b, hj, hm]
          rw [if_pos this, hm, List.getElem?_set_self h2]
        · have : ¬ j = i := fun q => hm (by rw [q])
          rw [if_neg this, List.getElem?_set_ne (fun q => hm q.symm)]
      · have : ¬ j = i := fun q => hj (by rw [q])
        rw [if_neg this, List.getElem?_set_ne (fun q => hj q.symm)]
def hg (hp : eH) (o : Nat) : Option eO := match tg 16 hp o with
  | some x => x
  | none => none
theorem hs_ok {x : eO} {hp : eH} {o : Nat} {k : eH → Bool} (h : ts 16 (some x) hp o k = true) : ∃ hp2, k hp2 = true ∧ ∀ j, hg hp2 j = if j = o then some x else hg hp j := by
  obtain ⟨l2, h1, -, h3⟩ := ts_ok (by decide) h
  refine ⟨l2, h1, fun j => ?_⟩
  unfold hg
  rw [h3 j]
  by_cases hj : j = o
  · rw [if_pos hj, if_pos hj]
  · rw [if_neg hj, if_neg hj]
/-- values -/
def eT : eV := .inr (.inr (.inr 0))
def eN : eV := .inr (.inr (.inr 1))
def eL : eV := .inr (.inr (.inr 2))
def ecat (v : eV) : Nat := match v with
  | .inr (.inr (.inr 2)) => 2
  | _ => 1
def eS : eV := .inr (.inr (.inr 3))
def eint (v : eV) : Bool := match v with
  | .inl _ => true
  | .inr (.inl _) => true
  | .inr (.inr (.inr 0)) => true
  | _ => false
def ebi (a : Nat) : Nat := (a + 2147483648) % 4294967296
def evar (v : eV) (cs : eC) (k : eV → Bool) : Bool := match v with
  | .inr (.inl j) => (match eg cs j with
    | some q => bif Nat.beq q.1 q.2 then ef (ebi q.1) (fun n => k (.inl n)) else k v
    | none => false)
  | _ => k v
def e2 (f : Nat → Nat → Nat) (x y : eV) (k : eV → Bool) : Bool := match x with
  | .inl a => (match y with
    | .inl b => ef (f a b) (fun n => k (.inl n))
    | _ => bif eint y then k eT else false)
  | _ => bif eint x then (bif eint y then k eT else false) else false
def eadd (x y : eV) (k : eV → Bool) : Bool := match x with
  | .inl 0 => bif eint y then k y else false
  | _ => e2 (fun a b => (a + b) % 4294967296) x y k
def esub (x y : eV) (k : eV → Bool) : Bool := match x with
  | .inr (.inl 6) => (match y with
    | .inl 6 => k (.inr (.inl 7))
    | _ => bif eint y then k eT else false)
  | _ => e2 (fun a b => (a + (4294967296 - b % 4294967296)) % 4294967296) x y k
/-- .. and the script's int 0 with 63: the number 8 -/
def eand (x y : eV) (k : eV → Bool) : Bool := match x with
  | .inr (.inl 0) => (match y with
    | .inl 63 => k (.inr (.inl 8))
    | _ => bif eint y then k eT else false)
  | _ => e2 (fun a b => Nat.land a b) x y k
def fshr (a b : Nat) : Nat := bif Nat.ble 2147483648 a then 4294967295 - (4294967295 - a) >>> (b % 32) else a >>> (b % 32)
def eshr (x y : eV) (k : eV → Bool) : Bool := match x with
  | .inl 0 => bif eint y then k (.inl 0) else false
  | .inl (a + 1) => (match y with
    | .inl b => bif Nat.ble 4294967296 (a + 1) then false else ef (fshr (a + 1) b) (fun n => k (.inl n))
    | _ => bif eint y then k eT else false)
  | _ => e2 (fun a _ => a) x y k
def erem (x y : eV) (k : eV → Bool) : Bool := match x with
  | .inl a => (match y with
    | .inl b => bif Nat.blt a 2147483648 && (Nat.blt 0 b && Nat.blt b 2147483648) then ef (a % b) (fun n => k (.inl n)) else false
    | _ => false)
  | _ => false
/-- conditions -/
def edec (c : ClassFile.Cond) (p q : Nat) : Bool := match c with
  | .eq => Nat.beq p q
  | .ne => bif Nat.beq p q then false else true
  | .lt => Nat.blt p q
  | .ge => Nat.ble q p
  | .gt => Nat.blt q p
  | .le => Nat.ble p q
def eneg (c : ClassFile.Cond) : ClassFile.Cond := match c with
  | .eq => .ne
  | .ne => .eq
  | .lt => .ge
  | .ge => .lt
  | .gt => .le
  | .le => .gt
def eflip (c : ClassFile.Cond) : ClassFile.Cond := match c with
  | .eq => .eq
  | .ne => .ne
  | .lt => .gt
  | .ge => .le
  | .gt => .lt
  | .le => .ge
/-- the script's int j, known to lie between lo and hi (both shifted) -/
def ein (lo hi : Nat) (cs : eC) (j : Nat) (k : eC → Bool) : Bool := ef lo (fun a => ef hi (fun b => bif Nat.ble a b then es (a, b) cs j k else true))
def erf (c : ClassFile.Cond) (j b : Nat) (cs : eC) (k : eC → Bool) : Bool := match eg cs j with
  | some q => (match c with
    | .lt => bif Nat.beq b 0 then true else ein q.1 (Nat.min q.2 (b - 1)) cs j k
    | .le => ein q.1 (Nat.min q.2 b) cs j k
    | .gt => ein (Nat.max q.1 (b + 1)) q.2 cs j k
    | .ge => ein (Nat.max q.1 b) q.2 cs j k
    | .eq => ein (Nat.max q.1 b) (Nat.min q.2 b) cs j k
    | .ne => (bif Nat.beq b 0 then true else ein q.1 (Nat.min q.2 (b - 1)) cs j k) && ein (Nat.max q.1 (b + 1)) q.2 cs j k)
  | none => false
def ecmp (c : ClassFile.Cond) (x y : eV) (cs : eC) (kt kf : eC → Bool) : Bool := match x with
  | .inl a => (match y with
    | .inl b => bif edec c (ebi a) (ebi b) then kt cs else kf cs
    | .inr (.inl j) => erf (eflip c) j (ebi a) cs kt && erf (eneg (eflip c)) j (ebi a) cs kf
    | _ => bif eint y then kt cs && kf cs else false)
  | .inr (.inl j) => (match y with
    | .inl b => erf c j (ebi b) cs kt && erf (eneg c) j (ebi b) cs kf
    | _ => bif eint y then kt cs && kf cs else false)
  | _ => bif eint x then (bif eint y then kt cs && kf cs else false) else false
/-- locals -/
def el (ls : List (Nat × eV)) (j : Nat) : Option eV := List.rec none (fun q _ ih => bif Nat.beq q.1 j then some q.2 else ih) ls
def elp (j : Nat) (q : Nat × eV) : Bool := !(q.1 == j) && !(q.1 + 1 == j && ecat q.2 == 2)
def elf (j : Nat) (ls : List (Nat × eV)) : (List (Nat × eV) → Bool) → Bool := List.rec (fun k => k []) (fun q _ ih k => bif Nat.beq q.1 j then ih k else (bif elp j q then ih (fun t => k (q :: t)) else ih k)) ls
/-- the code from there on -/
def ej (cd : List eI) (t : Nat) : Option (List eI) := List.rec none (fun q r ih => bif Nat.beq q.1 t then some (q :: r) else ih) cd
def eargs (vs : List eV) : Nat → List (Nat × eV) := List.rec (fun _ => []) (fun v _ ih i => (i, v) :: ih (i + ecat v)) vs
def ecats (vs : List eV) : Nat := List.rec 0 (fun v _ ih => ecat v + ih) vs
/-- the first n of the stack, turned round, and the rest -/
def etake (n : Nat) : List eV → List eV → (List eV → List eV → Bool) → Bool := Nat.rec (fun st acc k => k acc st) (fun _ ih st acc k => match st with
  | v :: r => ih r (v :: acc) k
  | [] => false) n
abbrev eFL : Type := Nat → Nat → Option (Nat × Nat × Nat)
abbrev eBk : Type := eH → Nat → Nat → Nat → eC → List (Nat × eV) → List eV → Bool
section EW
variable (FL : eFL) (CL : eFL) (MT : Nat → Option (eM × Nat)) (NW : Nat → Nat → Option (Nat × Nat × List eV)) (NA : Nat → Nat → Option Nat) (KI : Nat → Nat → Option Nat) (KL : Nat → Nat → Option Nat) (SP : Nat → eM → eH → List eV → Option (Nat × Nat × Nat)) (BK : eBk)
def hBad : eHd := fun _ _ _ _ _ _ _ _ _ _ _ _ => false
def eref (v : eV) : Bool := match v with
  | .inr (.inr (.inl _)) => true
  | _ => false
def escr (v : eV) : Bool := match v with
  | .inr (.inr (.inr (_ + 3))) => true
  | _ => false
def hLoad (len j : Nat) : eHd := fun ih mi pc cd ls st hp nx ce sl cs k => match el ls j with
  | some v => bif eint v then evar v cs (fun v => ih mi (pc + len) cd ls (v :: st) hp nx ce sl cs k) else false
  | none => false
def hLoadr (len j : Nat) : eHd := fun ih mi pc cd ls st hp nx ce sl cs k => match el ls j with
  | some v => bif eref v || escr v then ih mi (pc + len) cd ls (v :: st) hp nx ce sl cs k else false
  | none => false
def hStore (len j : Nat) (ref : Bool) : eHd := fun ih mi pc cd ls st hp nx ce sl cs k => match st with
  | v :: r => bif (bif ref then eref v else eint v) then elf j ls (fun t => ih mi (pc + len) cd ((j, v) :: t) r hp nx ce sl cs k) else false
  | [] => false
def hPush (len : Nat) (n : Nat) : eHd := fun ih mi pc cd ls st hp nx ce sl cs k => ih mi (pc + len) cd ls (.inl n :: st) hp nx ce sl cs k
/-- a long that is known, and it is kept at once: the next place of an array whose places ahead are known -/
def eLst (v len : Nat) : eHd := fun ih mi pc cd ls st hp nx ce sl cs k => match cd with
  | (pc2, .lastore, 1) :: r2 => bif Nat.beq pc2 (pc + len) then (match st with
    | .inl i :: .inr (.inr (.inl o)) :: r => (match hg hp o with
      | some (.inr (.inr q)) => bif Nat.beq i q.2.length && (Nat.blt i q.1 && Nat.ble q.1 100000) then ts 16 (some (.inr (.inr (q.1, v :: q.2)))) hp o (fun hp => ih mi (pc2 + 1) r2 ls r hp nx ce sl cs k) else false
      | _ => false)
    | _ => false) else false
  | _ => false
def hLong (idx : Nat) : eHd := fun ih mi pc cd ls st hp nx ce sl cs k => match KL mi.1 idx with
  | some 0 => ih mi (pc + 3) cd ls (eL :: st) hp nx ce sl cs k
  | some (v + 1) => eLst (v + 1) 3 ih mi pc cd ls st hp nx ce sl cs k
  | none => false
def eun (n : Int) : Nat := (n % 4294967296).toNat
def hInc (j : Nat) (n : Int) : eHd := fun ih mi pc cd ls st hp nx ce sl cs k => match el ls j with
  | some v => eadd (.inl (eun n)) v (fun w => elf j ls (fun t => ih mi (pc + 3) cd ((j, w) :: t) st hp nx ce sl cs k))
  | none => false
def hBin (f : eV → eV → (eV → Bool) → Bool) : eHd := fun ih mi pc cd ls st hp nx ce sl cs k => match st with
  | y :: x :: r => f x y (fun v => ih mi (pc + 1) cd ls (v :: r) hp nx ce sl cs k)
  | _ => false
def hI2b : eHd := fun ih mi pc cd ls st hp nx ce sl cs k => match st with
  | x :: r => bif eint x then ih mi (pc + 1) cd ls (eT :: r) hp nx ce sl cs k else false
  | _ => false
def hDup : eHd := fun ih mi pc cd ls st hp nx ce sl cs k => match st with
  | x :: r => bif Nat.beq (ecat x) 1 then ih mi (pc + 1) cd ls (x :: x :: r) hp nx ce sl cs k else false
  | _ => false
def hDup2 : eHd := fun ih mi pc cd ls st hp nx ce sl cs k => match st with
  | y :: x :: r => bif Nat.beq (ecat y) 1 && Nat.beq (ecat x) 1 then ih mi (pc + 1) cd ls (y :: x :: y :: x :: r) hp nx ce sl cs k else false
  | _ => false
def hPop : eHd := fun ih mi pc cd ls st hp nx ce sl cs k => match st with
  | x :: r => bif Nat.beq (ecat x) 1 then ih mi (pc + 1) cd ls r hp nx ce sl cs k else false
  | _ => false
def eJmp (ih : eR) (mi : eM) (pc : Nat) (off : Int) (ls : List (Nat × eV)) (st : List eV) (hp : eH) (nx ce sl : Nat) (cs : eC) (k : eK) : Bool := match (pc : Int) + off with
  | .ofNat t => (match ej mi.2.2.2.2.2.2 t with
    | some cd => ef t (fun t => ih mi t cd ls st hp nx ce sl cs k)
    | none => false)
  | .negSucc _ => false
def hGoto (off : Int) : eHd := fun ih mi pc _ ls st hp nx ce sl cs k => eJmp ih mi pc off ls st hp nx ce sl cs k
def hIf (c : ClassFile.Cond) (off : Int) : eHd := fun ih mi pc cd ls st hp nx ce sl cs k => match st with
  | x :: r => ecmp c x (.inl 0) cs (fun cs => eJmp ih mi pc off ls r hp nx ce sl cs k) (fun cs => ih mi (pc + 3) cd ls r hp nx ce sl cs k)
  | _ => false
def hIcmp (c : ClassFile.Cond) (off : Int) : eHd := fun ih mi pc cd ls st hp nx ce sl cs k => match st with
  | y :: x :: r => ecmp c x y cs (fun cs => eJmp ih mi pc off ls r hp nx ce sl cs k) (fun cs => ih mi (pc + 3) cd ls r hp nx ce sl cs k)
  | _ => false
def esg (n : Nat) : Int := if n % 4294967296 < 2147483648 then ((n % 4294967296 : Nat) : Int) else ((n % 4294967296 : Nat) : Int) - 4294967296
/-- each case of a switch over the script's int j: that it is b, b + 1 .. -/
def esw (j : Nat) (cs : eC) (go : Int → eC → Bool) (offs : List Int) : Nat → Bool := List.rec (fun _ => true) (fun off _ ih b => erf .eq j b cs (go off) && ih (b + 1)) offs
def hSwitch (d lo hi : Int) (offs : Array Int) : eHd := fun ih mi pc _ ls st hp nx ce sl cs k => match st with
  | .inl n :: r => if esg n < lo ∨ hi < esg n then eJmp ih mi pc d ls r hp nx ce sl cs k else (match offs.toList[(esg n - lo).toNat]? with
    | some off => eJmp ih mi pc off ls r hp nx ce sl cs k
    | none => false)
  | .inr (.inl j) :: r => bif decide (-2147483648 ≤ lo ∧ lo ≤ hi ∧ hi < 2147483648 ∧ (hi - lo).toNat + 1 = offs.toList.length) then
      (esw j cs (fun off cs => eJmp ih mi pc off ls r hp nx ce sl cs k) offs.toList (lo + 2147483648).toNat
      && (erf .lt j (lo + 2147483648).toNat cs (fun cs => eJmp ih mi pc d ls r hp nx ce sl cs k) && erf .gt j (hi + 2147483648).toNat cs (fun cs => eJmp ih mi pc d ls r hp nx ce sl cs k))) else false
  | v :: r => bif Nat.beq mi.2.2.2.2.2.1 20 && eint v then BK hp nx ce sl cs ls r else false
  | _ => false
def hGet (idx : Nat) : eHd := fun ih mi pc cd ls st hp nx ce sl cs k => match st with
  | .inr (.inr (.inl o)) :: r => (match FL mi.1 idx with
    | some q => (match hg hp o with
      | some (.inl ob) => bif Nat.beq ob.1 q.1 then (match eg ob.2 q.2.1 with
        | some v => ih mi (pc + 3) cd ls (v :: r) hp nx ce sl cs k
        | none => false) else false
      | _ => false)
    | none => false)
  | _ => false
/-- may the value stand in a field of the kind (0: int, 1: boolean, 2: reference, 3: long; 10 more: final; 20 more: final, of another class) -/
def efit (t : Nat) (v : eV) : Bool := match v with
  | .inl n => Nat.beq (t % 10) 0 || (Nat.beq (t % 10) 1 && Nat.ble n 1)
  | .inr (.inl _) => Nat.beq (t % 10) 0
  | .inr (.inr (.inl _)) => Nat.beq (t % 10) 2
  | .inr (.inr (.inr 0)) => Nat.beq (t % 10) 0
  | .inr (.inr (.inr 1)) => Nat.beq (t % 10) 2
  | .inr (.inr (.inr 2)) => Nat.beq (t % 10) 3
  | _ => false
def hPut (idx : Nat) : eHd := fun ih mi pc cd ls st hp nx ce sl cs k => match st with
  | v :: .inr (.inr (.inl o)) :: r => (match FL mi.1 idx with
    | some q => (match hg hp o with
      | some (.inl ob) => bif Nat.beq ob.1 q.1 && (efit q.2.2 v && ((Nat.blt q.2.2 10 || Nat.beq mi.2.2.2.2.2.1 10) && Nat.blt q.2.2 20)) then
          (match eg ob.2 q.2.1 with
          | some _ => es v ob.2 q.2.1 (fun fs => ts 16 (some (.inl (ob.1, fs))) hp o (fun hp => ih mi (pc + 3) cd ls r hp nx ce sl cs k))
          | none => false) else false
      | _ => false)
    | none => false)
  | _ => false
def hNew (idx : Nat) : eHd := fun ih mi pc cd ls st hp nx ce sl cs k => match NW mi.1 idx with
  | some q => bif Nat.ble (ce + 1) mi.2.1 && Nat.ble (sl + q.2.1) mi.2.2.1 then
      ts 16 (some (.inl (q.1, q.2.2))) hp nx (fun hp => ef (nx + 1) (fun nx1 => ef (ce + 1) (fun ce => ef (sl + q.2.1) (fun sl => ih mi (pc + 3) cd ls (.inr (.inr (.inl nx)) :: st) hp nx1 ce sl cs k)))) else false
  | none => false
def hNewa (t : ArrayType) : eHd := fun ih mi pc cd ls st hp nx ce sl cs k => match st with
  | .inl n :: r => bif Nat.ble (ce + 1) mi.2.1 && (Nat.ble (sl + n) mi.2.2.1 && Nat.ble n 100000) then
      (match (match t with
        | .int => (some (.inr (.inl (0, n, er (n / 32 + 1) (er 32 (.inl 0))))) : Option eO)
        | .byte => some (.inr (.inl (1, n, er (n / 32 + 1) (er 32 (.inl 0)))))
        | .boolean => some (.inr (.inl (2, n, er (n / 32 + 1) (er 32 (.inl 0)))))
        | .long => some (.inr (.inr (n, [])))
        | _ => none) with
      | some ob => ts 16 (some ob) hp nx (fun hp => ef (nx + 1) (fun nx1 => ef (ce + 1) (fun ce => ef (sl + n) (fun sl => ih mi (pc + 2) cd ls (.inr (.inr (.inl nx)) :: r) hp nx1 ce sl cs k))))
      | none => false) else false
  | _ => false
def hNewq (idx : Nat) : eHd := fun ih mi pc cd ls st hp nx ce sl cs k => match st with
  | .inl n :: r => (match NA mi.1 idx with
    | some q => bif Nat.ble (ce + 1) mi.2.1 && (Nat.ble (sl + n) mi.2.2.1 && Nat.ble n 100000) then
        ts 16 (some (.inr (.inl (3 + q, n, er (n / 32 + 1) (er 32 eN))))) hp nx (fun hp => ef (nx + 1) (fun nx1 => ef (ce + 1) (fun ce => ef (sl + n) (fun sl => ih mi (pc + 3) cd ls (.inr (.inr (.inl nx)) :: r) hp nx1 ce sl cs k)))) else false
    | none => false)
  | _ => false
def hAlen : eHd := fun ih mi pc cd ls st hp nx ce sl cs k => match st with
  | .inr (.inr (.inl o)) :: r => (match hg hp o with
    | some (.inr (.inl ob)) => ih mi (pc + 1) cd ls (.inl ob.2.1 :: r) hp nx ce sl cs k
    | some (.inr (.inr n)) => ih mi (pc + 1) cd ls (.inl n.1 :: r) hp nx ce sl cs k
    | _ => false)
  | .inr (.inr (.inr (_ + 3))) :: r => bif Nat.beq mi.2.2.2.2.2.1 20 then ih mi (pc + 1) cd ls (.inr (.inl 6) :: r) hp nx ce sl cs k else false
  | _ => false
/-- each place of an array that the script's int j may name, from place i on, n of them -/
def eix (j : Nat) (cs : eC) (go : Nat → eC → Bool) (n : Nat) : Nat → Bool := Nat.rec (fun _ => true) (fun _ ih i => erf .eq j (i + 2147483648) cs (go i) && ih (i + 1)) n
def hAld (kind : Nat → Bool) : eHd := fun ih mi pc cd ls st hp nx ce sl cs k => match st with
  | .inl i :: .inr (.inr (.inl o)) :: r => (match hg hp o with
    | some (.inr (.inl ob)) => bif kind ob.1 && (Nat.blt i ob.2.1 && Nat.ble ob.2.1 100000) then (match tg 32 ob.2.2 i with
      | some v => ih mi (pc + 1) cd ls (v :: r) hp nx ce sl cs k
      | none => false) else false
    | _ => false)
  | .inr (.inl j) :: .inr (.inr (.inl o)) :: r => (match hg hp o with
    | some (.inr (.inl ob)) => bif kind ob.1 && Nat.ble ob.2.1 10000 then
        (erf .lt j 2147483648 cs (fun _ => false) && (erf .ge j (ob.2.1 + 2147483648) cs (fun _ => false)
        && eix j cs (fun i cs => match tg 32 ob.2.2 i with
          | some v => ih mi (pc + 1) cd ls (v :: r) hp nx ce sl cs k
          | none => false) ob.2.1 0)) else false
    | _ => false)
  | .inl i :: .inr (.inr (.inr (_ + 3))) :: r => bif Nat.beq mi.2.2.2.2.2.1 20 && (Nat.blt i 6 && kind 0) then (match eg cs 7 with
    | some q => bif Nat.ble 2147483648 q.1 then evar (.inr (.inl i)) cs (fun v => ih mi (pc + 1) cd ls (v :: r) hp nx ce sl cs k) else false
    | none => false) else false
  | _ => false
def hLald : eHd := fun ih mi pc cd ls st hp nx ce sl cs k => match st with
  | .inl i :: .inr (.inr (.inl o)) :: r => (match hg hp o with
    | some (.inr (.inr n)) => bif Nat.blt i n.1 && Nat.ble n.1 100000 then ih mi (pc + 1) cd ls (eL :: r) hp nx ce sl cs k else false
    | _ => false)
  | _ => false
def hLast : eHd := fun ih mi pc cd ls st hp nx ce sl cs k => match st with
  | v :: .inl i :: .inr (.inr (.inl o)) :: r => (match hg hp o with
    | some (.inr (.inr (n, []))) => bif Nat.beq (ecat v) 2 && (Nat.blt i n && Nat.ble n 100000) then ih mi (pc + 1) cd ls r hp nx ce sl cs k else false
    | _ => false)
  | _ => false
/-- kind 0: ints are kept as they are; bytes and booleans as unknown -/
def hIast (byte : Bool) : eHd := fun ih mi pc cd ls st hp nx ce sl cs k => match st with
  | v :: .inl i :: .inr (.inr (.inl o)) :: r => (match hg hp o with
    | some (.inr (.inl ob)) => bif (bif byte then Nat.beq ob.1 1 || Nat.beq ob.1 2 else Nat.beq ob.1 0) && (eint v && (Nat.blt i ob.2.1 && Nat.ble ob.2.1 100000)) then
        ts 32 (bif byte then eT else v) ob.2.2 i (fun ch => ts 16 (some (.inr (.inl (ob.1, ob.2.1, ch)))) hp o (fun hp => ih mi (pc + 1) cd ls r hp nx ce sl cs k)) else false
    | _ => false)
  | _ => false
def hAast : eHd := fun ih mi pc cd ls st hp nx ce sl cs k => match st with
  | .inr (.inr (.inl q)) :: .inl i :: .inr (.inr (.inl o)) :: r => (match hg hp o with
    | some (.inr (.inl ob)) => (match hg hp q with
      | some (.inl oq) => bif Nat.beq ob.1 (3 + oq.1) && (Nat.blt i ob.2.1 && Nat.ble ob.2.1 100000) then
          ts 32 (.inr (.inr (.inl q))) ob.2.2 i (fun ch => ts 16 (some (.inr (.inl (ob.1, ob.2.1, ch)))) hp o (fun hp => ih mi (pc + 1) cd ls r hp nx ce sl cs k)) else false
      | _ => false)
    | _ => false)
  | _ => false
def hRet (kd : Nat) : eHd := fun _ mi _ _ _ st hp nx ce sl cs k => match st with
  | [v] => bif Nat.ble ce mi.2.1 && Nat.ble sl mi.2.2.1 && (match v with
      | .inl n => Nat.beq kd 1 && (Nat.beq mi.2.2.2.2.2.1 1 || ((Nat.beq mi.2.2.2.2.2.1 2 || Nat.beq mi.2.2.2.2.2.1 20) && Nat.ble n 1))
      | .inr (.inl _) => Nat.beq kd 1 && Nat.beq mi.2.2.2.2.2.1 1
      | .inr (.inr (.inl _)) => Nat.beq kd 4 && Nat.beq mi.2.2.2.2.2.1 4
      | .inr (.inr (.inr 0)) => Nat.beq kd 1 && Nat.beq mi.2.2.2.2.2.1 1
      | _ => false) then k (some v) hp nx cs else false
  | _ => false
def hRetv : eHd := fun _ mi _ _ _ st hp nx ce sl cs k => match st with
  | [] => bif Nat.ble ce mi.2.1 && Nat.ble sl mi.2.2.1 && (Nat.beq mi.2.2.2.2.2.1 0 || Nat.beq mi.2.2.2.2.2.1 10) then k none hp nx cs else false
  | _ => false
def hLdc (len idx : Nat) : eHd := fun ih mi pc cd ls st hp nx ce sl cs k => match KI mi.1 idx with
  | some n => ih mi (pc + len) cd ls (.inl n :: st) hp nx ce sl cs k
  | none => false
/-- the object's class -/
def ecl (hp : eH) (v : eV) : Option Nat := match v with
  | .inr (.inr (.inl o)) => (match hg hp o with
    | some (.inl ob) => some ob.1
    | _ => none)
  | _ => none
def eroom (mi m2 : eM) (maxL ce sl : Nat) (as r : List eV) : Bool := Nat.ble (m2.2.2.2.1 + 1) mi.2.2.2.1 && (Nat.ble (8 + (maxL + 11) + m2.2.2.2.2.1) mi.2.2.2.2.1 && (Nat.ble (ce + m2.2.1) mi.2.1 && (Nat.ble (sl + m2.2.2.1) mi.2.2.1 && (Nat.ble (ecats r) 8 && Nat.ble (ecats as) maxL))))
/-- what the receiver must be: kinds 0, 3: there is none; 1, 4: an object of the method's class; 2, 5: an object, the method a constructor -/
def erecv (kd : Nat) (m2 : eM) (hp : eH) (as : List eV) : Bool := match kd with
  | 0 => bif Nat.ble 10 m2.2.2.2.2.2.1 then false else true
  | 3 => bif Nat.ble 10 m2.2.2.2.2.2.1 then false else true
  | 1 => bif Nat.ble 10 m2.2.2.2.2.2.1 then false else (match as with
    | v :: _ => (match ecl hp v with
      | some c => Nat.beq c m2.1
      | none => false)
    | [] => false)
  | 4 => bif Nat.ble 10 m2.2.2.2.2.2.1 then false else (match as with
    | v :: _ => (match ecl hp v with
      | some c => Nat.beq c m2.1
      | none => false)
    | [] => false)
  | 2 => Nat.beq m2.2.2.2.2.2.1 10 && (match as with
    | v :: _ => eref v
    | [] => false)
  | 5 => Nat.beq m2.2.2.2.2.2.1 10 && (match as with
    | v :: _ => eref v
    | [] => false)
  | _ => false
def eCall (kd mno n : Nat) : eHd := fun ih mi pc cd ls st hp nx ce sl cs k => match MT mno with
  | some q => etake n st [] (fun as r => bif eroom mi q.1 q.2 ce sl as r && erecv kd q.1 hp as then
      ih q.1 0 q.1.2.2.2.2.2.2 (eargs as 0) [] hp nx 0 0 cs (fun ret hp nx cs => ef (ce + q.1.2.1) (fun ce => ef (sl + q.1.2.2.1) (fun sl => match ret with
        | some v => ih mi (pc + 3) cd ls (v :: r) hp nx ce sl cs k
        | none => ih mi (pc + 3) cd ls r hp nx ce sl cs k))) else false)
  | none => false
def eObj : eHd := fun ih mi pc cd ls st hp nx ce sl cs k => match st with
  | v :: r => bif eref v && (Nat.ble 1 mi.2.2.2.1 && Nat.ble (ecats r + 12) mi.2.2.2.2.1) then ih mi (pc + 3) cd ls r hp nx ce sl cs k else false
  | [] => false
def eCopy : eHd := fun ih mi pc cd ls st hp nx ce sl cs k => match st with
  | .inl n :: .inl 0 :: .inr (.inr (.inl b)) :: .inl 0 :: .inr (.inr (.inl a)) :: r => bif Nat.ble 1 mi.2.2.2.1 && (Nat.ble (ecats r + 100) mi.2.2.2.2.1 && Nat.ble n 100000) then
      (match hg hp a with
      | some (.inr (.inl oa)) => (match hg hp b with
        | some (.inr (.inl ob)) => bif Nat.beq oa.1 0 && (Nat.beq ob.1 0 && (Nat.beq oa.2.1 n && Nat.beq ob.2.1 n)) then ts 16 (some (.inr (.inl (0, n, oa.2.2)))) hp b (fun hp => ih mi (pc + 3) cd ls r hp nx ce sl cs k) else false
        | _ => false)
      | some (.inr (.inr na)) => (match hg hp b with
        | some (.inr (.inr (nb, []))) => bif Nat.ble n na.1 && Nat.ble n nb then ih mi (pc + 3) cd ls r hp nx ce sl cs k else false
        | _ => false)
      | _ => false) else false
  | _ => false
def eSpec (sn n : Nat) : eHd := fun ih mi pc cd ls st hp nx ce sl cs k => etake n st [] (fun as r => match SP sn mi hp as with
  | some q => bif Nat.ble (ce + q.2.1) mi.2.1 && (Nat.ble (sl + q.2.2) mi.2.2.1 && Nat.ble (ecats r) 8) then ef (ce + q.2.1) (fun ce => ef (sl + q.2.2) (fun sl => eLst q.1 3 ih mi pc cd ls r hp nx ce sl cs k)) else false
  | none => false)
/-- the law's room(x, p0, p1, out), which throws where the row's isRoom (the method of the table) answers 0 -/
def eThc (mi : eM) (hp : eH) (ce sl : Nat) (as r : List eV) : Bool := match as with
  | [x, p0, p1, o] => (match ecl hp x with
    | some c => Nat.beq c 11
    | none => false) && (eint p0 && (eint p1 && (eref o && (Nat.ble 30 mi.2.2.2.1 && (Nat.ble 500 mi.2.2.2.2.1 && (Nat.ble (ce + 1) mi.2.1 && (Nat.ble (sl + 6) mi.2.2.1 && Nat.ble (ecats r) 8)))))))
  | _ => false
def eThk (ih : eR) (q : eM × Nat) (as : List eV) (hp : eH) (nx : Nat) (cs : eC) (K : eK) : Bool := match as with
  | x :: p0 :: _ => ih q.1 0 q.1.2.2.2.2.2.2 (eargs [x, p0] 0) [] hp nx 0 0 cs (fun ret hp nx cs => match ret with
    | some (.inl 0) => K (some (.inl 1)) hp nx cs
    | _ => false)
  | _ => false
def eThr (mno : Nat) : eHd := fun ih mi pc cd ls st hp nx ce sl cs k => match MT mno with
  | some q => etake 4 st [] (fun as r => bif eThc mi hp ce sl as r then
      eThk ih q as hp nx cs (fun ret hp nx cs => ef (ce + 1) (fun ce => ef (sl + 6) (fun sl => match ret with
        | some v => ih mi (pc + 3) cd ls (v :: r) hp nx ce sl cs k
        | none => ih mi (pc + 3) cd ls r hp nx ce sl cs k))) else false)
  | none => false
/-- op 0: invokestatic, 1: invokevirtual, 2: invokespecial -/
def hCall (op idx : Nat) : eHd := match op with
  | 0 => fun ih mi pc cd ls st hp nx ce sl cs k => (match CL mi.1 idx with
    | some (0, mno, n) => eCall MT 0 mno n ih mi pc cd ls st hp nx ce sl cs k
    | some (3, mno, n) => eCall MT 3 mno n ih mi pc cd ls st hp nx ce sl cs k
    | some (7, _, _) => eCopy ih mi pc cd ls st hp nx ce sl cs k
    | some (8, mno, n) => eSpec SP mno n ih mi pc cd ls st hp nx ce sl cs k
    | some (9, mno, _) => eThr MT mno ih mi pc cd ls st hp nx ce sl cs k
    | _ => false)
  | 1 => fun ih mi pc cd ls st hp nx ce sl cs k => (match CL mi.1 idx with
    | some (1, mno, n) => eCall MT 1 mno n ih mi pc cd ls st hp nx ce sl cs k
    | some (4, mno, n) => eCall MT 4 mno n ih mi pc cd ls st hp nx ce sl cs k
    | _ => false)
  | _ => fun ih mi pc cd ls st hp nx ce sl cs k => (match CL mi.1 idx with
    | some (2, mno, n) => eCall MT 2 mno n ih mi pc cd ls st hp nx ce sl cs k
    | some (5, mno, n) => eCall MT 5 mno n ih mi pc cd ls st hp nx ce sl cs k
    | some (6, _, _) => eObj ih mi pc cd ls st hp nx ce sl cs k
    | _ => false)
def ekI (n : Nat) : Bool := Nat.beq n 0
def ekB (n : Nat) : Bool := Nat.beq n 1 || Nat.beq n 2
def ekR (n : Nat) : Bool := Nat.ble 3 n
/-- the instruction's handler -/
def eD (i : Instr) (len : Nat) : eHd := match i with
  | .iload j => hLoad len j
  | .iload_n j => hLoad len j.val
  | .aload j => hLoadr len j
  | .aload_n j => hLoadr len j.val
  | .istore j => hStore len j false
  | .istore_n j => hStore len j.val false
  | .astore j => hStore len j true
  | .astore_n j => hStore len j.val true
  | .iconst n => hPush len (eun n)
  | .bipush n => hPush len (eun n)
  | .sipush n => hPush len (eun n)
  | .ldc_w idx => hLdc KI len idx
  | .ldc idx => hLdc KI len idx
  | .ldc2_w idx => hLong KL idx
  | .iinc j n => hInc j n
  | .iadd => hBin eadd
  | .isub => hBin esub
  | .imul => hBin (e2 (fun a b => (a * b) % 4294967296))
  | .iand => hBin eand
  | .ior => hBin (e2 (fun a b => Nat.lor a b))
  | .ixor => hBin (e2 (fun a b => Nat.xor a b))
  | .ishl => hBin (e2 (fun a b => (a <<< (b % 32)) % 4294967296))
  | .iushr => hBin (e2 (fun a b => (a % 4294967296) >>> (b % 32)))
  | .ishr => hBin eshr
  | .irem => hBin erem
  | .i2b => hI2b
  | .dup => hDup
  | .dup2 => hDup2
  | .pop => hPop
  | .goto off => hGoto off
  | .ifCond c off => hIf c off
  | .if_icmp c off => hIcmp c off
  | .tableswitch d lo hi offs => hSwitch BK d lo hi offs
  | .getfield idx => hGet FL idx
  | .putfield idx => hPut FL idx
  | .new idx => hNew NW idx
  | .newarray t => hNewa t
  | .anewarray idx => hNewq NA idx
  | .arraylength => hAlen
  | .iaload => hAld ekI
  | .baload => hAld ekB
  | .aaload => hAld ekR
  | .laload => hLald
  | .lastore => hLast
  | .iastore => hIast false
  | .bastore => hIast true
  | .aastore => hAast
  | .ireturn => hRet 1
  | .areturn => hRet 4
  | .return_ => hRetv
  | .invokestatic idx => hCall CL MT SP 0 idx
  | .invokevirtual idx => hCall CL MT SP 1 idx
  | .invokespecial idx => hCall CL MT SP 2 idx
  | _ => hBad
def eRun (n : Nat) : eR := Nat.rec (fun _ _ _ _ _ _ _ _ _ _ _ => false) (fun _ ih mi pc cd ls st hp nx ce sl cs k => match cd with
  | q :: r => bif Nat.beq q.1 pc then eD FL CL MT NW NA KI KL SP BK q.2.1 q.2.2 ih mi q.1 r ls st hp nx ce sl cs k else false
  | [] => false) n
end EW
end
