noncomputable section
/-! THE CHECKER, on: stops and certificates. -/
def arcp (A : aA) (pb : Nat) (pc : Int) (v : aV) : Bool := match v with
  | .inl x => bif Nat.beq pb 0 then ile pc iMin else age A pb pc 40 x.1 x.2
  | _ => true
def arc (A : aA) (R : aR) (v : aV) : Bool := match R with
  | .inl w => aveq v w
  | .inr q => afit A q.1 v && arcp A q.2.1 q.2.2 v
def arcl (A : aA) (ls : List (Nat × aV)) (L : List (Nat × aR)) : Bool := List.rec true (fun q _ ih => match al ls q.1 with
  | some v => arc A q.2 v && ih
  | none => false) L
def arcs (A : aA) (L : List aR) : List aV → Bool := List.rec (fun st => match st with
  | [] => true
  | _ :: _ => false) (fun R _ ih st => match st with
  | v :: r => arc A R v && ih r
  | [] => false) L
/-- .. where nothing is known of the field but its kind -/
def arcg (w : Int × Int) (f : aF) (pb : Nat) (pc : Int) : Bool := match f with
  | .inl u => ile u.1 w.1 && (ile w.2 u.2 && (Nat.beq pb 0 && ile pc iMin))
  | _ => false
def arcf (ST : Nat → Option aS) (t f : Nat) (R : aR) : Bool := match R with
  | .inl _ => false
  | .inr q => (match ST t with
    | some (.inl ob) => (match eg ob.2 f with
      | some (.inl w) => arcg w q.1 q.2.1 q.2.2
      | _ => false)
    | _ => false)
def arcc (ST : Nat → Option aS) (A : aA) (L : List (Nat × Nat × Nat × aR)) : Bool := List.rec true (fun q _ ih => (match amf A.2.2.2.2 q.1 (0, Int.ofNat q.2.2.1) with
  | some v => arc A q.2.2.2 v
  | none => arcf ST q.2.1 q.2.2.1 q.2.2.2) && ih) L
/-- what was known at the opening and was kept is still known -/
def arck (hm hm0 : List aE) : Bool := List.rec true (fun e _ ih => match amf hm e.1 e.2.2.1 with
  | some v => aveq v e.2.2.2 && ih
  | none => false) hm0
def aat (ls : List (Nat × aV)) (hm : List aE) (w : Nat ⊕ (Nat × Nat)) : Option aV := match w with
  | .inl j => al ls j
  | .inr q => amf hm q.1 (0, Int.ofNat q.2)
def ark (A : aA) (ls : List (Nat × aV)) (rk : Option (Bool × (Nat × Int) × (Nat ⊕ (Nat × Nat)))) : Bool := match rk with
  | none => true
  | some q => (match aat ls A.2.2.2.2 q.2.2 with
    | some (.inl x) => bif q.1 then age A q.2.1.1 (q.2.1.2 + 1) 40 x.1 x.2 else Nat.beq x.1 q.2.1.1 && ile (x.2 + 1) q.2.1.2
    | _ => false)
def achk (ST : Nat → Option aS) (T : aT) (ls : List (Nat × aV)) (st : List aV) (A : aA) (ac as : Nat) : Bool := match T with
  | (_, rm, A0, L, S, C, rk) => (Nat.beq ac rm.1 && Nat.beq as rm.2) && (arck A.2.2.2.2 A0.2.2.2.2 && (arcl A ls L && (arcs A S st && (arcc ST A C && ark A ls rk))))
/-- the state behind a stop -/
def amkL (L : List (Nat × aR)) : aA → List (Nat × aV) → (List (Nat × aV) → aA → Bool) → Bool := List.rec (fun A acc k => k acc A) (fun q _ ih A acc k => match q.2 with
  | .inl w => ih A ((q.1, w) :: acc) k
  | .inr w => afr A w.1 w.2.1 w.2.2 (fun v A => ih A ((q.1, v) :: acc) k)) L
def amkS (L : List aR) : aA → (List aV → aA → Bool) → Bool := List.rec (fun A k => k [] A) (fun R _ ih A k => match R with
  | .inl w => ih A (fun st A => k (w :: st) A)
  | .inr w => afr A w.1 w.2.1 w.2.2 (fun v A => ih A (fun st A => k (v :: st) A))) L
def amkC (L : List (Nat × Nat × Nat × aR)) : aA → (aA → Bool) → Bool := List.rec (fun A k => k A) (fun q _ ih A k => match q.2.2.2 with
  | .inl w => aput A (q.1, q.2.1, (0, Int.ofNat q.2.2.1), w) (fun A => ih A k)
  | .inr w => afr A w.1 w.2.1 w.2.2 (fun v A => aput A (q.1, q.2.1, (0, Int.ofNat q.2.2.1), v) (fun A => ih A k))) L
/-- a certificate's words, made out at its opening -/
def ares (q : aQ) (ov : Option aV) (k : aR → Bool) : Bool := match q with
  | .inl _ => (match ov with
    | some v => k (.inl v)
    | none => false)
  | .inr (f, none) => k (.inr (f, 0, iMin))
  | .inr (f, some d) => (match ov with
    | some (.inl x) => (match x.1 with
      | 0 => k (.inr (f, 0, iMin))
      | _ + 1 => efI (x.2 + d) (fun c => k (.inr (f, x.1, c))))
    | _ => false)
def aresL (ls : List (Nat × aV)) (Q : List (Nat × aQ)) : (List (Nat × aR) → Bool) → Bool := List.rec (fun k => k []) (fun q _ ih k => ares q.2 (al ls q.1) (fun R => ih (fun L => k ((q.1, R) :: L)))) Q
def aresS (st : List aV) (Q : List aQ) : (List aR → Bool) → Bool := List.rec (fun k => k []) (fun q _ ih k => ares q (match q with
  | .inl m => eg st m
  | .inr _ => none) (fun R => ih (fun L => k (R :: L)))) Q
def aresC (ls : List (Nat × aV)) (A : aA) (Q : List (Nat × Nat × aQ)) : (List (Nat × Nat × Nat × aR) → Bool) → Bool := List.rec (fun k => k []) (fun q _ ih k => match al ls q.1 with
  | some (.inr (.inl r)) => (match asrt A r with
    | some t => ares q.2.2 (amf A.2.2.2.2 r (0, Int.ofNat q.2.1)) (fun R => ih (fun L => k ((r, t, q.2.1, R) :: L)))
    | none => false)
  | _ => false) Q
def aloc (ls : List (Nat × aV)) (w : Nat ⊕ (Nat × Nat)) : Option (Nat ⊕ (Nat × Nat)) := match w with
  | .inl j => some (.inl j)
  | .inr q => (match al ls q.1 with
    | some (.inr (.inl r)) => some (.inr (r, q.2))
    | _ => none)
def axf (xt : aXt) (pc : Nat) : List aX := List.rec [] (fun q _ ih => bif Nat.beq q.1 pc then q.2 else ih) xt
def asf (sp : List aT) (pc : Nat) : Option aT := List.rec none (fun T _ ih => bif Nat.beq T.1 pc then some T else ih) sp
/-- a value's cases -/
def acas (x : Nat × Int) (A : aA) (go : aA → Bool) (n : Nat) : Int → Bool := Nat.rec (fun _ => true) (fun _ ih b => abt x b b A go && efI (b + 1) ih) n
/-- a row of a book: its columns known, box by box -/
def ajix (A : aA) (m o : Nat) (x : Nat × Int) (k : Nat × Int → Bool) : Bool := match m with
  | 0 => false
  | 1 => efI (x.2 + Int.ofNat o) (fun c => k (x.1, c))
  | m + 2 => bif ieq x.2 0 then (match afd x.1 (m + 2) A.2.1 A.1 with
    | some s => ef s (fun s => k (s, Int.ofNat o))
    | none => false) else false
/-- one column -/
def ajc1 (ST : Nat → Option aS) (ra t m o : Nat) (x : Nat × Int) (w : Int × Int) (A : aA) (k : aA → Bool) : Bool := match ST t with
  | some (.inr ob) => ajix A m o x (fun ix => abd A ix (fun lo hi => bif (ile 0 lo && ile (hi + 1) (Int.ofNat ob.2.1)) && irg w.1 w.2 then anew A w.1 w.2 0 iMin (fun v A => aput A (ra, t, ix, v) k) else false))
  | _ => false
def ajcr (ST : Nat → Option aS) (rb tb : Nat) (x : Nat × Int) (cs : List (Nat × Nat × Nat × Nat)) : List (Int × Int) → aA → (aA → Bool) → Bool := List.rec (fun bx A k => match bx with
  | [] => k A
  | _ :: _ => false) (fun q _ ih bx A k => match bx with
  | w :: r => (match amf A.2.2.2.2 rb (0, Int.ofNat q.1) with
    | some (.inr (.inl ra)) => ajc1 ST ra q.2.1 q.2.2.1 q.2.2.2 x w A (fun A => ih r A k)
    | some _ => false
    | none => anewr A q.2.1 (fun v A => aput A (rb, tb, (0, Int.ofNat q.1), v) (fun A => match v with
      | .inr (.inl ra) => ajc1 ST ra q.2.1 q.2.2.1 q.2.2.2 x w A (fun A => ih r A k)
      | _ => false)))
  | [] => false) cs
def ajrd (ST : Nat → Option aS) (J : aJ) (x : Nat × Int) (A : aA) (go : aA → Bool) : Bool := match amfs A.2.2.2.2 J.1 (0, Int.ofNat J.2.1) with
  | some (rb, .inl y) => bif age A x.1 (x.2 + 1) 40 y.1 y.2 && abd A x (fun lo _ => ile 0 lo) then List.rec true (fun b _ ih => ajcr ST rb J.1 x J.2.2.1 b A go && ih) J.2.2.2 else false
  | _ => false
def aopL (ST : Nat → Option aS) (JL : List aJ) (ih : aRn) (mi : eM) (xt : aXt) (pc : Nat) (c : aX) (go : List (Nat × aV) → List aV → aA → List aT → Bool) (ls : List (Nat × aV)) (st : List aV) (A : aA) (ac as : Nat) (sp : List aT) (k : aK) : Bool := match c with
  | ((2, _), _, _, _, _, some w) => (match aloc ls w.2 with
    | some loc => (match aat ls A.2.2.2.2 loc with
      | some (.inl x) => abd A x (fun lo hi => acas x A (fun A => go ls st A sp) (hi + 1 - lo).toNat lo)
      | _ => false)
    | none => false)
  | ((kd + 3, j), _) => (match eg JL kd, al ls j with
    | some J, some (.inl x) => ajrd ST J x A (fun A => go ls st A sp)
    | _, _ => false)
  | ((kd, t), QL, QS, dr, QC, rk) => afor A dr (fun A0 => aresL ls QL (fun L => aresS st QS (fun S => aresC ls A QC (fun C => match kd with
    | 0 => achk ST (pc, (ac, as), A0, L, S, C, none) ls st A ac as && amkL L A0 [] (fun ls2 A2 => amkS S A2 (fun st2 A3 => amkC C A3 (fun A4 => match rk with
      | some w => (match aloc ls w.2 with
        | some loc => (match aat ls2 A4.2.2.2.2 loc with
          | some (.inl x) => go ls2 st2 A4 ((pc, (ac, as), A0, L, S, C, some (w.1, x, loc)) :: sp)
          | _ => false)
        | none => false)
      | none => false)))
    | _ => go ls st A ((t, (ac, as), A0, L, S, C, none) :: sp) && amkL L A0 [] (fun ls2 A2 => amkS S A2 (fun st2 A3 => amkC C A3 (fun A4 => match ej mi.2.2.2.2.2.2 t with
      | some cd => ih mi xt t cd ls2 st2 A4 ac as sp k
      | none => false)))))))
def aopn (ST : Nat → Option aS) (JL : List aJ) (ih : aRn) (mi : eM) (xt : aXt) (pc : Nat) (ex : List (Nat × aV) → List aV → aA → List aT → Bool) (ac as : Nat) (k : aK) (cs : List aX) : List (Nat × aV) → List aV → aA → List aT → Bool := List.rec (fun ls st A sp => ex ls st A sp) (fun c _ go ls st A sp => aopL ST JL ih mi xt pc c go ls st A ac as sp k) cs
section AW
variable (FL : eFL) (CL : eFL) (MT : Nat → Option (eM × Nat)) (XT : Nat → aXt) (KI : Nat → Nat → Option Nat) (KL : Nat → Nat → Option Nat) (ST : Nat → Option aS) (CT : Nat → List aCon) (JL : List aJ) (md : aMd)
def kBad : aHd := fun _ _ _ _ _ _ _ _ _ _ _ _ => false
def kLoad (len j : Nat) : aHd := fun ih mi xt pc cd ls st A ac as sp k => match al ls j with
  | some (.inl x) => ih mi xt (pc + len) cd ls (.inl x :: st) A ac as sp k
  | _ => false
def kLoadr (len j : Nat) : aHd := fun ih mi xt pc cd ls st A ac as sp k => match al ls j with
  | some (.inr (.inl r)) => ih mi xt (pc + len) cd ls (.inr (.inl r) :: st) A ac as sp k
  | some (.inr (.inr 1)) => ih mi xt (pc + len) cd ls (.inr (.inr 1) :: st) A ac as sp k
  | _ => false
def kLloa (j : Nat) : aHd := fun ih mi xt pc cd ls st A ac as sp k => match al ls j with
  | some (.inr (.inr 0)) => ih mi xt (pc + 1) cd ls (.inr (.inr 0) :: st) A ac as sp k
  | _ => false
def kStor (len j : Nat) (ref : Bool) : aHd := fun ih mi xt pc cd ls st A ac as sp k => match st with
  | .inl x :: r => bif ref then false else alf (alp j) ls (fun t => ih mi xt (pc + len) cd ((j, .inl x) :: t) r A ac as sp k)
  | .inr (.inl x) :: r => bif ref then alf (alp j) ls (fun t => ih mi xt (pc + len) cd ((j, .inr (.inl x)) :: t) r A ac as sp k) else false
  | _ => false
def kLsto (j : Nat) : aHd := fun ih mi xt pc cd ls st A ac as sp k => match st with
  | .inr (.inr 0) :: r => alf (alp2 j) ls (fun t => ih mi xt (pc + 1) cd ((j, .inr (.inr 0)) :: t) r A ac as sp k)
  | _ => false
def kPush (len : Nat) (n : Int) : aHd := fun ih mi xt pc cd ls st A ac as sp k => bif irg n n then ih mi xt (pc + len) cd ls (.inl (0, n) :: st) A ac as sp k else false
def kLcon : aHd := fun ih mi xt pc cd ls st A ac as sp k => ih mi xt (pc + 1) cd ls (.inr (.inr 0) :: st) A ac as sp k
def kLong (idx : Nat) : aHd := fun ih mi xt pc cd ls st A ac as sp k => match KL mi.1 idx with
  | some _ => ih mi xt (pc + 3) cd ls (.inr (.inr 0) :: st) A ac as sp k
  | none => false
def kLdc (len idx : Nat) : aHd := fun ih mi xt pc cd ls st A ac as sp k => match KI mi.1 idx with
  | some n => ih mi xt (pc + len) cd ls (.inl (0, esg n) :: st) A ac as sp k
  | none => false
def kInc (j : Nat) (n : Int) : aHd := fun ih mi xt pc cd ls st A ac as sp k => match al ls j with
  | some (.inl x) => bif irg n n then aadd A x (0, n) (fun v A => alf (alp j) ls (fun t => ih mi xt (pc + 3) cd ((j, v) :: t) st A ac as sp k)) else false
  | _ => false
def kBin (f : aO) : aHd := fun ih mi xt pc cd ls st A ac as sp k => match st with
  | .inl y :: .inl x :: r => f A x y (fun v A => ih mi xt (pc + 1) cd ls (v :: r) A ac as sp k)
  | _ => false
def kI2b : aHd := fun ih mi xt pc cd ls st A ac as sp k => match st with
  | .inl _ :: r => anew A (Int.negSucc 127) (Int.ofNat 127) 0 (Int.negSucc 127) (fun v A => ih mi xt (pc + 1) cd ls (v :: r) A ac as sp k)
  | _ => false
def kI2l : aHd := fun ih mi xt pc cd ls st A ac as sp k => match st with
  | .inl _ :: r => ih mi xt (pc + 1) cd ls (.inr (.inr 0) :: r) A ac as sp k
  | _ => false
def kLbin : aHd := fun ih mi xt pc cd ls st A ac as sp k => match st with
  | .inr (.inr 0) :: .inr (.inr 0) :: r => ih mi xt (pc + 1) cd ls (.inr (.inr 0) :: r) A ac as sp k
  | _ => false
def kLshl : aHd := fun ih mi xt pc cd ls st A ac as sp k => match st with
  | .inl _ :: .inr (.inr 0) :: r => ih mi xt (pc + 1) cd ls (.inr (.inr 0) :: r) A ac as sp k
  | _ => false
def kLcmp : aHd := fun ih mi xt pc cd ls st A ac as sp k => match st with
  | .inr (.inr 0) :: .inr (.inr 0) :: r => aany A (fun v A => ih mi xt (pc + 1) cd ls (v :: r) A ac as sp k)
  | _ => false
def kDup : aHd := fun ih mi xt pc cd ls st A ac as sp k => match st with
  | x :: r => bif Nat.beq (acat x) 1 then ih mi xt (pc + 1) cd ls (x :: x :: r) A ac as sp k else false
  | _ => false
def kDup2 : aHd := fun ih mi xt pc cd ls st A ac as sp k => match st with
  | y :: x :: r => bif Nat.beq (acat y) 1 && Nat.beq (acat x) 1 then ih mi xt (pc + 1) cd ls (y :: x :: y :: x :: r) A ac as sp k else false
  | _ => false
def kDupx : aHd := fun ih mi xt pc cd ls st A ac as sp k => match st with
  | y :: x :: r => bif Nat.beq (acat y) 1 && Nat.beq (acat x) 1 then ih mi xt (pc + 1) cd ls (y :: x :: y :: r) A ac as sp k else false
  | _ => false
def kPop : aHd := fun ih mi xt pc cd ls st A ac as sp k => match st with
  | x :: r => bif Nat.beq (acat x) 1 then ih mi xt (pc + 1) cd ls r A ac as sp k else false
  | _ => false
def aJmp (ih : aRn) (mi : eM) (xt : aXt) (pc : Nat) (off : Int) (ls : List (Nat × aV)) (st : List aV) (A : aA) (ac as : Nat) (sp : List aT) (k : aK) : Bool := match (pc : Int) + off with
  | .ofNat t => (match ej mi.2.2.2.2.2.2 t with
    | some cd => ef t (fun t => ih mi xt t cd ls st A ac as sp k)
    | none => false)
  | .negSucc _ => false
def kGoto (off : Int) : aHd := fun ih mi xt pc _ ls st A ac as sp k => aJmp ih mi xt pc off ls st A ac as sp k
def kIf (c : ClassFile.Cond) (off : Int) : aHd := fun ih mi xt pc cd ls st A ac as sp k => match st with
  | .inl x :: r => acmp c x (0, 0) A (fun A => aJmp ih mi xt pc off ls r A ac as sp k) (fun A => ih mi xt (pc + 3) cd ls r A ac as sp k)
  | _ => false
def kIcmp (c : ClassFile.Cond) (off : Int) : aHd := fun ih mi xt pc cd ls st A ac as sp k => match st with
  | .inl y :: .inl x :: r => acmp c x y A (fun A => aJmp ih mi xt pc off ls r A ac as sp k) (fun A => ih mi xt (pc + 3) cd ls r A ac as sp k)
  | _ => false
/-- each case of a switch: that it is b, b + 1 .. -/
def aswi (x : Nat × Int) (A : aA) (go : Int → aA → Bool) (offs : List Int) : Int → Bool := List.rec (fun _ => true) (fun off _ ih b => abt x b b A (go off) && efI (b + 1) ih) offs
def kSwit (d lo hi : Int) (offs : Array Int) : aHd := fun ih mi xt pc _ ls st A ac as sp k => match st with
  | .inl x :: r => bif ieq (lo + Int.ofNat offs.toList.length) (hi + 1) then
      aswi x A (fun off A => aJmp ih mi xt pc off ls r A ac as sp k) offs.toList lo && (abt x iMin (lo - 1) A (fun A => aJmp ih mi xt pc d ls r A ac as sp k) && abt x (hi + 1) iMax A (fun A => aJmp ih mi xt pc d ls r A ac as sp k)) else false
  | _ => false
def kGet (idx : Nat) : aHd := fun ih mi xt pc cd ls st A ac as sp k => match st with
  | .inr (.inl r) :: rest => (match FL mi.1 idx with
    | some q => (match asrt A r with
      | some t => (match ST t with
        | some (.inl ob) => bif Nat.beq ob.1 q.1 then (match eg ob.2 q.2.1 with
          | some f => (match amf A.2.2.2.2 r (0, Int.ofNat q.2.1) with
            | some v => ih mi xt (pc + 3) cd ls (v :: rest) A ac as sp k
            | none => afr A f 0 iMin (fun v A => aput A (r, t, (0, Int.ofNat q.2.1), v) (fun A => ih mi xt (pc + 3) cd ls (v :: rest) A ac as sp k)))
          | none => false) else false
        | _ => false)
      | none => false)
    | none => false)
  | _ => false
def apfit (A : aA) (ty : Nat) (f : aF) (v : aV) : Bool := afit A f v && (match v with
  | .inl x => Nat.beq (ty % 10) 0 || (Nat.beq (ty % 10) 1 && abd A x (fun lo hi => ile 0 lo && ile hi 1))
  | .inr (.inr 0) => Nat.beq (ty % 10) 3
  | _ => false)
def kPut (idx : Nat) : aHd := fun ih mi xt pc cd ls st A ac as sp k => match st with
  | v :: .inr (.inl r) :: rest => (match FL mi.1 idx with
    | some q => (match asrt A r with
      | some t => (match ST t with
        | some (.inl ob) => bif Nat.beq ob.1 q.1 && (Nat.blt q.2.2 10 && amdk md t (Int.ofNat q.2.1) (Int.ofNat q.2.1)) then (match eg ob.2 q.2.1 with
          | some f => bif apfit A q.2.2 f v && ajp A t q.2.1 v JL then awr A t (0, Int.ofNat q.2.1) (fun A => aput A (r, t, (0, Int.ofNat q.2.1), v) (fun A => ih mi xt (pc + 3) cd ls rest A ac as sp k)) else false
          | none => false) else false
        | _ => false)
      | none => false)
    | none => false)
  | _ => false
def kAlen : aHd := fun ih mi xt pc cd ls st A ac as sp k => match st with
  | .inr (.inl r) :: rest => (match asrt A r with
    | some t => (match ST t with
      | some (.inr ob) => bif Nat.ble ob.2.1 100000 then ih mi xt (pc + 1) cd ls (.inl (0, Int.ofNat ob.2.1) :: rest) A ac as sp k else false
      | _ => false)
    | none => false)
  | .inr (.inr 1) :: rest => bif Nat.beq mi.2.2.2.2.2.1 20 then ih mi xt (pc + 1) cd ls (.inl (1, 0) :: rest) A ac as sp k else false
  | _ => false
/-- ints, bytes, booleans -/
def kAld (kind : Nat → Bool) : aHd := fun ih mi xt pc cd ls st A ac as sp k => match st with
  | .inl x :: .inr (.inl r) :: rest => (match asrt A r with
    | some t => (match ST t with
      | some (.inr ob) => bif kind ob.1 then abd A x (fun lo hi => bif ile 0 lo && ile (hi + 1) (Int.ofNat ob.2.1) then
          (match amf A.2.2.2.2 r x with
          | some v => ih mi xt (pc + 1) cd ls (v :: rest) A ac as sp k
          | none => (match argj lo hi ob.2.2.1 0 with
            | some w => bif irg w.1 w.2 then anew A w.1 w.2 0 w.1 (fun v A => aput A (r, t, x, v) (fun A => ih mi xt (pc + 1) cd ls (v :: rest) A ac as sp k)) else false
            | none => false)) else false) else false
      | _ => false)
    | none => false)
  | .inl x :: .inr (.inr 1) :: rest => bif Nat.beq mi.2.2.2.2.2.1 20 && (kind 0 && (Nat.beq x.1 2 && (ile 0 x.2 && (ile x.2 5 && age A 2 (x.2 + 1) 40 1 0)))) then abd A x (fun lo _ => bif ile 0 lo then ih mi xt (pc + 1) cd ls (.inl (3 + x.2.toNat, 0) :: rest) A ac as sp k else false) else false
  | _ => false
def kAald : aHd := fun ih mi xt pc cd ls st A ac as sp k => match st with
  | .inl x :: .inr (.inl r) :: rest => (match asrt A r with
    | some t => (match ST t with
      | some (.inr ob) => bif Nat.beq ob.1 4 then abd A x (fun lo hi => bif ile 0 lo && ile (hi + 1) (Int.ofNat ob.2.1) then anewr A ob.2.2.2 (fun v A => ih mi xt (pc + 1) cd ls (v :: rest) A ac as sp k) else false) else false
      | _ => false)
    | none => false)
  | _ => false
def kLald : aHd := fun ih mi xt pc cd ls st A ac as sp k => match st with
  | .inl x :: .inr (.inl r) :: rest => (match asrt A r with
    | some t => (match ST t with
      | some (.inr ob) => bif Nat.beq ob.1 3 then abd A x (fun lo hi => bif ile 0 lo && ile (hi + 1) (Int.ofNat ob.2.1) then ih mi xt (pc + 1) cd ls (.inr (.inr 0) :: rest) A ac as sp k else false) else false
      | _ => false)
    | none => false)
  | _ => false
def kIast : aHd := fun ih mi xt pc cd ls st A ac as sp k => match st with
  | .inl v :: .inl x :: .inr (.inl r) :: rest => (match asrt A r with
    | some t => (match ST t with
      | some (.inr ob) => bif Nat.beq ob.1 0 then abd A x (fun lo hi => bif (ile 0 lo && ile (hi + 1) (Int.ofNat ob.2.1)) && (amdk md t lo hi && ((axw A r t x v lo hi && ajw A t x JL) && abd A v (fun l2 h2 => argw lo hi l2 h2 ob.2.2.1))) then
          awr A t x (fun A => aput A (r, t, x, .inl v) (fun A => ih mi xt (pc + 1) cd ls rest A ac as sp k)) else false) else false
      | _ => false)
    | none => false)
  | _ => false
/-- bytes (nothing is known of what was written), booleans (0 and 1 alone are written) -/
def kBast : aHd := fun ih mi xt pc cd ls st A ac as sp k => match st with
  | .inl v :: .inl x :: .inr (.inl r) :: rest => (match asrt A r with
    | some t => (match ST t with
      | some (.inr ob) => abd A x (fun lo hi => bif (ile 0 lo && ile (hi + 1) (Int.ofNat ob.2.1)) && amdk md t lo hi then
          (match ob.1 with
          | 1 => bif xfree t && argw lo hi (Int.negSucc 127) (Int.ofNat 127) ob.2.2.1 then awr A t x (fun A => ih mi xt (pc + 1) cd ls rest A ac as sp k) else false
          | 2 => bif abd A v (fun l2 h2 => (ile 0 l2 && ile h2 1) && (xfree t && argw lo hi l2 h2 ob.2.2.1)) then awr A t x (fun A => aput A (r, t, x, .inl v) (fun A => ih mi xt (pc + 1) cd ls rest A ac as sp k)) else false
          | _ => false) else false)
      | _ => false)
    | none => false)
  | _ => false
def kLast : aHd := fun ih mi xt pc cd ls st A ac as sp k => match st with
  | .inr (.inr 0) :: .inl x :: .inr (.inl r) :: rest => (match asrt A r with
    | some t => (match ST t with
      | some (.inr ob) => bif Nat.beq ob.1 3 then abd A x (fun lo hi => bif (ile 0 lo && ile (hi + 1) (Int.ofNat ob.2.1)) && amdk md t lo hi then awr A t x (fun A => ih mi xt (pc + 1) cd ls rest A ac as sp k) else false) else false
      | _ => false)
    | none => false)
  | _ => false
def kRet : aHd := fun _ mi _ _ _ _ st A ac as _ k => match st with
  | [.inl x] => bif (Nat.beq ac 0 && Nat.beq as 0) && (Nat.beq mi.2.2.2.2.2.1 1 || ((Nat.beq mi.2.2.2.2.2.1 2 || Nat.beq mi.2.2.2.2.2.1 20) && abd A x (fun lo hi => ile 0 lo && ile hi 1))) then k (some (.inl x)) A else false
  | _ => false
def kRetr : aHd := fun _ mi _ _ _ _ st A ac as _ k => match st with
  | [.inr (.inl r)] => bif (Nat.beq ac 0 && Nat.beq as 0) && Nat.beq mi.2.2.2.2.2.1 4 then k (some (.inr (.inl r))) A else false
  | _ => false
def kRetl : aHd := fun _ mi _ _ _ _ st A ac as _ k => match st with
  | [.inr (.inr 0)] => bif (Nat.beq ac 0 && Nat.beq as 0) && Nat.beq mi.2.2.2.2.2.1 3 then k (some (.inr (.inr 0))) A else false
  | _ => false
def kRetv : aHd := fun _ mi _ _ _ _ st A ac as _ k => match st with
  | [] => bif (Nat.beq ac 0 && Nat.beq as 0) && Nat.beq mi.2.2.2.2.2.1 0 then k none A else false
  | _ => false
def acpc (mi : eM) : Nat := bif Nat.beq mi.2.2.2.2.2.1 20 then 1 else 0
def aroom (mi m2 : eM) (maxL ac as : Nat) (vs r : List aV) : Bool := Nat.ble (m2.2.2.2.1 + 1) mi.2.2.2.1 && (Nat.ble (8 + (maxL + 11) + m2.2.2.2.2.1) mi.2.2.2.2.1 && (Nat.ble (ac + m2.2.1) (acpc mi) && (Nat.ble (as + m2.2.2.1) (6 * acpc mi) && (Nat.ble (acats r) 8 && Nat.ble (acats vs) maxL))))
def arecv (kd : Nat) (m2 : eM) (A : aA) (vs : List aV) : Bool := bif Nat.beq kd 0 || Nat.beq kd 3 then true else (match vs with
  | .inr (.inl r) :: _ => (match asrt A r with
    | some t => (match ST t with
      | some (.inl ob) => Nat.beq ob.1 m2.1
      | _ => false)
    | none => false)
  | _ => false)
def afits (A : aA) (Q : List aF) : List aV → Bool := List.rec (fun vs => match vs with
  | [] => true
  | _ :: _ => false) (fun f _ ih vs => match vs with
  | v :: r => afit A f v && ih r
  | [] => false) Q
def amds (mods : aMd) : Bool := List.rec true (fun q _ ih => amdk md q.1 (Int.ofNat q.2.1) (Int.ofNat q.2.2 - 1) && ih) mods
/-- the fields that a contract reads ahead -/
def aold (vs : List aV) (Q : List (Nat × Nat)) : aA → List (Nat × Nat × Nat × aV) → (List (Nat × Nat × Nat × aV) → aA → Bool) → Bool := List.rec (fun A acc k => k acc A) (fun q _ ih A acc k => match eg vs q.1 with
  | some (.inr (.inl r)) => (match asrt A r with
    | some t => (match ST t with
      | some (.inl ob) => (match eg ob.2 q.2 with
        | some (.inl w) => (match amf A.2.2.2.2 r (0, Int.ofNat q.2) with
          | some v => ih A ((r, t, q.2, v) :: acc) k
          | none => afr A (.inl w) 0 iMin (fun v A => aput A (r, t, (0, Int.ofNat q.2), v) (fun A => ih A ((r, t, q.2, v) :: acc) k)))
        | _ => false)
      | _ => false)
    | none => false)
  | _ => false) Q
def afct (olds : List (Nat × Nat × Nat × aV)) (Q : List (Nat × Int × Int × Option Int)) : aA → (aA → Bool) → Bool := List.rec (fun A k => k A) (fun q _ ih A k => match eg olds q.1 with
  | some (r, t, f, .inl x) => (match q.2.2.2, x.1 with
    | some d, _ + 1 => efI (x.2 + d) (fun c => afr A (.inl (q.2.1, q.2.2.1)) x.1 c (fun v A => aput A (r, t, (0, Int.ofNat f), v) (fun A => ih A k)))
    | _, _ => afr A (.inl (q.2.1, q.2.2.1)) 0 iMin (fun v A => aput A (r, t, (0, Int.ofNat f), v) (fun A => ih A k)))
  | _ => false) Q
def aalt (nx : Option aV → aA → Bool) (olds : List (Nat × Nat × Nat × aV)) (A : aA) (Q : List (Option aF × List (Nat × Int × Int × Option Int))) : Bool := List.rec true (fun q _ ih => afct olds q.2 A (fun A => match q.1 with
  | some f => afr A f 0 iMin (fun v A => nx (some v) A)
  | none => nx none A) && ih) Q
def acon (nx : Option aV → aA → Bool) (vs : List aV) (A : aA) (C : List aCon) : Bool := List.rec false (fun c _ ih => bif afits A c.1 vs then aold ST vs c.2.1 A [] (fun olds A => bif amds md c.2.2.2 then afor A c.2.2.2 (fun A => aalt nx olds A c.2.2.1) else false) else ih) C
def acall (kd mno n : Nat) : aHd := fun ih mi xt pc cd ls st A ac as sp k => match MT mno with
  | some q => atake n st [] (fun vs r => bif aroom mi q.1 q.2 ac as vs r && arecv ST kd q.1 A vs then
      (match CT mno with
      | [] => bif Nat.beq q.1.2.1 0 && Nat.beq q.1.2.2.1 0 then ih q.1 (XT mno) 0 q.1.2.2.2.2.2.2 (aargs vs 0) [] A 0 0 [] (fun ret A => match ret with
        | some v => ih mi xt (pc + 3) cd ls (v :: r) A ac as sp k
        | none => ih mi xt (pc + 3) cd ls r A ac as sp k) else false
      | c :: t => ef (ac + q.1.2.1) (fun ac => ef (as + q.1.2.2.1) (fun as => acon ST md (fun ret A => match ret with
        | some v => ih mi xt (pc + 3) cd ls (v :: r) A ac as sp k
        | none => ih mi xt (pc + 3) cd ls r A ac as sp k) vs A (c :: t)))) else false)
  | none => false
/-- System.arraycopy(a, 0, b, 0, n) -/
def acopy : aHd := fun ih mi xt pc cd ls st A ac as sp k => match st with
  | .inl x :: .inl y :: .inr (.inl b) :: .inl z :: .inr (.inl a) :: r => bif (Nat.beq y.1 0 && (ieq y.2 0 && (Nat.beq z.1 0 && ieq z.2 0))) && (Nat.ble 1 mi.2.2.2.1 && Nat.ble (acats r + 100) mi.2.2.2.2.1) then
      (match asrt A a, asrt A b with
      | some ta, some tb => (match ST ta, ST tb with
        | some (.inr oa), some (.inr ob) => abd A x (fun lo hi => bif (ile 0 lo && (ile hi (Int.ofNat oa.2.1) && ile hi (Int.ofNat ob.2.1))) && ((amdk md tb 0 (Int.ofNat ob.2.1 - 1) && (ajno tb JL && xfree tb)) && Nat.beq oa.1 ob.1) then
            (bif (match oa.1 with
              | 0 => bif Nat.beq ta tb then true else (match argj 0 (Int.ofNat oa.2.1 - 1) oa.2.2.1 0 with
                | some w => argw 0 (Int.ofNat ob.2.1 - 1) w.1 w.2 ob.2.2.1
                | none => false)
              | 3 => true
              | _ => false) then afor A [(tb, 0, ob.2.1)] (fun A => ih mi xt (pc + 3) cd ls r A ac as sp k) else false) else false)
        | _, _ => false)
      | _, _ => false) else false
  | _ => false
/-- op 0: invokestatic, 1: invokevirtual -/
def kCall (op idx : Nat) : aHd := fun ih mi xt pc cd ls st A ac as sp k => match CL mi.1 idx with
  | some (kd, mno, n) => bif Nat.beq kd 7 && Nat.beq op 0 then acopy ST JL md ih mi xt pc cd ls st A ac as sp k else (bif (bif Nat.beq op 0 then Nat.beq kd 0 || Nat.beq kd 3 else Nat.beq kd 1 || Nat.beq kd 4) then acall MT XT ST CT md kd mno n ih mi xt pc cd ls st A ac as sp k else false)
  | none => false
def aD (i : Instr) (len : Nat) : aHd := match i with
  | .iload j => kLoad len j
  | .iload_n j => kLoad len j.val
  | .lload_n j => kLloa j.val
  | .aload j => kLoadr len j
  | .aload_n j => kLoadr len j.val
  | .istore j => kStor len j false
  | .istore_n j => kStor len j.val false
  | .astore j => kStor len j true
  | .astore_n j => kStor len j.val true
  | .lstore_n j => kLsto j.val
  | .iconst n => kPush len n
  | .bipush n => kPush len n
  | .sipush n => kPush len n
  | .lconst _ => kLcon
  | .ldc_w idx => kLdc KI len idx
  | .ldc idx => kLdc KI len idx
  | .ldc2_w idx => kLong KL idx
  | .iinc j n => kInc j n
  | .iadd => kBin aadd
  | .isub => kBin asub
  | .imul => kBin amul
  | .iand => kBin aand
  | .ior => kBin aor
  | .ixor => kBin aor
  | .ishl => kBin aall
  | .iushr => kBin aush
  | .ishr => kBin ashr
  | .irem => kBin arem
  | .idiv => kBin adiv
  | .i2b => kI2b
  | .i2l => kI2l
  | .ladd => kLbin
  | .lmul => kLbin
  | .lor => kLbin
  | .lshl => kLshl
  | .lcmp => kLcmp
  | .dup => kDup
  | .dup2 => kDup2
  | .dup_x1 => kDupx
  | .pop => kPop
  | .goto off => kGoto off
  | .ifCond c off => kIf c off
  | .if_icmp c off => kIcmp c off
  | .tableswitch d lo hi offs => kSwit d lo hi offs
  | .getfield idx => kGet FL ST idx
  | .putfield idx => kPut FL ST JL md idx
  | .arraylength => kAlen ST
  | .iaload => kAld ST ekI
  | .baload => kAld ST ekB
  | .aaload => kAald ST
  | .laload => kLald ST
  | .lastore => kLast ST md
  | .iastore => kIast ST JL md
  | .bastore => kBast ST md
  | .ireturn => kRet
  | .areturn => kRetr
  | .lreturn => kRetl
  | .return_ => kRetv
  | .invokestatic idx => kCall CL MT XT ST CT JL md 0 idx
  | .invokevirtual idx => kCall CL MT XT ST CT JL md 1 idx
  | _ => kBad
def aexe (ih : aRn) (mi : eM) (xt : aXt) (pc : Nat) (cd : List eI) (ac as : Nat) (k : aK) (ls : List (Nat × aV)) (st : List aV) (A : aA) (sp : List aT) : Bool := match cd with
  | q :: r => bif Nat.beq q.1 pc then aD FL CL MT XT KI KL ST CT JL md q.2.1 q.2.2 ih mi xt q.1 r ls st A ac as sp k else false
  | [] => false
def aRun (n : Nat) : aRn := Nat.rec (fun _ _ _ _ _ _ _ _ _ _ _ => false) (fun _ ih mi xt pc cd ls st A ac as sp k => match asf sp pc with
  | some T => achk ST T ls st A ac as
  | none => aopn ST JL ih mi xt pc (aexe FL CL MT XT KI KL ST CT JL md ih mi xt pc cd ac as k) ac as k (axf xt pc) ls st A sp) n
end AW
end
