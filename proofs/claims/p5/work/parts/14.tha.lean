noncomputable section
/-! THE CHECKER, its pure part: a walk over bytecode with ints that are a symbol and an offset, each symbol with its bounds; refs that are symbols with their sorts; cells that are known; contracts of calls; loops and joins by certificates. -/
/-- an int (symbol, offset; symbol 0 is 0), a ref (its symbol), or: 0 a long, 1 the script -/
abbrev aV : Type := (Nat × Int) ⊕ (Nat ⊕ Nat)
/-- a symbol: from, to; it is at least that symbol plus that offset; it is that symbol times that number (0: nothing of that kind) -/
abbrev aC : Type := Int × Int × (Nat × Int) × Nat × Nat
/-- a known cell: ref, its sort, index, value -/
abbrev aE : Type := Nat × Nat × (Nat × Int) × aV
/-- a kind of values: ints from .. to, refs of a sort, longs -/
abbrev aF : Type := (Int × Int) ⊕ (Nat ⊕ Nat)
/-- a sort: objects (their class, their fields), arrays (kind, length, what lies where: up to .., from, to; the sort of its refs) -/
abbrev aS : Type := (Nat × List aF) ⊕ (Nat × Nat × List (Nat × Int × Int) × Nat)
/-- how many symbols, their bounds (the newest first), how many refs, their sorts (the newest first), known cells -/
abbrev aA : Type := Nat × List aC × Nat × List Nat × List aE
/-- cells that may be written: sort, from, to (not itself) -/
abbrev aMd : Type := List (Nat × Nat × Nat)
/-- at a join: as it is here, or any of a kind, at least symbol plus offset -/
abbrev aR : Type := aV ⊕ (aF × Nat × Int)
/-- a stop: place, room used, the state at its opening, locals, stack, cells (ref, sort, field), rank (up, symbol, offset, where: a local, or a cell by its ref and field) -/
abbrev aT : Type := Nat × (Nat × Nat) × aA × List (Nat × aR) × List aR × List (Nat × Nat × Nat × aR) × Option (Bool × (Nat × Int) × (Nat ⊕ (Nat × Nat)))
/-- a certificate's word on a value: as it is, or any of a kind (at least what it is now plus ..) -/
abbrev aQ : Type := Nat ⊕ (aF × Option Int)
/-- a certificate: (0, _) a loop's head, (1, t) a join at t, (2, _) cases of a value (the rank's place), (3, j) a row of a book whose number is in local j; locals, stack, cells that are forgotten, fields (of the object in a local), rank -/
abbrev aX : Type := (Nat × Nat) × List (Nat × aQ) × List aQ × aMd × List (Nat × Nat × aQ) × Option (Bool × (Nat ⊕ (Nat × Nat)))
/-- a book: the sort and field that count its rows; its columns (field of that object, sort of the array, stride, offset); what a row may be -/
abbrev aJ : Type := Nat × Nat × List (Nat × Nat × Nat × Nat) × List (List (Int × Int))
abbrev aXt : Type := List (Nat × List aX)
/-- a contract: arguments, fields that are read ahead (argument, field), ends (answer; fields by their number ahead, from, to, at least the old one plus ..), cells that it writes -/
abbrev aCon : Type := List aF × List (Nat × Nat) × List (Option aF × List (Nat × Int × Int × Option Int)) × aMd
abbrev aK : Type := Option aV → aA → Bool
abbrev aRn : Type := eM → aXt → Nat → List eI → List (Nat × aV) → List aV → aA → Nat → Nat → List aT → aK → Bool
abbrev aHd : Type := aRn → aRn
def efI {α : Type} (z : Int) (k : Int → α) : α := Int.rec (fun n => ef n (fun n => k (Int.ofNat n))) (fun n => ef n (fun n => k (Int.negSucc n))) z
theorem efI_eq {α : Type} (z : Int) (k : Int → α) : efI z k = k z := by
  cases z with
  | ofNat n => exact ef_eq n (fun n => k (Int.ofNat n))
  | negSucc n => exact ef_eq n (fun n => k (Int.negSucc n))
def ile (a b : Int) : Bool := Int.rec (fun _ => true) (fun _ => false) (b - a)
theorem ile_iff (a b : Int) : ile a b = true ↔ a ≤ b := by
  unfold ile
  cases h : b - a with
  | ofNat n => exact ⟨fun _ => by have : b - a = (n : Int) := h; omega, fun _ => rfl⟩
  | negSucc n => exact ⟨fun z => (nomatch z), fun z => by rw [Int.negSucc_eq] at h; omega⟩
def ieq (a b : Int) : Bool := ile a b && ile b a
theorem ieq_iff (a b : Int) : ieq a b = true ↔ a = b := by
  unfold ieq
  rw [Bool.and_eq_true, ile_iff, ile_iff]
  omega
def iMin : Int := Int.negSucc 2147483647
def iMax : Int := Int.ofNat 2147483647
def imx (a b : Int) : Int := bif ile a b then b else a
def imn (a b : Int) : Int := bif ile a b then a else b
def irg (lo hi : Int) : Bool := ile iMin lo && ile hi iMax
/-- a symbol's bounds -/
def acs (n : Nat) (cs : List aC) (k : Nat) : Option aC := bif Nat.blt k n then eg cs (n - 1 - k) else none
def abd (A : aA) (v : Nat × Int) (kk : Int → Int → Bool) : Bool := match v.1 with
  | 0 => kk v.2 v.2
  | k + 1 => (match acs A.1 A.2.1 (k + 1) with
    | some q => (match q.2.2.2.2 with
      | 0 => efI (q.1 + v.2) (fun lo => efI (q.2.1 + v.2) (fun hi => kk lo hi))
      | m + 1 => (match acs A.1 A.2.1 q.2.2.2.1 with
        | some w => efI (imx q.1 (Int.ofNat (m + 1) * w.1) + v.2) (fun lo => efI (imn q.2.1 (Int.ofNat (m + 1) * w.2.1) + v.2) (fun hi => kk lo hi))
        | none => false))
    | none => false)
/-- a new symbol -/
def anewd (A : aA) (lo hi : Int) (pb : Nat) (pc : Int) (df : Nat × Nat) (kk : aV → aA → Bool) : Bool := match A with
  | (n, cs, r) => efI lo (fun lo => efI hi (fun hi => ef (n + 1) (fun n1 => kk (.inl (n, 0)) (n1, (lo, hi, (pb, pc), df) :: cs, r))))
def anew (A : aA) (lo hi : Int) (pb : Nat) (pc : Int) (kk : aV → aA → Bool) : Bool := anewd A lo hi pb pc (0, 0) kk
def anewr (A : aA) (t : Nat) (kk : aV → aA → Bool) : Bool := match A with
  | (n, cs, nr, rs, hm) => ef (nr + 1) (fun n1 => kk (.inr (.inl nr)) (n, cs, n1, t :: rs, hm))
def aany (A : aA) (kk : aV → aA → Bool) : Bool := anew A iMin iMax 0 iMin kk
def arng (A : aA) (lo hi : Int) (kk : aV → aA → Bool) : Bool := bif irg lo hi then anew A lo hi 0 lo kk else aany A kk
def asrt (A : aA) (r : Nat) : Option Nat := match A with
  | (_, _, nr, rs, _) => bif Nat.blt r nr then eg rs (nr - 1 - r) else none
/-- at least: v is at least symbol k0 plus d0 -/
def age (A : aA) (k0 : Nat) (d0 : Int) (f : Nat) : Nat → Int → Bool := Nat.rec (fun _ _ => false) (fun _ ih k c => bif Nat.beq k k0 then ile d0 c else (match k with
  | 0 => false
  | k + 1 => (match acs A.1 A.2.1 (k + 1) with
    | some q => efI (q.2.2.1.2 + c) (fun c2 => ih q.2.2.1.1 c2)
    | none => false))) f
/-- ints -/
abbrev aO : Type := aA → (Nat × Int) → (Nat × Int) → (aV → aA → Bool) → Bool
def aadd : aO := fun A x y kk => abd A x (fun l1 h1 => abd A y (fun l2 h2 => bif irg (l1 + l2) (h1 + h2) then
  (match y.1 with
  | 0 => efI (x.2 + y.2) (fun c => kk (.inl (x.1, c)) A)
  | _ + 1 => (match x.1 with
    | 0 => efI (x.2 + y.2) (fun c => kk (.inl (y.1, c)) A)
    | _ + 1 => anew A (l1 + l2) (h1 + h2) 0 (l1 + l2) kk)) else aany A kk))
def asub : aO := fun A x y kk => abd A x (fun l1 h1 => abd A y (fun l2 h2 => bif irg (l1 - h2) (h1 - l2) then
  (match y.1 with
  | 0 => efI (x.2 - y.2) (fun c => kk (.inl (x.1, c)) A)
  | _ + 1 => anew A (bif age A y.1 y.2 40 x.1 x.2 then imx 0 (l1 - h2) else l1 - h2) (h1 - l2) 0 iMin kk) else aany A kk))
def adf (x y : Nat × Int) : Nat × Nat := match x.1, y.1 with
  | 0, k + 1 => bif ieq y.2 0 && ile 1 x.2 then (k + 1, x.2.toNat) else (0, 0)
  | k + 1, 0 => bif ieq x.2 0 && ile 1 y.2 then (k + 1, y.2.toNat) else (0, 0)
  | _, _ => (0, 0)
def amul : aO := fun A x y kk => abd A x (fun l1 h1 => abd A y (fun l2 h2 => bif (ile 0 l1 && ile 0 l2) && irg (l1 * l2) (h1 * h2) then anewd A (l1 * l2) (h1 * h2) 0 iMin (adf x y) kk else aany A kk))
def aand : aO := fun A x y kk => abd A x (fun l1 h1 => abd A y (fun l2 h2 => bif ile 0 l1 then (bif ile 0 l2 then anew A 0 (imn h1 h2) 0 0 kk else anew A 0 h1 0 0 kk) else (bif ile 0 l2 then anew A 0 h2 0 0 kk else aany A kk)))
def apw (h : Int) : Int := Int.rec (fun n => Int.ofNat (2 ^ (Nat.log2 n + 1) - 1)) (fun _ => 0) h
def aor : aO := fun A x y kk => abd A x (fun l1 h1 => abd A y (fun l2 h2 => bif ile 0 l1 && ile 0 l2 then arng A 0 (apw (imx h1 h2)) kk else aany A kk))
def aall : aO := fun A x y kk => abd A x (fun _ _ => abd A y (fun _ _ => aany A kk))
def ashr : aO := fun A x y kk => abd A x (fun l1 h1 => abd A y (fun _ _ => bif ile 0 l1 then anew A 0 h1 0 0 kk else aany A kk))
def aush : aO := fun A x y kk => abd A x (fun l1 h1 => abd A y (fun l2 h2 => bif ile 0 l1 then anew A 0 h1 0 0 kk else (bif ile 8 l2 && ile h2 8 then anew A 0 (Int.ofNat 16777215) 0 0 kk else aany A kk)))
def arem : aO := fun A x y kk => abd A x (fun l1 h1 => abd A y (fun l2 h2 => bif ile 0 l1 && ile 1 l2 then anew A 0 (imn h1 (h2 - 1)) 0 0 kk else false))
def adiv : aO := fun A x y kk => abd A x (fun _ _ => abd A y (fun l2 _ => bif ile 1 l2 then aany A kk else false))
/-- v lies between lo and hi: else nothing is to be shown -/
def aset (A : aA) (k : Nat) (lo hi : Int) (kk : aA → Bool) : Bool := match A with
  | (n, cs, r) => (match acs n cs k with
    | some q => efI (imx q.1 lo) (fun lo => efI (imn q.2.1 hi) (fun hi => bif ile lo hi then es (lo, hi, q.2.2) cs (n - 1 - k) (fun cs => kk (n, cs, r)) else true))
    | none => false)
def abt (v : Nat × Int) (lo hi : Int) (A : aA) (kk : aA → Bool) : Bool := match v.1 with
  | 0 => bif ile lo v.2 && ile v.2 hi then kk A else true
  | k + 1 => aset A (k + 1) (lo - v.2) (hi - v.2) kk
/-- y is at least x plus d: kept, where nothing like it is known of y -/
def apar (x y : Nat × Int) (d : Int) (A : aA) (kk : aA → Bool) : Bool := match A with
  | (n, cs, r) => (match x.1 with
    | 0 => kk A
    | _ + 1 => (match y.1 with
      | 0 => kk A
      | ky + 1 => (match acs n cs (ky + 1) with
        | some q => bif Nat.beq q.2.2.1.1 0 && Nat.blt x.1 n then efI (x.2 + d - y.2) (fun d => es (q.1, q.2.1, (x.1, d), q.2.2.2) cs (n - 1 - (ky + 1)) (fun cs => kk (n, cs, r))) else kk A
        | none => false)))
def alt (x y : Nat × Int) (d : Int) (A : aA) (kk : aA → Bool) : Bool := abd A x (fun l1 _ => abd A y (fun _ h2 => abt x iMin (h2 - d) A (fun A => abt y (l1 + d) iMax A (fun A => apar x y d A kk))))
def aeq (x y : Nat × Int) (A : aA) (kk : aA → Bool) : Bool := abd A x (fun l1 h1 => abd A y (fun l2 h2 => abt x l2 h2 A (fun A => abt y l1 h1 A kk)))
def ane1 (x : Nat × Int) (l1 h1 b : Int) (A : aA) (kk : aA → Bool) : Bool := bif ieq l1 b then abt x (b + 1) iMax A kk else (bif ieq h1 b then abt x iMin (b - 1) A kk else kk A)
def ane (x y : Nat × Int) (A : aA) (kk : aA → Bool) : Bool := abd A x (fun l1 h1 => abd A y (fun l2 h2 => bif ieq l2 h2 then ane1 x l1 h1 l2 A kk else (bif ieq l1 h1 then ane1 y l2 h2 l1 A kk else kk A)))
def ast (c : ClassFile.Cond) (x y : Nat × Int) (A : aA) (kk : aA → Bool) : Bool := match c with
  | .lt => alt x y 1 A kk
  | .le => alt x y 0 A kk
  | .gt => alt y x 1 A kk
  | .ge => alt y x 0 A kk
  | .eq => aeq x y A kk
  | .ne => ane x y A kk
def adI (c : ClassFile.Cond) (p q : Int) : Bool := match c with
  | .eq => ieq p q
  | .ne => bif ieq p q then false else true
  | .lt => ile (p + 1) q
  | .ge => ile q p
  | .gt => ile (q + 1) p
  | .le => ile p q
/-- by what is known of both: it can't be -/
def ano (c : ClassFile.Cond) (x y : Nat × Int) (A : aA) : Bool := match c with
  | .lt => age A y.1 y.2 40 x.1 x.2
  | .le => age A y.1 (y.2 + 1) 40 x.1 x.2
  | .gt => age A x.1 x.2 40 y.1 y.2
  | .ge => age A x.1 (x.2 + 1) 40 y.1 y.2
  | _ => false
def acmp (c : ClassFile.Cond) (x y : Nat × Int) (A : aA) (kt kf : aA → Bool) : Bool := bif Nat.beq x.1 y.1 then (bif adI c x.2 y.2 then kt A else kf A) else (bif ano c x y A then true else ast c x y A kt) && (bif ano (eneg c) x y A then true else ast (eneg c) x y A kf)
/-- locals -/
def al (ls : List (Nat × aV)) (j : Nat) : Option aV := List.rec none (fun q _ ih => bif Nat.beq q.1 j then some q.2 else ih) ls
def acat (v : aV) : Nat := match v with
  | .inr (.inr 0) => 2
  | _ => 1
def alp (j : Nat) (q : Nat × aV) : Bool := bif Nat.beq q.1 j then false else (bif Nat.beq (q.1 + 1) j then Nat.beq (acat q.2) 1 else true)
def alp2 (j : Nat) (q : Nat × aV) : Bool := bif Nat.beq q.1 (j + 1) then false else alp j q
def alf (p : Nat × aV → Bool) (ls : List (Nat × aV)) : (List (Nat × aV) → Bool) → Bool := List.rec (fun k => k []) (fun q _ ih k => bif p q then ih (fun t => k (q :: t)) else ih k) ls
def aargs (vs : List aV) : Nat → List (Nat × aV) := List.rec (fun _ => []) (fun v _ ih i => (i, v) :: ih (i + acat v)) vs
def acats (vs : List aV) : Nat := List.rec 0 (fun v _ ih => acat v + ih) vs
def atake (n : Nat) : List aV → List aV → (List aV → List aV → Bool) → Bool := Nat.rec (fun st acc k => k acc st) (fun _ ih st acc k => match st with
  | v :: r => ih r (v :: acc) k
  | [] => false) n
/-- cells -/
def amf (hm : List aE) (r : Nat) (ix : Nat × Int) : Option aV := List.rec none (fun e _ ih => bif Nat.beq e.1 r && (Nat.beq e.2.2.1.1 ix.1 && ieq e.2.2.1.2 ix.2) then some e.2.2.2 else ih) hm
def adj (A : aA) (x y : Nat × Int) : Bool := bif Nat.beq x.1 y.1 then (bif ieq x.2 y.2 then false else true) else abd A x (fun l1 h1 => abd A y (fun l2 h2 => ile (h1 + 1) l2 || ile (h2 + 1) l1))
def aflt (p : aE → Bool) (hm : List aE) : (List aE → Bool) → Bool := List.rec (fun k => k []) (fun q _ ih k => bif p q then ih (fun t => k (q :: t)) else ih k) hm
/-- no more than n cells of one sort (but cell 221 stays) -/
def acap (t : Nat) (hm : List aE) : Nat → (List aE → Bool) → Bool := List.rec (fun _ k => k []) (fun e _ ih n k => bif Nat.beq e.2.1 t then Nat.rec (bif Nat.beq e.2.2.1.1 0 && ieq e.2.2.1.2 221 then ih 0 (fun l => k (e :: l)) else ih 0 k) (fun m _ => ih m (fun l => k (e :: l))) n else ih n (fun l => k (e :: l))) hm
/-- behind a write at ix of a thing of sort t: what is still known -/
def awr (A : aA) (t : Nat) (ix : Nat × Int) (kk : aA → Bool) : Bool := aflt (fun e => bif Nat.beq e.2.1 t then adj A e.2.2.1 ix else true) A.2.2.2.2 (fun hm => match A with
  | (n, cs, nr, rs, _) => kk (n, cs, nr, rs, hm))
def aput (A : aA) (e : aE) (kk : aA → Bool) : Bool := match A with
  | (n, cs, nr, rs, hm) => acap e.2.1 hm 40 (fun hm => kk (n, cs, nr, rs, e :: hm))
def amdk (md : aMd) (t : Nat) (a b : Int) : Bool := List.rec false (fun q _ ih => bif Nat.beq q.1 t && (ile (Int.ofNat q.2.1) a && ile (b + 1) (Int.ofNat q.2.2)) then true else ih) md
/-- behind a call: cells that it may have written are forgotten -/
def amhit (A : aA) (e : aE) (md : aMd) : Bool := List.rec false (fun q _ ih => bif Nat.beq q.1 e.2.1 && abd A e.2.2.1 (fun lo hi => ile lo (Int.ofNat q.2.2 - 1) && ile (Int.ofNat q.2.1) hi) then true else ih) md
def amok (A : aA) (e : aE) (md : aMd) : Bool := bif amhit A e md then false else abd A e.2.2.1 (fun _ _ => true)
def afor (A : aA) (md : aMd) (kk : aA → Bool) : Bool := aflt (fun e => amok A e md) A.2.2.2.2 (fun hm => match A with
  | (n, cs, nr, rs, _) => kk (n, cs, nr, rs, hm))
/-- what lies in an array between a and b: the least that holds all -/
def argj (a b : Int) (rg : List (Nat × Int × Int)) : Int → Option (Int × Int) := List.rec (fun _ => none) (fun q _ ih s => bif ile (Int.ofNat q.1) a then ih (Int.ofNat q.1) else (bif ile (b + 1) (Int.ofNat q.1) then some q.2 else (match ih (Int.ofNat q.1) with
  | some w => some (imn q.2.1 w.1, imx q.2.2 w.2)
  | none => none))) rg
/-- .. and whether lo .. hi may be written there -/
def argw (a b lo hi : Int) (rg : List (Nat × Int × Int)) : Bool := List.rec false (fun q _ ih => bif ile (Int.ofNat q.1) a then ih else (bif ile q.2.1 lo && ile hi q.2.2 then (bif ile (b + 1) (Int.ofNat q.1) then true else ih) else false)) rg
/-- a value of that kind -/
def afit (A : aA) (f : aF) (v : aV) : Bool := match f with
  | .inl q => (match v with
    | .inl x => abd A x (fun lo hi => ile q.1 lo && ile hi q.2)
    | _ => false)
  | .inr (.inl t) => (match v with
    | .inr (.inl r) => (match asrt A r with
      | some t2 => Nat.beq t2 t
      | none => false)
    | _ => false)
  | .inr (.inr _) => (match v with
    | .inr (.inr 0) => true
    | _ => false)
/-- any value of that kind -/
def afr (A : aA) (f : aF) (pb : Nat) (pc : Int) (kk : aV → aA → Bool) : Bool := match f with
  | .inl q => bif irg q.1 q.2 && (Nat.beq pb 0 || Nat.blt pb A.1) then anew A q.1 q.2 pb pc kk else false
  | .inr (.inl t) => anewr A t kk
  | .inr (.inr _) => kk (.inr (.inr 0)) A
/-- books: a known cell by its sort; is ix the place stride * row + offset of row x -/
def amfs (hm : List aE) (t : Nat) (ix : Nat × Int) : Option (Nat × aV) := List.rec none (fun e _ ih => bif Nat.beq e.2.1 t && (Nat.beq e.2.2.1.1 ix.1 && ieq e.2.2.1.2 ix.2) then some (e.1, e.2.2.2) else ih) hm
def aixe (A : aA) (ix : Nat × Int) (m o : Nat) (x : Nat × Int) : Bool := match m with
  | 0 => false
  | 1 => Nat.beq ix.1 x.1 && ieq ix.2 (x.2 + Int.ofNat o)
  | m + 2 => ieq x.2 0 && (ieq ix.2 (Int.ofNat o) && (match acs A.1 A.2.1 ix.1 with
    | some q => Nat.beq q.2.2.2.2 (m + 2) && Nat.beq q.2.2.2.1 x.1
    | none => false))
def amfx (A : aA) (t m o : Nat) (x : Nat × Int) (hm : List aE) : Option aV := List.rec none (fun e _ ih => bif Nat.beq e.2.1 t && aixe A e.2.2.1 m o x then some e.2.2.2 else ih) hm
/-- is t a column of that book -/
def ajin (t : Nat) (cs : List (Nat × Nat × Nat × Nat)) : Bool := List.rec false (fun q _ ih => bif Nat.beq q.2.1 t then true else ih) cs
def ajno (t : Nat) (JL : List aJ) : Bool := List.rec true (fun J _ ih => bif ajin t J.2.2.1 then false else ih) JL
def ajcx (A : aA) (t : Nat) (ix x : Nat × Int) (cs : List (Nat × Nat × Nat × Nat)) : Bool := List.rec false (fun q _ ih => bif Nat.beq q.2.1 t && aixe A ix q.2.2.1 q.2.2.2 x then true else ih) cs
/-- a write at ix of an array of sort t: behind the last row of the book, if it is a column -/
def ajw (A : aA) (t : Nat) (ix : Nat × Int) (JL : List aJ) : Bool := List.rec true (fun J _ ih => bif ajin t J.2.2.1 then (match amfs A.2.2.2.2 J.1 (0, Int.ofNat J.2.1) with
  | some (_, .inl x) => ajcx A t ix x J.2.2.1 && ih
  | _ => false) else ih) JL
/-- is row x as the box wants it -/
def ajrw (A : aA) (x : Nat × Int) (cs : List (Nat × Nat × Nat × Nat)) : List (Int × Int) → Bool := List.rec (fun bx => match bx with
  | [] => true
  | _ :: _ => false) (fun q _ ih bx => match bx with
  | w :: r => (bif ile w.1 iMin && ile iMax w.2 then true else (match amfx A q.2.1 q.2.2.1 q.2.2.2 x A.2.2.2.2 with
    | some (.inl v) => abd A v (fun lo hi => ile w.1 lo && ile hi w.2)
    | _ => false)) && ih r
  | [] => false) cs
def ajbx (A : aA) (x : Nat × Int) (cs : List (Nat × Nat × Nat × Nat)) (bs : List (List (Int × Int))) : Bool := List.rec false (fun b _ ih => bif ajrw A x cs b then true else ih) bs
/-- the number of rows is written: none, or one more -/
def ajp (A : aA) (t f : Nat) (v : aV) (JL : List aJ) : Bool := List.rec true (fun J _ ih => bif Nat.beq J.1 t && Nat.beq J.2.1 f then (match v with
  | .inl y => bif abd A y (fun _ hi => ile hi 0) then ih else (match amfs A.2.2.2.2 t (0, Int.ofNat f) with
    | some (_, .inl x) => bif (Nat.beq y.1 x.1 && ieq y.2 (x.2 + 1)) && ajbx A x J.2.2.1 J.2.2.2 then ih else false
    | _ => false)
  | _ => false) else ih) JL
/-- a symbol that is that symbol times m -/
def afd (k m : Nat) (cs : List aC) : Nat → Option Nat := List.rec (fun _ => none) (fun q _ ih n => bif Nat.beq q.2.2.2.2 m && Nat.beq q.2.2.2.1 k then some (n - 1) else ih (n - 1)) cs
/-- the arrays of which more is kept than bounds: 52 (the state), 74 (its images) -/
def xfree (t : Nat) : Bool := bif Nat.beq t 52 then false else (bif Nat.beq t 74 then false else true)
def axw (A : aA) (r t : Nat) (x v : Nat × Int) (lo hi : Int) : Bool := bif xfree t then true else (bif Nat.beq t 52 then (bif ile (hi + 1) 221 then true else (bif (Nat.beq x.1 0 && ieq x.2 221) && (Nat.beq v.1 0 && ieq v.2 0) then true else (match amf A.2.2.2.2 r (0, Int.ofNat 221) with
  | some (.inl y) => (Nat.beq y.1 0 && ieq y.2 0) && ile 222 lo
  | _ => false))) else false)
def aveq (v w : aV) : Bool := match v with
  | .inl x => (match w with
    | .inl y => Nat.beq x.1 y.1 && ieq x.2 y.2
    | _ => false)
  | .inr (.inl r) => (match w with
    | .inr (.inl q) => Nat.beq r q
    | _ => false)
  | .inr (.inr n) => (match w with
    | .inr (.inr m) => Nat.beq n m
    | _ => false)
end
