noncomputable section
/-! THE EXACT WALK: what is to be shown of a piece of code, as a proposition; ints are whole numbers, the world is a number for each cell (sort, place); each sort has one thing. -/
/-- an int, a ref (its sort), a long -/
abbrev vV : Type := Int ⊕ (Nat ⊕ Nat)
abbrev vS : Type := Nat → Int → Int
abbrev vK : Type := Option vV → vS → Prop
abbrev vRn : Type := eM → Nat → List eI → List (Nat × vV) → List vV → vS → vK → Prop
abbrev vHd : Type := vRn → vRn
abbrev vSp : Type := List vV → vS → vK → Prop
def vup (σ : vS) (t : Nat) (i z : Int) : vS := fun t2 j => if t2 = t ∧ j = i then z else σ t2 j
def vand (x y : Int) : Int := (Int32.ofInt x &&& Int32.ofInt y).toInt
def vor (x y : Int) : Int := (Int32.ofInt x ||| Int32.ofInt y).toInt
def vxor (x y : Int) : Int := (Int32.ofInt x ^^^ Int32.ofInt y).toInt
def vshl (x y : Int) : Int := (Int32.ofInt x <<< (Int32.ofInt y &&& 31)).toInt
def vshr (x y : Int) : Int := (Int32.ofInt x >>> (Int32.ofInt y &&& 31)).toInt
def vl (ls : List (Nat × vV)) (j : Nat) : Option vV := List.rec none (fun q _ ih => bif Nat.beq q.1 j then some q.2 else ih) ls
def vcat (v : vV) : Nat := match v with
  | .inr (.inr _) => 2
  | _ => 1
def vlp (j : Nat) (q : Nat × vV) : Bool := bif Nat.beq q.1 j then false else (bif Nat.beq (q.1 + 1) j then Nat.beq (vcat q.2) 1 else true)
def vlf (p : Nat × vV → Bool) (ls : List (Nat × vV)) : (List (Nat × vV) → Prop) → Prop := List.rec (fun k => k []) (fun q _ ih k => bif p q then ih (fun t => k (q :: t)) else ih k) ls
def vargs (vs : List vV) : Nat → List (Nat × vV) := List.rec (fun _ => []) (fun v _ ih i => (i, v) :: ih (i + vcat v)) vs
def vcats (vs : List vV) : Nat := List.rec 0 (fun v _ ih => vcat v + ih) vs
def vtake (n : Nat) : List vV → List vV → (List vV → List vV → Prop) → Prop := Nat.rec (fun st acc k => k acc st) (fun _ ih st acc k => match st with
  | v :: r => ih r (v :: acc) k
  | [] => False) n
def vsel (js : List Nat) (ls : List (Nat × vV)) : (List (Nat × vV) → Prop) → Prop := List.rec (fun k => k []) (fun j _ ih k => match vl ls j with
  | some v => ih (fun t => k ((j, v) :: t))
  | none => False) js
def vcf (C : List (Nat × List Nat)) (pc : Nat) : Option (List Nat) := List.rec none (fun q _ ih => bif Nat.beq q.1 pc then some q.2 else ih) C
def vin (n : Nat) (l : List Nat) : Bool := List.rec false (fun m _ ih => bif Nat.beq m n then true else ih) l
/-- a cell may be written -/
def vMd (md : aMd) (t : Nat) (i : Int) : Prop := match md with
  | [] => False
  | q :: r => (q.1 = t ∧ (q.2.1 : Int) ≤ i ∧ i < (q.2.2 : Int)) ∨ vMd r t i
/-- .. a whole array -/
def vmw (md : aMd) (t n : Nat) : Bool := List.rec false (fun q _ ih => bif Nat.beq q.1 t && (Nat.beq q.2.1 0 && Nat.ble n q.2.2) then true else ih) md
/-- what may be written at place i of an array -/
def vRg (rg : List (Nat × Int × Int)) (i x : Int) : Prop := match rg with
  | [(_, lo, hi)] => lo ≤ x ∧ x ≤ hi
  | rg => ∀ w, rgAt rg i.toNat = some w → w.1 ≤ x ∧ x ≤ w.2
/-- no book speaks of the sort -/
def vjf (t f : Nat) (JL : List aJ) : Bool := List.rec true (fun J _ ih => bif (Nat.beq J.1 t && Nat.beq J.2.1 f) || ajin t J.2.2.1 then false else ih) JL
def vjn (t : Nat) (JL : List aJ) : Bool := List.rec true (fun J _ ih => bif Nat.beq J.1 t || ajin t J.2.2.1 then false else ih) JL
section VW
variable (FL : eFL) (CL : eFL) (MT : Nat → Option (eM × Nat)) (KI KL : Nat → Nat → Option Nat) (ST : Nat → Option aS) (JL : List aJ) (md : aMd) (uq : Nat → Bool) (SP : Nat → Option vSp) (G : eM → Nat → List (Nat × vV) → vS → vK → Prop)
def yLoad (len j : Nat) : vHd := fun ih mi pc cd ls st σ K => match vl ls j with
  | some (.inl x) => ih mi (pc + len) cd ls (.inl x :: st) σ K
  | _ => False
def yLoadr (len j : Nat) : vHd := fun ih mi pc cd ls st σ K => match vl ls j with
  | some (.inr (.inl r)) => ih mi (pc + len) cd ls (.inr (.inl r) :: st) σ K
  | _ => False
def yLloa (j : Nat) : vHd := fun ih mi pc cd ls st σ K => match vl ls j with
  | some (.inr (.inr n)) => ih mi (pc + 1) cd ls (.inr (.inr n) :: st) σ K
  | _ => False
def yStor (len j : Nat) : vHd := fun ih mi pc cd ls st σ K => match st with
  | .inl x :: r => vlf (vlp j) ls (fun t => ih mi (pc + len) cd ((j, .inl x) :: t) r σ K)
  | _ => False
def yPush (len : Nat) (n : Int) : vHd := fun ih mi pc cd ls st σ K => bif irg n n then ih mi (pc + len) cd ls (.inl n :: st) σ K else False
def yLcon : vHd := fun ih mi pc cd ls st σ K => ih mi (pc + 1) cd ls (.inr (.inr 0) :: st) σ K
def yLong (idx : Nat) : vHd := fun ih mi pc cd ls st σ K => match KL mi.1 idx with
  | some _ => ih mi (pc + 3) cd ls (.inr (.inr 0) :: st) σ K
  | none => False
def yLdc (len idx : Nat) : vHd := fun ih mi pc cd ls st σ K => match KI mi.1 idx with
  | some n => ih mi (pc + len) cd ls (.inl (esg n) :: st) σ K
  | none => False
def yInc (j : Nat) (n : Int) : vHd := fun ih mi pc cd ls st σ K => match vl ls j with
  | some (.inl x) => bif irg n n then (-2147483648 ≤ x + n ∧ x + n ≤ 2147483647) ∧ vlf (vlp j) ls (fun t => ih mi (pc + 3) cd ((j, .inl (x + n)) :: t) st σ K) else False
  | _ => False
def yAr (f : Int → Int → Int) : vHd := fun ih mi pc cd ls st σ K => match st with
  | .inl y :: .inl x :: r => (-2147483648 ≤ f x y ∧ f x y ≤ 2147483647) ∧ ih mi (pc + 1) cd ls (.inl (f x y) :: r) σ K
  | _ => False
/-- .. at the places of a list: as the machine makes it -/
def vadd (x y : Int) : Int := (Int32.ofInt x + Int32.ofInt y).toInt
def vsub (x y : Int) : Int := (Int32.ofInt x - Int32.ofInt y).toInt
def yArw (wd : List Nat) (f g : Int → Int → Int) : vHd := fun ih mi pc cd ls st σ K => bif vin pc wd then (match st with
  | .inl y :: .inl x :: r => ∀ z : Int, (-2147483648 ≤ z ∧ z ≤ 2147483647) → z = g x y → ih mi (pc + 1) cd ls (.inl z :: r) σ K
  | _ => False) else yAr f ih mi pc cd ls st σ K
def yBin (f : Int → Int → Int) : vHd := fun ih mi pc cd ls st σ K => match st with
  | .inl y :: .inl x :: r => ih mi (pc + 1) cd ls (.inl (f x y) :: r) σ K
  | _ => False
def yLcmp : vHd := fun ih mi pc cd ls st σ K => match st with
  | .inr (.inr _) :: .inr (.inr _) :: r => ∀ z : Int, ih mi (pc + 1) cd ls (.inl z :: r) σ K
  | _ => False
def yI2l : vHd := fun ih mi pc cd ls st σ K => match st with
  | .inl _ :: r => ih mi (pc + 1) cd ls (.inr (.inr 0) :: r) σ K
  | _ => False
def yLbin : vHd := fun ih mi pc cd ls st σ K => match st with
  | .inr (.inr _) :: .inr (.inr _) :: r => ih mi (pc + 1) cd ls (.inr (.inr 0) :: r) σ K
  | _ => False
def yLshl : vHd := fun ih mi pc cd ls st σ K => match st with
  | .inl _ :: .inr (.inr _) :: r => ih mi (pc + 1) cd ls (.inr (.inr 0) :: r) σ K
  | _ => False
def yDup : vHd := fun ih mi pc cd ls st σ K => match st with
  | x :: r => bif Nat.beq (vcat x) 1 then ih mi (pc + 1) cd ls (x :: x :: r) σ K else False
  | _ => False
def yDup2 : vHd := fun ih mi pc cd ls st σ K => match st with
  | y :: x :: r => bif Nat.beq (vcat y) 1 && Nat.beq (vcat x) 1 then ih mi (pc + 1) cd ls (y :: x :: y :: x :: r) σ K else False
  | _ => False
def yDupx : vHd := fun ih mi pc cd ls st σ K => match st with
  | y :: x :: r => bif Nat.beq (vcat y) 1 && Nat.beq (vcat x) 1 then ih mi (pc + 1) cd ls (y :: x :: y :: r) σ K else False
  | _ => False
def yPop : vHd := fun ih mi pc cd ls st σ K => match st with
  | x :: r => bif Nat.beq (vcat x) 1 then ih mi (pc + 1) cd ls r σ K else False
  | _ => False
def yJmp (ih : vRn) (mi : eM) (pc : Nat) (off : Int) (ls : List (Nat × vV)) (st : List vV) (σ : vS) (K : vK) : Prop := match (pc : Int) + off with
  | .ofNat t => (match ej mi.2.2.2.2.2.2 t with
    | some cd => ih mi t cd ls st σ K
    | none => False)
  | .negSucc _ => False
def yGoto (off : Int) : vHd := fun ih mi pc _ ls st σ K => yJmp ih mi pc off ls st σ K
def yCmp (c : ClassFile.Cond) (x y : Int) (p q : Prop) : Prop := match c with
  | .eq => (x = y → p) ∧ (¬ x = y → q)
  | .ne => (¬ x = y → p) ∧ (x = y → q)
  | .lt => (x < y → p) ∧ (y ≤ x → q)
  | .ge => (y ≤ x → p) ∧ (x < y → q)
  | .gt => (y < x → p) ∧ (x ≤ y → q)
  | .le => (x ≤ y → p) ∧ (y < x → q)
def yIf (c : ClassFile.Cond) (off : Int) : vHd := fun ih mi pc cd ls st σ K => match st with
  | .inl x :: r => yCmp c x 0 (yJmp ih mi pc off ls r σ K) (ih mi (pc + 3) cd ls r σ K)
  | _ => False
def yIcmp (c : ClassFile.Cond) (off : Int) : vHd := fun ih mi pc cd ls st σ K => match st with
  | .inl y :: .inl x :: r => yCmp c x y (yJmp ih mi pc off ls r σ K) (ih mi (pc + 3) cd ls r σ K)
  | _ => False
def yGet (idx : Nat) : vHd := fun ih mi pc cd ls st σ K => match st with
  | .inr (.inl t) :: r => (match FL mi.1 idx with
    | some q => (match ST t with
      | some (.inl ob) => bif Nat.beq ob.1 q.1 && uq t then (match eg ob.2 q.2.1 with
        | some (.inl _) => ih mi (pc + 3) cd ls (.inl (σ t (q.2.1 : Int)) :: r) σ K
        | some (.inr (.inl t2)) => ih mi (pc + 3) cd ls (.inr (.inl t2) :: r) σ K
        | some (.inr (.inr _)) => ih mi (pc + 3) cd ls (.inr (.inr 0) :: r) σ K
        | none => False) else False
      | _ => False)
    | none => False)
  | _ => False
def yPut (idx : Nat) : vHd := fun ih mi pc cd ls st σ K => match st with
  | v :: .inr (.inl t) :: r => (match FL mi.1 idx with
    | some q => (match ST t with
      | some (.inl ob) => bif Nat.beq ob.1 q.1 && (uq t && (vjf t q.2.1 JL && (Nat.blt q.2.2 10 && amdk md t (Int.ofNat q.2.1) (Int.ofNat q.2.1)))) then (match eg ob.2 q.2.1 with
        | some (.inl w) => (match v with
          | .inl x => (w.1 ≤ x ∧ x ≤ w.2) ∧ (bif Nat.beq (q.2.2 % 10) 0 then ih mi (pc + 3) cd ls r (vup σ t (q.2.1 : Int) x) K else (bif Nat.beq (q.2.2 % 10) 1 then (0 ≤ x ∧ x ≤ 1) ∧ ih mi (pc + 3) cd ls r (vup σ t (q.2.1 : Int) x) K else False))
          | _ => False)
        | some (.inr (.inr _)) => (match v with
          | .inr (.inr _) => bif Nat.beq (q.2.2 % 10) 3 then ih mi (pc + 3) cd ls r σ K else False
          | _ => False)
        | _ => False) else False
      | _ => False)
    | none => False)
  | _ => False
def yAld (kind : Nat → Bool) : vHd := fun ih mi pc cd ls st σ K => match st with
  | .inl i :: .inr (.inl t) :: r => (match ST t with
    | some (.inr ob) => bif kind ob.1 && uq t then (0 ≤ i ∧ i < (ob.2.1 : Int)) ∧ ih mi (pc + 1) cd ls (.inl (σ t i) :: r) σ K else False
    | _ => False)
  | _ => False
def yLald : vHd := fun ih mi pc cd ls st σ K => match st with
  | .inl i :: .inr (.inl t) :: r => (match ST t with
    | some (.inr ob) => bif Nat.beq ob.1 3 then (0 ≤ i ∧ i < (ob.2.1 : Int)) ∧ ih mi (pc + 1) cd ls (.inr (.inr 0) :: r) σ K else False
    | _ => False)
  | _ => False
def yMd (t n : Nat) (i : Int) (p : Prop) : Prop := bif vmw md t n then p else vMd md t i ∧ p
def yIast : vHd := fun ih mi pc cd ls st σ K => match st with
  | .inl x :: .inl i :: .inr (.inl t) :: r => (match ST t with
    | some (.inr ob) => bif Nat.beq ob.1 0 && (uq t && vjn t JL) then (0 ≤ i ∧ i < (ob.2.1 : Int)) ∧ (vRg ob.2.2.1 i x ∧ yMd md t ob.2.1 i (ih mi (pc + 1) cd ls r (vup σ t i x) K)) else False
    | _ => False)
  | _ => False
def yZast : vHd := fun ih mi pc cd ls st σ K => match st with
  | .inl x :: .inl i :: .inr (.inl t) :: r => (match ST t with
    | some (.inr ob) => bif Nat.beq ob.1 2 && (uq t && (vjn t JL && xfree t)) then (0 ≤ i ∧ i < (ob.2.1 : Int)) ∧ ((0 ≤ x ∧ x ≤ 1) ∧ (vRg ob.2.2.1 i x ∧ yMd md t ob.2.1 i (ih mi (pc + 1) cd ls r (vup σ t i x) K))) else False
    | _ => False)
  | _ => False
def yLast : vHd := fun ih mi pc cd ls st σ K => match st with
  | .inr (.inr _) :: .inl i :: .inr (.inl t) :: r => (match ST t with
    | some (.inr ob) => bif Nat.beq ob.1 3 && vjn t JL then (0 ≤ i ∧ i < (ob.2.1 : Int)) ∧ yMd md t ob.2.1 i (ih mi (pc + 1) cd ls r σ K) else False
    | _ => False)
  | _ => False
def yRet : vHd := fun _ mi _ _ _ st σ K => match st with
  | [.inl x] => bif Nat.beq mi.2.2.2.2.2.1 1 then K (some (.inl x)) σ else (bif Nat.beq mi.2.2.2.2.2.1 2 then (0 ≤ x ∧ x ≤ 1) ∧ K (some (.inl x)) σ else False)
  | _ => False
def yRetv : vHd := fun _ mi _ _ _ st σ K => match st with
  | [] => bif Nat.beq mi.2.2.2.2.2.1 0 then K none σ else False
  | _ => False
def vroom (mi m2 : eM) (maxL : Nat) (vs r : List vV) : Bool := Nat.ble (m2.2.2.2.1 + 1) mi.2.2.2.1 && (Nat.ble (8 + (maxL + 11) + m2.2.2.2.2.1) mi.2.2.2.2.1 && (Nat.beq m2.2.1 0 && (Nat.beq m2.2.2.1 0 && (Nat.ble (vcats r) 8 && Nat.ble (vcats vs) maxL))))
def vrecv (kd : Nat) (m2 : eM) (vs : List vV) : Bool := bif Nat.beq kd 0 || Nat.beq kd 3 then true else (match vs with
  | .inr (.inl t) :: _ => (match ST t with
    | some (.inl ob) => Nat.beq ob.1 m2.1
    | _ => false)
  | _ => false)
def yCall (op idx : Nat) : vHd := fun ih mi pc cd ls st σ K => match CL mi.1 idx with
  | some (kd, mno, n) => bif (bif Nat.beq op 0 then Nat.beq kd 0 || Nat.beq kd 3 else Nat.beq kd 1 || Nat.beq kd 4) then (match MT mno with
    | some q => vtake n st [] (fun vs r => bif vroom mi q.1 q.2 vs r && vrecv ST kd q.1 vs then (match SP mno with
      | some sp => sp vs σ (fun ret σ => match ret with
        | some v => ih mi (pc + 3) cd ls (v :: r) σ K
        | none => ih mi (pc + 3) cd ls r σ K)
      | none => ih q.1 0 q.1.2.2.2.2.2.2 (vargs vs 0) [] σ (fun ret σ => match ret with
        | some v => ih mi (pc + 3) cd ls (v :: r) σ K
        | none => ih mi (pc + 3) cd ls r σ K)) else False)
    | none => False) else False
  | none => False
def yBad : vHd := fun _ _ _ _ _ _ _ _ => False
def yD (wd : List Nat) (i : Instr) (len : Nat) : vHd := match i with
  | .iload j => yLoad len j
  | .iload_n j => yLoad len j.val
  | .lload_n j => yLloa j.val
  | .aload j => yLoadr len j
  | .aload_n j => yLoadr len j.val
  | .istore j => yStor len j
  | .istore_n j => yStor len j.val
  | .iconst n => yPush len n
  | .bipush n => yPush len n
  | .sipush n => yPush len n
  | .lconst _ => yLcon
  | .ldc_w idx => yLdc KI len idx
  | .ldc idx => yLdc KI len idx
  | .ldc2_w idx => yLong KL idx
  | .iinc j n => yInc j n
  | .iadd => yArw wd (fun x y => x + y) vadd
  | .isub => yArw wd (fun x y => x - y) vsub
  | .imul => yAr (fun x y => x * y)
  | .iand => yBin vand
  | .ior => yBin vor
  | .ixor => yBin vxor
  | .ishl => yBin vshl
  | .ishr => yBin vshr
  | .lcmp => yLcmp
  | .i2l => yI2l
  | .lor => yLbin
  | .lshl => yLshl
  | .dup => yDup
  | .dup2 => yDup2
  | .dup_x1 => yDupx
  | .pop => yPop
  | .goto off => yGoto off
  | .ifCond c off => yIf c off
  | .if_icmp c off => yIcmp c off
  | .getfield idx => yGet FL ST uq idx
  | .putfield idx => yPut FL ST JL md uq idx
  | .iaload => yAld ST uq ekI
  | .baload => yAld ST uq ekB
  | .laload => yLald ST
  | .lastore => yLast ST JL md
  | .iastore => yIast ST JL md uq
  | .bastore => yZast ST JL md uq
  | .ireturn => yRet
  | .return_ => yRetv
  | .invokestatic idx => yCall CL MT ST SP 0 idx
  | .invokevirtual idx => yCall CL MT ST SP 1 idx
  | _ => yBad
def vexe (wd : List Nat) (ih : vRn) : vRn := fun mi pc cd ls st σ K => match cd with
  | q :: r => bif Nat.beq q.1 pc then yD FL CL MT KI KL ST JL md uq SP wd q.2.1 q.2.2 ih mi q.1 r ls st σ K else False
  | [] => False
/-- a stop: the class and the place, and which locals are kept -/
def vRun (wd : List Nat) (C : List (Nat × List Nat)) (m0 : eM → Bool) (n : Nat) : vRn := Nat.rec (fun _ _ _ _ _ _ _ => False) (fun _ ih mi pc cd ls st σ K => match bif m0 mi then vcf C pc else none with
  | some js => (match st with
    | [] => vsel js ls (fun ls => G mi pc ls σ K)
    | _ => False)
  | none => vexe FL CL MT KI KL ST JL md uq SP wd ih mi pc cd ls st σ K) n
/-- off from a stop -/
def vGo (wd : List Nat) (C : List (Nat × List Nat)) (m0 : eM → Bool) (n : Nat) (mi : eM) (pc : Nat) (ls : List (Nat × vV)) (σ : vS) (K : vK) : Prop := match ej mi.2.2.2.2.2.2 pc with
  | some cd => vexe FL CL MT KI KL ST JL md uq SP wd (vRun FL CL MT KI KL ST JL md uq SP G wd C m0 n) mi pc cd ls [] σ K
  | none => False
end VW
end
