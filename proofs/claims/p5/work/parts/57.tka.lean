noncomputable section
/-! THE EXACT WALK: what is to be shown of a piece of code, as a proposition; ints are whole numbers, the world is a number for each cell (sort, place); each sort has one thing. -/
/-- an int, a ref (its sort), a long -/
abbrev vVL : Type := Int ⊕ (Nat ⊕ Int)
abbrev vKL : Type := Option vVL → vS → Prop
abbrev vRnL : Type := eM → Nat → List eI → List (Nat × vVL) → List vVL → vS → vKL → Prop
abbrev vHdL : Type := vRnL → vRnL
abbrev vSpL : Type := List vVL → vS → vKL → Prop
def vlL (ls : List (Nat × vVL)) (j : Nat) : Option vVL := List.rec none (fun q _ ih => bif Nat.beq q.1 j then some q.2 else ih) ls
def vcatL (v : vVL) : Nat := match v with
  | .inr (.inr _) => 2
  | _ => 1
def vlpL (j : Nat) (q : Nat × vVL) : Bool := bif Nat.beq q.1 j then false else (bif Nat.beq (q.1 + 1) j then Nat.beq (vcatL q.2) 1 else true)
def vlp2L (j : Nat) (q : Nat × vVL) : Bool := bif Nat.beq q.1 (j + 1) then false else vlpL j q
def vlfL (p : Nat × vVL → Bool) (ls : List (Nat × vVL)) : (List (Nat × vVL) → Prop) → Prop := List.rec (fun k => k []) (fun q _ ih k => bif p q then ih (fun t => k (q :: t)) else ih k) ls
def vargsL (vs : List vVL) : Nat → List (Nat × vVL) := List.rec (fun _ => []) (fun v _ ih i => (i, v) :: ih (i + vcatL v)) vs
def vcatsL (vs : List vVL) : Nat := List.rec 0 (fun v _ ih => vcatL v + ih) vs
def vtakeL (n : Nat) : List vVL → List vVL → (List vVL → List vVL → Prop) → Prop := Nat.rec (fun st acc k => k acc st) (fun _ ih st acc k => match st with
  | v :: r => ih r (v :: acc) k
  | [] => False) n
def vselL (js : List Nat) (ls : List (Nat × vVL)) : (List (Nat × vVL) → Prop) → Prop := List.rec (fun k => k []) (fun j _ ih k => match vlL ls j with
  | some v => ih (fun t => k ((j, v) :: t))
  | none => False) js
section VW
variable (FL : eFL) (CL : eFL) (MT : Nat → Option (eM × Nat)) (KI : Nat → Nat → Option Nat) (KL : Nat → Nat → Option Int) (ST : Nat → Option aS) (JL : List aJ) (md : aMd) (uq : Nat → Bool) (SP : Nat → Option vSpL) (G : eM → Nat → List (Nat × vVL) → vS → vKL → Prop)
def yLoadL (len j : Nat) : vHdL := fun ih mi pc cd ls st σ K => match vlL ls j with
  | some (.inl x) => ih mi (pc + len) cd ls (.inl x :: st) σ K
  | _ => False
def yLoadrL (len j : Nat) : vHdL := fun ih mi pc cd ls st σ K => match vlL ls j with
  | some (.inr (.inl r)) => ih mi (pc + len) cd ls (.inr (.inl r) :: st) σ K
  | _ => False
def yLloaL (j : Nat) : vHdL := fun ih mi pc cd ls st σ K => match vlL ls j with
  | some (.inr (.inr n)) => ih mi (pc + 1) cd ls (.inr (.inr n) :: st) σ K
  | _ => False
def yStorL (len j : Nat) : vHdL := fun ih mi pc cd ls st σ K => match st with
  | .inl x :: r => vlfL (vlpL j) ls (fun t => ih mi (pc + len) cd ((j, .inl x) :: t) r σ K)
  | _ => False
def yPushL (len : Nat) (n : Int) : vHdL := fun ih mi pc cd ls st σ K => bif irg n n then ih mi (pc + len) cd ls (.inl n :: st) σ K else False
def yLconL (n : Fin 2) : vHdL := fun ih mi pc cd ls st σ K => ih mi (pc + 1) cd ls (.inr (.inr ((n : Nat) : Int)) :: st) σ K
def yLongL (idx : Nat) : vHdL := fun ih mi pc cd ls st σ K => match KL mi.1 idx with
  | some n => ih mi (pc + 3) cd ls (.inr (.inr n) :: st) σ K
  | none => False
def yLdcL (len idx : Nat) : vHdL := fun ih mi pc cd ls st σ K => match KI mi.1 idx with
  | some n => ih mi (pc + len) cd ls (.inl (esg n) :: st) σ K
  | none => False
def yIncL (j : Nat) (n : Int) : vHdL := fun ih mi pc cd ls st σ K => match vlL ls j with
  | some (.inl x) => bif irg n n then (-2147483648 ≤ x + n ∧ x + n ≤ 2147483647) ∧ vlfL (vlpL j) ls (fun t => ih mi (pc + 3) cd ((j, .inl (x + n)) :: t) st σ K) else False
  | _ => False
def yArL (f : Int → Int → Int) : vHdL := fun ih mi pc cd ls st σ K => match st with
  | .inl y :: .inl x :: r => (-2147483648 ≤ f x y ∧ f x y ≤ 2147483647) ∧ ih mi (pc + 1) cd ls (.inl (f x y) :: r) σ K
  | _ => False
def yArwL (wd : List Nat) (f g : Int → Int → Int) : vHdL := fun ih mi pc cd ls st σ K => bif vin pc wd then (match st with
  | .inl y :: .inl x :: r => ∀ z : Int, (-2147483648 ≤ z ∧ z ≤ 2147483647) → z = g x y → ih mi (pc + 1) cd ls (.inl z :: r) σ K
  | _ => False) else yArL f ih mi pc cd ls st σ K
def vmulw (x y : Int) : Int := (Int32.ofInt x * Int32.ofInt y).toInt
def yBinL (f : Int → Int → Int) : vHdL := fun ih mi pc cd ls st σ K => match st with
  | .inl y :: .inl x :: r => ih mi (pc + 1) cd ls (.inl (f x y) :: r) σ K
  | _ => False
def yLcmpL : vHdL := fun ih mi pc cd ls st σ K => match st with
  | .inr (.inr y) :: .inr (.inr x) :: r => (x < y → ih mi (pc + 1) cd ls (.inl (-1) :: r) σ K) ∧ (x = y → ih mi (pc + 1) cd ls (.inl 0 :: r) σ K) ∧ (y < x → ih mi (pc + 1) cd ls (.inl 1 :: r) σ K)
  | _ => False
def yI2lL : vHdL := fun ih mi pc cd ls st σ K => match st with
  | .inl x :: r => ih mi (pc + 1) cd ls (.inr (.inr x) :: r) σ K
  | _ => False
def yLbinL : vHdL := fun ih mi pc cd ls st σ K => match st with
  | .inr (.inr y) :: .inr (.inr x) :: r => ih mi (pc + 1) cd ls (.inr (.inr (vlor x y)) :: r) σ K
  | _ => False
def yLarL (f : Int → Int → Int) : vHdL := fun ih mi pc cd ls st σ K => match st with
  | .inr (.inr y) :: .inr (.inr x) :: r => (-9223372036854775808 ≤ f x y ∧ f x y ≤ 9223372036854775807) ∧ ih mi (pc + 1) cd ls (.inr (.inr (f x y)) :: r) σ K
  | _ => False
/-- .. at the places of a list: some long -/
def yLawL (wd : List Nat) (f : Int → Int → Int) : vHdL := fun ih mi pc cd ls st σ K => bif vin pc wd then (match st with
  | .inr (.inr _) :: .inr (.inr _) :: r => ∀ z : Int, (-9223372036854775808 ≤ z ∧ z ≤ 9223372036854775807) → ih mi (pc + 1) cd ls (.inr (.inr z) :: r) σ K
  | _ => False) else yLarL f ih mi pc cd ls st σ K
def yAlenL : vHdL := fun ih mi pc cd ls st σ K => match st with
  | .inr (.inl t) :: r => (match ST t with
    | some (.inr ob) => bif Nat.ble ob.2.1 100000 && (Nat.blt ob.1 3 || Nat.beq ob.1 3) then ih mi (pc + 1) cd ls (.inl (ob.2.1 : Int) :: r) σ K else False
    | _ => False)
  | _ => False
def yLstoL (j : Nat) : vHdL := fun ih mi pc cd ls st σ K => match st with
  | .inr (.inr x) :: r => vlfL (vlp2L j) ls (fun t => ih mi (pc + 1) cd ((j, .inr (.inr x)) :: t) r σ K)
  | _ => False
def yStrrL (len j : Nat) : vHdL := fun ih mi pc cd ls st σ K => match st with
  | .inr (.inl x) :: r => vlfL (vlpL j) ls (fun t => ih mi (pc + len) cd ((j, .inr (.inl x)) :: t) r σ K)
  | _ => False
def yLshlL : vHdL := fun ih mi pc cd ls st σ K => match st with
  | .inl y :: .inr (.inr x) :: r => ih mi (pc + 1) cd ls (.inr (.inr (vlsh x y)) :: r) σ K
  | _ => False
def yDupL : vHdL := fun ih mi pc cd ls st σ K => match st with
  | x :: r => bif Nat.beq (vcatL x) 1 then ih mi (pc + 1) cd ls (x :: x :: r) σ K else False
  | _ => False
def yDup2L : vHdL := fun ih mi pc cd ls st σ K => match st with
  | y :: x :: r => bif Nat.beq (vcatL y) 1 && Nat.beq (vcatL x) 1 then ih mi (pc + 1) cd ls (y :: x :: y :: x :: r) σ K else False
  | _ => False
def yDupxL : vHdL := fun ih mi pc cd ls st σ K => match st with
  | y :: x :: r => bif Nat.beq (vcatL y) 1 && Nat.beq (vcatL x) 1 then ih mi (pc + 1) cd ls (y :: x :: y :: r) σ K else False
  | _ => False
def yPopL : vHdL := fun ih mi pc cd ls st σ K => match st with
  | x :: r => bif Nat.beq (vcatL x) 1 then ih mi (pc + 1) cd ls r σ K else False
  | _ => False
def yJmpL (ih : vRnL) (mi : eM) (pc : Nat) (off : Int) (ls : List (Nat × vVL)) (st : List vVL) (σ : vS) (K : vKL) : Prop := match (pc : Int) + off with
  | .ofNat t => (match ej mi.2.2.2.2.2.2 t with
    | some cd => ih mi t cd ls st σ K
    | none => False)
  | .negSucc _ => False
def yGotoL (off : Int) : vHdL := fun ih mi pc _ ls st σ K => yJmpL ih mi pc off ls st σ K
def yIfL (c : ClassFile.Cond) (off : Int) : vHdL := fun ih mi pc cd ls st σ K => match st with
  | .inl x :: r => yCmp c x 0 (yJmpL ih mi pc off ls r σ K) (ih mi (pc + 3) cd ls r σ K)
  | _ => False
def yIcmpL (c : ClassFile.Cond) (off : Int) : vHdL := fun ih mi pc cd ls st σ K => match st with
  | .inl y :: .inl x :: r => yCmp c x y (yJmpL ih mi pc off ls r σ K) (ih mi (pc + 3) cd ls r σ K)
  | _ => False
def yGetL (idx : Nat) : vHdL := fun ih mi pc cd ls st σ K => match st with
  | .inr (.inl t) :: r => (match FL mi.1 idx with
    | some q => (match ST t with
      | some (.inl ob) => bif Nat.beq ob.1 q.1 && uq t then (match eg ob.2 q.2.1 with
        | some (.inl _) => ih mi (pc + 3) cd ls (.inl (σ t (q.2.1 : Int)) :: r) σ K
        | some (.inr (.inl t2)) => ih mi (pc + 3) cd ls (.inr (.inl t2) :: r) σ K
        | some (.inr (.inr _)) => ih mi (pc + 3) cd ls (.inr (.inr (σ t (q.2.1 : Int))) :: r) σ K
        | none => False) else False
      | _ => False)
    | none => False)
  | _ => False
def yPutL (idx : Nat) : vHdL := fun ih mi pc cd ls st σ K => match st with
  | v :: .inr (.inl t) :: r => (match FL mi.1 idx with
    | some q => (match ST t with
      | some (.inl ob) => bif Nat.beq ob.1 q.1 && (uq t && (vjf t q.2.1 JL && (Nat.blt q.2.2 10 && amdk md t (Int.ofNat q.2.1) (Int.ofNat q.2.1)))) then (match eg ob.2 q.2.1 with
        | some (.inl w) => (match v with
          | .inl x => (w.1 ≤ x ∧ x ≤ w.2) ∧ (bif Nat.beq (q.2.2 % 10) 0 then ih mi (pc + 3) cd ls r (vup σ t (q.2.1 : Int) x) K else (bif Nat.beq (q.2.2 % 10) 1 then (0 ≤ x ∧ x ≤ 1) ∧ ih mi (pc + 3) cd ls r (vup σ t (q.2.1 : Int) x) K else False))
          | _ => False)
        | some (.inr (.inr _)) => (match v with
          | .inr (.inr x) => bif Nat.beq (q.2.2 % 10) 3 then ih mi (pc + 3) cd ls r (vup σ t (q.2.1 : Int) x) K else False
          | _ => False)
        | _ => False) else False
      | _ => False)
    | none => False)
  | _ => False
def yAldL (kind : Nat → Bool) : vHdL := fun ih mi pc cd ls st σ K => match st with
  | .inl i :: .inr (.inl t) :: r => (match ST t with
    | some (.inr ob) => bif kind ob.1 && uq t then (0 ≤ i ∧ i < (ob.2.1 : Int)) ∧ ih mi (pc + 1) cd ls (.inl (σ t i) :: r) σ K else False
    | _ => False)
  | _ => False
def yLaldL : vHdL := fun ih mi pc cd ls st σ K => match st with
  | .inl i :: .inr (.inl t) :: r => (match ST t with
    | some (.inr ob) => bif Nat.beq ob.1 3 && uq t then (0 ≤ i ∧ i < (ob.2.1 : Int)) ∧ ih mi (pc + 1) cd ls (.inr (.inr (σ t i)) :: r) σ K else False
    | _ => False)
  | _ => False
def yIastL : vHdL := fun ih mi pc cd ls st σ K => match st with
  | .inl x :: .inl i :: .inr (.inl t) :: r => (match ST t with
    | some (.inr ob) => bif Nat.beq ob.1 0 && (uq t && vjn t JL) then (0 ≤ i ∧ i < (ob.2.1 : Int)) ∧ (vRg ob.2.2.1 i x ∧ yMd md t ob.2.1 i (ih mi (pc + 1) cd ls r (vup σ t i x) K)) else False
    | _ => False)
  | _ => False
def yZastL : vHdL := fun ih mi pc cd ls st σ K => match st with
  | .inl x :: .inl i :: .inr (.inl t) :: r => (match ST t with
    | some (.inr ob) => bif Nat.beq ob.1 2 && (uq t && (vjn t JL && xfree t)) then (0 ≤ i ∧ i < (ob.2.1 : Int)) ∧ ((0 ≤ x ∧ x ≤ 1) ∧ (vRg ob.2.2.1 i x ∧ yMd md t ob.2.1 i (ih mi (pc + 1) cd ls r (vup σ t i x) K))) else False
    | _ => False)
  | _ => False
def yLastL : vHdL := fun ih mi pc cd ls st σ K => match st with
  | .inr (.inr x) :: .inl i :: .inr (.inl t) :: r => (match ST t with
    | some (.inr ob) => bif Nat.beq ob.1 3 && (uq t && vjn t JL) then (0 ≤ i ∧ i < (ob.2.1 : Int)) ∧ yMd md t ob.2.1 i (ih mi (pc + 1) cd ls r (vup σ t i x) K) else False
    | _ => False)
  | _ => False
def yRetL : vHdL := fun _ mi _ _ _ st σ K => match st with
  | [.inl x] => bif Nat.beq mi.2.2.2.2.2.1 1 then K (some (.inl x)) σ else (bif Nat.beq mi.2.2.2.2.2.1 2 then (0 ≤ x ∧ x ≤ 1) ∧ K (some (.inl x)) σ else False)
  | _ => False
def yLretL : vHdL := fun _ mi _ _ _ st σ K => match st with
  | [.inr (.inr x)] => bif Nat.beq mi.2.2.2.2.2.1 3 then K (some (.inr (.inr x))) σ else False
  | _ => False
def yAretL : vHdL := fun _ mi _ _ _ st σ K => match st with
  | [.inr (.inl x)] => bif Nat.beq mi.2.2.2.2.2.1 4 then K (some (.inr (.inl x))) σ else False
  | _ => False
/-- a switch: each case, and whatever else -/
def yswL (x : Int) (go : Int → Prop) (offs : List Int) : Int → Prop := List.rec (fun _ => True) (fun off _ ih b => (x = b → go off) ∧ ih (b + 1)) offs
def ySwL (d lo hi : Int) (offs : Array Int) : vHdL := fun ih mi pc _ ls st σ K => match st with
  | .inl x :: r => bif decide ((hi - lo + 1).toNat = offs.toList.length ∧ lo ≤ hi ∧ -2147483648 ≤ lo ∧ hi ≤ 2147483647) then yswL x (fun off => yJmpL ih mi pc off ls r σ K) offs.toList lo ∧ (x < lo ∨ hi < x → yJmpL ih mi pc d ls r σ K) else False
  | _ => False
def yI2bL : vHdL := fun ih mi pc cd ls st σ K => match st with
  | .inl x :: r => ih mi (pc + 1) cd ls (.inl (Int32.ofInt x).toInt8.toInt32.toInt :: r) σ K
  | _ => False
/-- bytes -/
def yBastL : vHdL := fun ih mi pc cd ls st σ K => match st with
  | .inl x :: .inl i :: .inr (.inl t) :: r => (match ST t with
    | some (.inr ob) => bif Nat.beq ob.1 1 && (uq t && (vjn t JL && xfree t)) then (0 ≤ i ∧ i < (ob.2.1 : Int)) ∧ ((-128 ≤ x ∧ x ≤ 127) ∧ (vRg ob.2.2.1 i x ∧ yMd md t ob.2.1 i (ih mi (pc + 1) cd ls r (vup σ t i x) K))) else False
    | _ => False)
  | _ => False
def yBzL : vHdL := fun ih mi pc cd ls st σ K => yZastL ST JL md uq ih mi pc cd ls st σ K ∨ yBastL ST JL md uq ih mi pc cd ls st σ K
def yRetvL : vHdL := fun _ mi _ _ _ st σ K => match st with
  | [] => bif Nat.beq mi.2.2.2.2.2.1 0 then K none σ else False
  | _ => False
def vroomL (mi m2 : eM) (maxL : Nat) (vs r : List vVL) : Bool := Nat.ble (m2.2.2.2.1 + 1) mi.2.2.2.1 && (Nat.ble (8 + (maxL + 11) + m2.2.2.2.2.1) mi.2.2.2.2.1 && (Nat.beq m2.2.1 0 && (Nat.beq m2.2.2.1 0 && (Nat.ble (vcatsL r) 8 && Nat.ble (vcatsL vs) maxL))))
def vrecvL (kd : Nat) (m2 : eM) (vs : List vVL) : Bool := bif Nat.beq kd 0 || Nat.beq kd 3 then true else (match vs with
  | .inr (.inl t) :: _ => (match ST t with
    | some (.inl ob) => Nat.beq ob.1 m2.1
    | _ => false)
  | _ => false)
def yCallL (op idx : Nat) : vHdL := fun ih mi pc cd ls st σ K => match CL mi.1 idx with
  | some (kd, mno, n) => bif (bif Nat.beq op 0 then Nat.beq kd 0 || Nat.beq kd 3 else Nat.beq kd 1 || Nat.beq kd 4) then (match MT mno with
    | some q => vtakeL n st [] (fun vs r => bif vroomL mi q.1 q.2 vs r && vrecvL ST kd q.1 vs then (match SP mno with
      | some sp => sp vs σ (fun ret σ => match ret with
        | some v => ih mi (pc + 3) cd ls (v :: r) σ K
        | none => ih mi (pc + 3) cd ls r σ K)
      | none => ih q.1 0 q.1.2.2.2.2.2.2 (vargsL vs 0) [] σ (fun ret σ => match ret with
        | some v => ih mi (pc + 3) cd ls (v :: r) σ K
        | none => ih mi (pc + 3) cd ls r σ K)) else False)
    | none => False) else False
  | none => False
def yBadL : vHdL := fun _ _ _ _ _ _ _ _ => False
def yDL (wd : List Nat) (i : Instr) (len : Nat) : vHdL := match i with
  | .iload j => yLoadL len j
  | .iload_n j => yLoadL len j.val
  | .lload_n j => yLloaL j.val
  | .aload j => yLoadrL len j
  | .aload_n j => yLoadrL len j.val
  | .istore j => yStorL len j
  | .istore_n j => yStorL len j.val
  | .iconst n => yPushL len n
  | .bipush n => yPushL len n
  | .sipush n => yPushL len n
  | .lconst n => yLconL n
  | .ldc_w idx => yLdcL KI len idx
  | .ldc idx => yLdcL KI len idx
  | .ldc2_w idx => yLongL KL idx
  | .iinc j n => yIncL j n
  | .iadd => yArwL wd (fun x y => x + y) vadd
  | .isub => yArwL wd (fun x y => x - y) vsub
  | .imul => yArwL wd (fun x y => x * y) vmulw
  | .iand => yBinL vand
  | .ior => yBinL vor
  | .ixor => yBinL vxor
  | .ishl => yBinL vshl
  | .ishr => yBinL vshr
  | .lcmp => yLcmpL
  | .i2l => yI2lL
  | .lor => yLbinL
  | .ladd => yLawL wd (fun x y => x + y)
  | .lmul => yLawL wd (fun x y => x * y)
  | .arraylength => yAlenL ST
  | .lstore_n j => yLstoL j.val
  | .astore j => yStrrL len j
  | .astore_n j => yStrrL len j.val
  | .i2b => yI2bL
  | .tableswitch d lo hi offs => ySwL d lo hi offs
  | .lreturn => yLretL
  | .areturn => yAretL
  | .lshl => yLshlL
  | .dup => yDupL
  | .dup2 => yDup2L
  | .dup_x1 => yDupxL
  | .pop => yPopL
  | .goto off => yGotoL off
  | .ifCond c off => yIfL c off
  | .if_icmp c off => yIcmpL c off
  | .getfield idx => yGetL FL ST uq idx
  | .putfield idx => yPutL FL ST JL md uq idx
  | .iaload => yAldL ST uq ekI
  | .baload => yAldL ST uq ekB
  | .laload => yLaldL ST uq
  | .lastore => yLastL ST JL md uq
  | .iastore => yIastL ST JL md uq
  | .bastore => yBzL ST JL md uq
  | .ireturn => yRetL
  | .return_ => yRetvL
  | .invokestatic idx => yCallL CL MT ST SP 0 idx
  | .invokevirtual idx => yCallL CL MT ST SP 1 idx
  | _ => yBadL
def vexeL (wd : List Nat) (ih : vRnL) : vRnL := fun mi pc cd ls st σ K => match cd with
  | q :: r => bif Nat.beq q.1 pc then yDL FL CL MT KI KL ST JL md uq SP wd q.2.1 q.2.2 ih mi q.1 r ls st σ K else False
  | [] => False
/-- a stop: the class and the place, and which locals are kept -/
def vRunL (wd : List Nat) (C : List (Nat × List Nat)) (m0 : eM → Bool) (n : Nat) : vRnL := Nat.rec (fun _ _ _ _ _ _ _ => False) (fun _ ih mi pc cd ls st σ K => match bif m0 mi then vcf C pc else none with
  | some js => (match st with
    | [] => vselL js ls (fun ls => G mi pc ls σ K)
    | _ => False)
  | none => vexeL FL CL MT KI KL ST JL md uq SP wd ih mi pc cd ls st σ K) n
/-- off from a stop -/
def vGoL (wd : List Nat) (C : List (Nat × List Nat)) (m0 : eM → Bool) (n : Nat) (mi : eM) (pc : Nat) (ls : List (Nat × vVL)) (σ : vS) (K : vKL) : Prop := match ej mi.2.2.2.2.2.2 pc with
  | some cd => vexeL FL CL MT KI KL ST JL md uq SP wd (vRunL FL CL MT KI KL ST JL md uq SP G wd C m0 n) mi pc cd ls [] σ K
  | none => False
end VW
end
