abbrev gNm : Type := Nat × Nat
abbrev gV : Type := Int32 ⊕ (Int64 ⊕ Option gNm)
abbrev gW : Type := Nat × Nat × (Nat → Nat → Nat → Int32) × (Nat → Nat → Nat → Int64) × (Nat → Nat → Nat → Option gNm)
abbrev gOp : Type := Instr × Nat × List Nat
abbrev gKd : Type := Option ((Nat × List Nat) ⊕ (Nat × (Nat → Nat → Nat)))
/-! A SMALL MACHINE over named cells. A name is a kind and an instance; a world: how many cells there are, the script's length, ints, longs, references, each by kind, instance and place. -/
def gup {α : Type} (f : Nat → Nat → Nat → α) (a b c : Nat) (x : α) : Nat → Nat → Nat → α := fun a' b' c' => if a' = a then (if b' = b then (if c' = c then x else f a' b' c') else f a' b' c') else f a' b' c'
/-- a cell's row anew -/
def gupR {α : Type} (f : Nat → Nat → Nat → α) (a b : Nat) (r : Nat → α) : Nat → Nat → Nat → α := fun a' b' c' => if a' = a then (if b' = b then r c' else f a' b' c') else f a' b' c'
def gcat : gV → Nat
  | .inl _ => 1
  | .inr (.inl _) => 2
  | .inr (.inr _) => 1
def gnar (t : Nat) (x : Int32) : Int32 := match t with
  | 3 => vp_nar .boolean x
  | 4 => vp_nar .char x
  | 5 => vp_nar .byte x
  | _ => x
def gsl : List gV → List (Option gV)
  | [] => []
  | .inl x :: r => some (.inl x) :: gsl r
  | .inr (.inl x) :: r => some (.inr (.inl x)) :: none :: gsl r
  | .inr (.inr x) :: r => some (.inr (.inr x)) :: gsl r
def gent (as : List gV) (n : Nat) : List (Option gV) := gsl as ++ List.replicate (n - (gsl as).length) none
/-- locals behind a store at k: what a long there, or a half of one, held is gone -/
def gset1 (L : List (Option gV)) (k : Nat) (v : gV) : Option (List (Option gV)) :=
  if k < L.length then
    match k with
    | 0 => some (L.set 0 (some v))
    | j + 1 => match L[j]? with
      | some (some (.inr (.inl _))) => some ((L.set j none).set (j + 1) (some v))
      | _ => some (L.set (j + 1) (some v))
  else none
def gset2 (L : List (Option gV)) (k : Nat) (v : gV) : Option (List (Option gV)) :=
  if k + 1 < L.length then (gset1 L k v).map (fun L' => L'.set (k + 1) none) else none
def gtgt (pc : Nat) (off : Int) : Nat := ((pc : Int) + off).toNat
def gin (i : Int32) (n : Nat) : Bool := !(decide (i < 0) || decide (n ≤ i.toNatClampNeg))
def gat : ArrayType → Nat
  | .int => 0
  | .long => 1
  | .boolean => 3
  | .char => 4
  | .byte => 5
  | _ => 9
def gretok (ty : FieldType) (v : Int32) : Bool := match ty with
  | .int => true
  | .boolean => decide (v = 0 ∨ v = 1)
  | .char => decide (vp_nar .char v = v)
  | .byte => decide (vp_nar .byte v = v)
  | _ => false
/-- a field as it stands in the world -/
def gfv (w : gW) (n : gNm) (t k : Nat) : gV := match t with
  | 1 => .inr (.inl (w.2.2.2.1 n.1 n.2 k))
  | 2 => .inr (.inr (w.2.2.2.2 n.1 n.2 k))
  | _ => .inl (w.2.2.1 n.1 n.2 k)
def gsw {β : Type} (K : Int → Option β) (dflt : Int) : List (Int × Int) → Int32 → Option β
  | [], _ => K dflt
  | (v, off) :: ps, x => if x = Int32.ofInt v then K off else gsw K dflt ps x
def gpairs : Int → List Int → List (Int × Int)
  | _, [] => []
  | v, o :: os => (v, o) :: gpairs (v + 1) os
section GMachine
variable (kd : Nat → gKd) (ext : Nat → gKd) (nm : Nat → Option gNm) (stat : Nat → Option gV) (exf : Nat → Option (Nat × gV))
def gld {β : Type} (L : List (Option gV)) (k pc : Nat) (st : List gV) (w : gW) (t : Nat) (K : Nat → List (Option gV) → List gV → gW → Option β) : Option β :=
  match L[k]? with
  | some (some (.inl x)) => match t with | 0 => K pc L (.inl x :: st) w | _ => none
  | some (some (.inr (.inl x))) => match t with | 1 => K pc L (.inr (.inl x) :: st) w | _ => none
  | some (some (.inr (.inr (some r)))) => match t with | 2 => K pc L (.inr (.inr (some r)) :: st) w | _ => none
  | _ => none
def gst {β : Type} (L : List (Option gV)) (k pc : Nat) (st : List gV) (w : gW) (t : Nat) (K : Nat → List (Option gV) → List gV → gW → Option β) : Option β :=
  match st with
  | .inl x :: rest => match t with | 0 => (match gset1 L k (.inl x) with | some L' => K pc L' rest w | none => none) | _ => none
  | .inr (.inl x) :: rest => match t with | 1 => (match gset2 L k (.inr (.inl x)) with | some L' => K pc L' rest w | none => none) | _ => none
  | .inr (.inr (some r)) :: rest => match t with | 2 => (match gset1 L k (.inr (.inr (some r))) with | some L' => K pc L' rest w | none => none) | _ => none
  | _ => none
def gpf {β : Type} (t k : Nat) (n : gNm) (v : gV) (w : gW) (K : gW → Option β) : Option β :=
  match v with
  | .inl x => match t with
    | 0 => K (w.1, w.2.1, gup w.2.2.1 n.1 n.2 k x, w.2.2.2.1, w.2.2.2.2)
    | 3 => if x = 0 ∨ x = 1 then K (w.1, w.2.1, gup w.2.2.1 n.1 n.2 k x, w.2.2.2.1, w.2.2.2.2) else none
    | _ => none
  | .inr (.inl x) => match t with
    | 1 => K (w.1, w.2.1, w.2.2.1, gup w.2.2.2.1 n.1 n.2 k x, w.2.2.2.2)
    | _ => none
  | .inr (.inr r) => match t with
    | 2 => K (w.1, w.2.1, w.2.2.1, w.2.2.2.1, gup w.2.2.2.2 n.1 n.2 k r)
    | _ => none
/-- the least that the arguments of a call take from the stack: k values, the last on top -/
def gtake : Nat → List gV → List gV → Option (List gV × List gV)
  | 0, acc, st => some (acc, st)
  | _ + 1, _, [] => none
  | k + 1, acc, v :: st => gtake k (v :: acc) st
def gex {β : Type} (ret : Option FieldType) (op : gOp) (pc : Nat) (L : List (Option gV)) (st : List gV) (w : gW) (K : Nat → List (Option gV) → List gV → gW → Option β) (C : Nat → List gV → Nat → List gV → Option β) (Rt : Option gV → Option β) : Option β :=
  match op.1 with
  | .iconst n => K (pc + 1) L (.inl (Int32.ofInt n) :: st) w
  | .bipush n => K (pc + 2) L (.inl (Int8.ofInt n).toInt32 :: st) w
  | .sipush n => K (pc + 3) L (.inl (Int16.ofInt n).toInt32 :: st) w
  | .lconst n => K (pc + 1) L (.inr (.inl (Int64.ofNat (n : Nat))) :: st) w
  | .ldc _ => match op.2.2 with | [v] => K (pc + 2) L (.inl (Int32.ofNat v) :: st) w | [0, 1] => K (pc + 2) L (.inr (.inr (some (2, 0))) :: st) w | _ => none
  | .ldc_w _ => match op.2.2 with | [v] => K (pc + 3) L (.inl (Int32.ofNat v) :: st) w | _ => none
  | .ldc2_w _ => match op.2.2 with | [v] => K (pc + 3) L (.inr (.inl (Int64.ofNat v)) :: st) w | _ => none
  | .iload_n k => gld L k.val (pc + 1) st w 0 K
  | .iload k => gld L k (pc + 2) st w 0 K
  | .lload_n k => gld L k.val (pc + 1) st w 1 K
  | .lload k => gld L k (pc + 2) st w 1 K
  | .aload_n k => gld L k.val (pc + 1) st w 2 K
  | .aload k => gld L k (pc + 2) st w 2 K
  | .istore_n k => gst L k.val (pc + 1) st w 0 K
  | .istore k => gst L k (pc + 2) st w 0 K
  | .lstore_n k => gst L k.val (pc + 1) st w 1 K
  | .lstore k => gst L k (pc + 2) st w 1 K
  | .astore_n k => gst L k.val (pc + 1) st w 2 K
  | .astore k => gst L k (pc + 2) st w 2 K
  | .iinc k n => match L[k]? with | some (some (.inl x)) => K (pc + 3) (L.set k (some (.inl (x + Int32.ofInt n)))) st w | _ => none
  | .iadd => match st with | .inl y :: .inl x :: rest => K (pc + 1) L (.inl (x + y) :: rest) w | _ => none
  | .isub => match st with | .inl y :: .inl x :: rest => K (pc + 1) L (.inl (x - y) :: rest) w | _ => none
  | .imul => match st with | .inl y :: .inl x :: rest => K (pc + 1) L (.inl (x * y) :: rest) w | _ => none
  | .iand => match st with | .inl y :: .inl x :: rest => K (pc + 1) L (.inl (x &&& y) :: rest) w | _ => none
  | .ior => match st with | .inl y :: .inl x :: rest => K (pc + 1) L (.inl (x ||| y) :: rest) w | _ => none
  | .ixor => match st with | .inl y :: .inl x :: rest => K (pc + 1) L (.inl (x ^^^ y) :: rest) w | _ => none
  | .ishl => match st with | .inl y :: .inl x :: rest => K (pc + 1) L (.inl (x <<< (y &&& 31)) :: rest) w | _ => none
  | .ishr => match st with | .inl y :: .inl x :: rest => K (pc + 1) L (.inl (x >>> (y &&& 31)) :: rest) w | _ => none
  | .iushr => match st with | .inl y :: .inl x :: rest => K (pc + 1) L (.inl ((x.toUInt32 >>> (y.toUInt32 &&& Int32.toUInt32 31)).toInt32) :: rest) w | _ => none
  | .idiv => match st with | .inl y :: .inl x :: rest => if y = 0 then none else K (pc + 1) L (.inl (x / y) :: rest) w | _ => none
  | .irem => match st with | .inl y :: .inl x :: rest => if y = 0 then none else K (pc + 1) L (.inl (x - x / y * y) :: rest) w | _ => none
  | .ineg => match st with | .inl x :: rest => K (pc + 1) L (.inl (-x) :: rest) w | _ => none
  | .ladd => match st with | .inr (.inl y) :: .inr (.inl x) :: rest => K (pc + 1) L (.inr (.inl (x + y)) :: rest) w | _ => none
  | .lsub => match st with | .inr (.inl y) :: .inr (.inl x) :: rest => K (pc + 1) L (.inr (.inl (x - y)) :: rest) w | _ => none
  | .lmul => match st with | .inr (.inl y) :: .inr (.inl x) :: rest => K (pc + 1) L (.inr (.inl (x * y)) :: rest) w | _ => none
  | .land => match st with | .inr (.inl y) :: .inr (.inl x) :: rest => K (pc + 1) L (.inr (.inl (x &&& y)) :: rest) w | _ => none
  | .ldiv => match st with | .inr (.inl y) :: .inr (.inl x) :: rest => if y = 0 then none else K (pc + 1) L (.inr (.inl (x / y)) :: rest) w | _ => none
  | .lrem => match st with | .inr (.inl y) :: .inr (.inl x) :: rest => if y = 0 then none else K (pc + 1) L (.inr (.inl (x - x / y * y)) :: rest) w | _ => none
  | .lcmp => match st with | .inr (.inl y) :: .inr (.inl x) :: rest => K (pc + 1) L (.inl (lg_cmp x y) :: rest) w | _ => none
  | .i2l => match st with | .inl x :: rest => K (pc + 1) L (.inr (.inl x.toInt64) :: rest) w | _ => none
  | .l2i => match st with | .inr (.inl x) :: rest => K (pc + 1) L (.inl x.toInt32 :: rest) w | _ => none
  | .i2c => match st with | .inl x :: rest => K (pc + 1) L (.inl (x.toUInt32 % 65536).toInt32 :: rest) w | _ => none
  | .i2b => match st with | .inl x :: rest => K (pc + 1) L (.inl x.toInt8.toInt32 :: rest) w | _ => none
  | .dup => match st with | v :: rest => (match gcat v with | 1 => K (pc + 1) L (v :: v :: rest) w | _ => none) | _ => none
  | .dup2 => match st with | v :: u :: rest => (match gcat v, gcat u with | 1, 1 => K (pc + 1) L (v :: u :: v :: u :: rest) w | _, _ => none) | _ => none
  | .pop => match st with | v :: rest => (match gcat v with | 1 => K (pc + 1) L rest w | _ => none) | _ => none
  | .if_icmp .eq off => match st with | .inl y :: .inl x :: rest => if x = y then K (gtgt pc off) L rest w else K (pc + 3) L rest w | _ => none
  | .if_icmp .ne off => match st with | .inl y :: .inl x :: rest => if x = y then K (pc + 3) L rest w else K (gtgt pc off) L rest w | _ => none
  | .if_icmp .lt off => match st with | .inl y :: .inl x :: rest => if x < y then K (gtgt pc off) L rest w else K (pc + 3) L rest w | _ => none
  | .if_icmp .ge off => match st with | .inl y :: .inl x :: rest => if y ≤ x then K (gtgt pc off) L rest w else K (pc + 3) L rest w | _ => none
  | .if_icmp .gt off => match st with | .inl y :: .inl x :: rest => if y < x then K (gtgt pc off) L rest w else K (pc + 3) L rest w | _ => none
  | .if_icmp .le off => match st with | .inl y :: .inl x :: rest => if x ≤ y then K (gtgt pc off) L rest w else K (pc + 3) L rest w | _ => none
  | .ifCond .eq off => match st with | .inl x :: rest => if x = 0 then K (gtgt pc off) L rest w else K (pc + 3) L rest w | _ => none
  | .ifCond .ne off => match st with | .inl x :: rest => if x = 0 then K (pc + 3) L rest w else K (gtgt pc off) L rest w | _ => none
  | .ifCond .lt off => match st with | .inl x :: rest => if x < 0 then K (gtgt pc off) L rest w else K (pc + 3) L rest w | _ => none
  | .ifCond .ge off => match st with | .inl x :: rest => if 0 ≤ x then K (gtgt pc off) L rest w else K (pc + 3) L rest w | _ => none
  | .ifCond .gt off => match st with | .inl x :: rest => if 0 < x then K (gtgt pc off) L rest w else K (pc + 3) L rest w | _ => none
  | .ifCond .le off => match st with | .inl x :: rest => if x ≤ 0 then K (gtgt pc off) L rest w else K (pc + 3) L rest w | _ => none
  | .goto off => K (gtgt pc off) L st w
  | .tableswitch dflt lo _ offs => match st with | .inl x :: rest => gsw (fun o => K (gtgt pc o) L rest w) dflt (gpairs lo offs.toList) x | _ => none
  | .lookupswitch dflt ps => match st with | .inl x :: rest => gsw (fun o => K (gtgt pc o) L rest w) dflt ps.toList x | _ => none
  | .getfield _ => match st with
    | .inr (.inr (some n)) :: rest => (match op.2.2 with
      | [ci, k] => (match kd n.1 with
        | some (.inl (ci', tys)) => if ci = ci' then (match tys[k]? with | some t => K (pc + 3) L (gfv w n t k :: rest) w | none => none) else none
        | _ => none)
      | [e] => (match exf e with | some (q, v) => if n = (q, 0) then K (pc + 3) L (v :: rest) w else none | none => none)
      | _ => none)
    | _ => none
  | .putfield _ => match st with
    | v :: .inr (.inr (some n)) :: rest => (match op.2.2 with
      | [ci, k] => (match kd n.1 with
        | some (.inl (ci', tys)) => if ci = ci' then (match tys[k]? with | some t => gpf t k n v w (fun w' => K (pc + 3) L rest w') | none => none) else none
        | _ => none)
      | _ => none)
    | _ => none
  | .getstatic _ => match op.2.2 with | [e] => (match stat e with | some v => K (pc + 3) L (v :: st) w | none => none) | [0, 1] => K (pc + 3) L (.inr (.inr (w.2.2.2.2 4 0 0)) :: st) w | _ => none
  | .iaload => match st with
    | .inl i :: .inr (.inr (some n)) :: rest => (match kd n.1 with
      | some (.inr (t, len)) => (match t with | 0 => if gin i (len w.2.1 n.2) then K (pc + 1) L (.inl (w.2.2.1 n.1 n.2 i.toNatClampNeg) :: rest) w else none | _ => none)
      | _ => (match ext n.1 with
        | some (.inr (t, len)) => (match n.2, t with | 0, 0 => if gin i (len w.2.1 0) then K (pc + 1) L (.inl (w.2.2.1 n.1 0 i.toNatClampNeg) :: rest) w else none | _, _ => none)
        | _ => none))
    | _ => none
  | .baload => match st with
    | .inl i :: .inr (.inr (some n)) :: rest => (match kd n.1 with
      | some (.inr (t, len)) => (match t with | 3 => if gin i (len w.2.1 n.2) then K (pc + 1) L (.inl (w.2.2.1 n.1 n.2 i.toNatClampNeg) :: rest) w else none | 5 => if gin i (len w.2.1 n.2) then K (pc + 1) L (.inl (w.2.2.1 n.1 n.2 i.toNatClampNeg) :: rest) w else none | _ => none)
      | _ => (match ext n.1 with
        | some (.inr (t, len)) => (match n.2, t with | 0, 5 => if gin i (len w.2.1 0) then K (pc + 1) L (.inl (w.2.2.1 n.1 0 i.toNatClampNeg) :: rest) w else none | _, _ => none)
        | _ => none))
    | _ => none
  | .caload => match st with
    | .inl i :: .inr (.inr (some n)) :: rest => (match kd n.1 with
      | some (.inr (t, len)) => (match t with | 4 => if gin i (len w.2.1 n.2) then K (pc + 1) L (.inl (w.2.2.1 n.1 n.2 i.toNatClampNeg) :: rest) w else none | _ => none)
      | _ => none)
    | _ => none
  | .laload => match st with
    | .inl i :: .inr (.inr (some n)) :: rest => (match kd n.1 with
      | some (.inr (t, len)) => (match t with | 1 => if gin i (len w.2.1 n.2) then K (pc + 1) L (.inr (.inl (w.2.2.2.1 n.1 n.2 i.toNatClampNeg)) :: rest) w else none | _ => none)
      | _ => none)
    | _ => none
  | .iastore => match st with
    | .inl x :: .inl i :: .inr (.inr (some n)) :: rest => (match kd n.1 with
      | some (.inr (t, len)) => (match t with | 0 => if gin i (len w.2.1 n.2) then K (pc + 1) L rest (w.1, w.2.1, gup w.2.2.1 n.1 n.2 i.toNatClampNeg (gnar 0 x), w.2.2.2.1, w.2.2.2.2) else none | _ => none)
      | _ => none)
    | _ => none
  | .bastore => match st with
    | .inl x :: .inl i :: .inr (.inr (some n)) :: rest => (match kd n.1 with
      | some (.inr (t, len)) => (match t with | 3 => if gin i (len w.2.1 n.2) then K (pc + 1) L rest (w.1, w.2.1, gup w.2.2.1 n.1 n.2 i.toNatClampNeg (gnar 3 x), w.2.2.2.1, w.2.2.2.2) else none | 5 => if gin i (len w.2.1 n.2) then K (pc + 1) L rest (w.1, w.2.1, gup w.2.2.1 n.1 n.2 i.toNatClampNeg (gnar 5 x), w.2.2.2.1, w.2.2.2.2) else none | _ => none)
      | _ => none)
    | _ => none
  | .castore => match st with
    | .inl x :: .inl i :: .inr (.inr (some n)) :: rest => (match kd n.1 with
      | some (.inr (t, len)) => (match t with | 4 => if gin i (len w.2.1 n.2) then K (pc + 1) L rest (w.1, w.2.1, gup w.2.2.1 n.1 n.2 i.toNatClampNeg (gnar 4 x), w.2.2.2.1, w.2.2.2.2) else none | _ => none)
      | _ => none)
    | _ => none
  | .lastore => match st with
    | .inr (.inl x) :: .inl i :: .inr (.inr (some n)) :: rest => (match kd n.1 with
      | some (.inr (t, len)) => (match t with | 1 => if gin i (len w.2.1 n.2) then K (pc + 1) L rest (w.1, w.2.1, w.2.2.1, gup w.2.2.2.1 n.1 n.2 i.toNatClampNeg x, w.2.2.2.2) else none | _ => none)
      | _ => none)
    | _ => none
  | .arraylength => match st with
    | .inr (.inr (some n)) :: rest => (match kd n.1 with
      | some (.inr (_, len)) => K (pc + 1) L (.inl (Int32.ofNat (len w.2.1 n.2)) :: rest) w
      | _ => (match ext n.1 with
        | some (.inr (_, len)) => (match n.2 with | 0 => K (pc + 1) L (.inl (Int32.ofNat (len w.2.1 0)) :: rest) w | _ => none)
        | _ => none))
    | _ => none
  | .newarray ty => match st with
    | .inl x :: rest => (match nm w.1 with
      | some n => (match kd n.1 with
        | some (.inr (t, len)) => if t = gat ty ∧ ¬ x < 0 ∧ x.toNatClampNeg = len w.2.1 n.2 ∧ x.toNatClampNeg ≤ 100000 ∧ t ≠ 9 then K (pc + 2) L (.inr (.inr (some n)) :: rest) (w.1 + 1, w.2.1, gupR w.2.2.1 n.1 n.2 (fun _ => 0), gupR w.2.2.2.1 n.1 n.2 (fun _ => 0), gupR w.2.2.2.2 n.1 n.2 (fun _ => none)) else none
        | _ => none)
      | none => none)
    | _ => none
  | .new _ => match op.2.2 with
    | [ci] => (match nm w.1 with
      | some n => (match kd n.1 with
        | some (.inl (ci', _)) => if ci = ci' then K (pc + 3) L (.inr (.inr (some n)) :: st) (w.1 + 1, w.2.1, gupR w.2.2.1 n.1 n.2 (fun _ => 0), gupR w.2.2.2.1 n.1 n.2 (fun _ => 0), gupR w.2.2.2.2 n.1 n.2 (fun _ => none)) else none
        | _ => none)
      | none => none)
    | _ => none
  | .invokevirtual _ => match op.2.2 with
    | [y, k, ci] => (match gtake k [] st with
      | some (.inr (.inr (some n)) :: as, rest) => if (rest.map gcat).sum ≤ 8 then (match kd n.1 with
        | some (.inl (ci', _)) => if ci = ci' then C y (.inr (.inr (some n)) :: as) (pc + 3) rest else none
        | _ => if n = (2, 0) ∧ ci = 99 then C y (.inr (.inr (some n)) :: as) (pc + 3) rest else none) else none
      | _ => none)
    | _ => none
  | .invokespecial _ => match op.2.2 with
    | [y, k] => (match gtake k [] st with | some (.inr (.inr (some n)) :: as, rest) => if (rest.map gcat).sum ≤ 8 then C y (.inr (.inr (some n)) :: as) (pc + 3) rest else none | _ => none)
    | [0] => (match st with | .inr (.inr (some _)) :: rest => if (rest.map gcat).sum ≤ 8 then K (pc + 3) L rest w else none | _ => none)
    | _ => none
  | .invokestatic _ => match op.2.2 with
    | [y, k] => (match gtake k [] st with | some (as, rest) => if (rest.map gcat).sum ≤ 8 then C y as (pc + 3) rest else none | none => none)
    | [0] => (match st with
      | .inl k :: .inl j :: .inr (.inr (some b)) :: .inl i :: .inr (.inr (some n)) :: rest => (match kd n.1, kd b.1 with
        | some (.inr (0, l1)), some (.inr (0, l2)) => if ¬ i < 0 ∧ ¬ j < 0 ∧ ¬ k < 0 ∧ i.toNatClampNeg + k.toNatClampNeg ≤ l1 w.2.1 n.2 ∧ j.toNatClampNeg + k.toNatClampNeg ≤ l2 w.2.1 b.2 ∧ (rest.map gcat).sum ≤ 8 then K (pc + 3) L rest (w.1, w.2.1, gupR w.2.2.1 b.1 b.2 (va_cpy (w.2.2.1 n.1 n.2) (w.2.2.1 b.1 b.2) i.toNatClampNeg j.toNatClampNeg k.toNatClampNeg), w.2.2.2.1, w.2.2.2.2) else none
        | _, _ => none)
      | _ => none)
    | _ => none
  | .ireturn => match ret, st with | some ty, [.inl v] => if gretok ty v then Rt (some (.inl v)) else none | _, _ => none
  | .lreturn => match ret, st with | some .long, [.inr (.inl v)] => Rt (some (.inr (.inl v))) | _, _ => none
  | .return_ => match ret, st with | none, [] => Rt none | _, _ => none
  | _ => none
variable (pr : Nat → Nat → Option gOp) (mr : Nat → Nat × Option FieldType)
/-- n: how long; d: how many calls may stand open beyond this one -/
def go : Nat → Nat → Nat → Nat → List (Option gV) → List gV → gW → Option (Option gV × gW)
  | 0, _, _, _, _, _, _ => none
  | n + 1, d, y, pc, L, st, w => match pr y pc with
    | none => none
    | some op => gex kd ext nm stat exf (mr y).2 op pc L st w (fun pc' L' st' w' => go n d y pc' L' st' w')
        (fun y' as pc' rest => match d with
          | 0 => none
          | d' + 1 => cond (Nat.ble (gsl as).length (mr y').1) (match go n d' y' 0 (gent as (mr y').1) [] w with
            | none => none
            | some (rv, w') => go n d y pc' L (rv.toList ++ rest) w') none)
        (fun rv => some (rv, w))
end GMachine
