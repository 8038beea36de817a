/-! A small semantics of the bytecode over typed memories: 'zx' one straight instruction, 'zb' a branch, 'zq' a return, 'zp' a call; 'zW' puts them together. Nothing here speaks of the machine: part 06 does. -/
-- values: int, long, reference, float, double
abbrev zV : Type := Int32 ⊕ (Int64 ⊕ (Option Nat ⊕ (UInt32 ⊕ UInt64)))
abbrev zi (x : Int32) : zV := Sum.inl x
abbrev zl (x : Int64) : zV := Sum.inr (Sum.inl x)
abbrev zr (x : Option Nat) : zV := Sum.inr (Sum.inr (Sum.inl x))
abbrev zf (x : UInt32) : zV := Sum.inr (Sum.inr (Sum.inr (Sum.inl x)))
abbrev zd (x : UInt64) : zV := Sum.inr (Sum.inr (Sum.inr (Sum.inr x)))
def zv : zV → Value
  | .inl x => .int x
  | .inr (.inl x) => .long x
  | .inr (.inr (.inl x)) => va_rf x
  | .inr (.inr (.inr (.inl x))) => .float x
  | .inr (.inr (.inr (.inr x))) => .double x
def zvk : zV → Nat
  | .inl _ => 0
  | .inr (.inl _) => 1
  | .inr (.inr (.inl _)) => 2
  | .inr (.inr (.inr (.inl _))) => 3
  | .inr (.inr (.inr (.inr _))) => 4
/-- takes two places -/
def zc2 : zV → Bool
  | .inl _ => false
  | .inr (.inl _) => true
  | .inr (.inr (.inl _)) => false
  | .inr (.inr (.inr (.inl _))) => false
  | .inr (.inr (.inr (.inr _))) => true
abbrev zLs : Type := List (Option zV)
def zget : zLs → Nat → Option zV
  | [], _ => none
  | a :: _, 0 => a
  | _ :: t, k + 1 => zget t k
def zset : zLs → Nat → Option zV → zLs
  | [], _, _ => []
  | _ :: t, 0, v => v :: t
  | a :: t, k + 1, v => a :: zset t k v
/-- what stands ahead of a place that is stored into: a long there is gone -/
def zcut (ls : zLs) : Nat → zLs
  | 0 => ls
  | k + 1 => match zget ls k with
    | some w => bif zc2 w then zset ls k none else ls
    | none => ls
def zst (k : Nat) (v : zV) (ls : zLs) : zLs := bif zc2 v then zset (zset (zcut ls k) k (some v)) (k + 1) none else zset (zcut ls k) k (some v)
/-- a row with its spine laid out -/
def zforce {α : Type} : zLs → (zLs → α) → α
  | [], f => f []
  | a :: t, f => zforce t (fun t' => f (a :: t'))
/-- the words that a stack takes -/
def zsum : List zV → Nat
  | [] => 0
  | v :: t => bif zc2 v then zsum t + 2 else zsum t + 1
/-- a method's locals at its start -/
def zarg : Nat → List zV → zLs
  | 0, _ => []
  | n + 1, [] => none :: zarg n []
  | 1, v :: _ => [some v]
  | n + 2, v :: t => bif zc2 v then some v :: none :: zarg n t else some v :: zarg (n + 1) t
-- memories: ints, longs (doubles by their bits), references, what lies at an address (kind, length), the next address
abbrev zM : Type := (Nat → Nat → Int32) × (Nat → Nat → Int64) × (Nat → Nat → Option Nat) × (Nat → Option (Nat × Nat)) × Nat
def zI (M : zM) : Nat → Nat → Int32 := M.1
def zL (M : zM) : Nat → Nat → Int64 := M.2.1
def zP (M : zM) : Nat → Nat → Option Nat := M.2.2.1
def zK (M : zM) : Nat → Option (Nat × Nat) := M.2.2.2.1
def zN (M : zM) : Nat := M.2.2.2.2
def zwI (M : zM) (a k : Nat) (x : Int32) : zM := (fun b j => if b = a ∧ j = k then x else zI M b j, M.2)
def zwL (M : zM) (a k : Nat) (x : Int64) : zM := (M.1, fun b j => if b = a ∧ j = k then x else zL M b j, M.2.2)
def zwP (M : zM) (a k : Nat) (x : Option Nat) : zM := (M.1, M.2.1, fun b j => if b = a ∧ j = k then x else zP M b j, M.2.2.2)
def zcopy (M : zM) (s sp d dp n : Nat) : zM := (fun b j => if b = d ∧ dp ≤ j ∧ j < dp + n then zI M s (sp + (j - dp)) else zI M b j, M.2)
def znew (M : zM) (t n : Nat) : zM := (M.1, M.2.1, M.2.2.1, fun b => if b = zN M then some (t, n) else zK M b, zN M + 1)
def zgrow (M : zM) (n : Nat) : zM := (M.1, M.2.1, M.2.2.1, M.2.2.2.1, n)
def zg : Option Nat → Nat
  | some a => a
  | none => 0
/-- an object of class c; an array of kind t (20 and its elements' kind: 0 int, 1 long, 2 boolean, 3 char, 4 double, 5 int[], 6 int[][], 7 Puzzle, 8 Round, 9 boolean[]) with a place i -/
def zob (M : zM) (r : Option Nat) (c : Nat) : Prop := ∃ a, r = some a ∧ zK M a = some (c, 0)
def zar (M : zM) (r : Option Nat) (t : Nat) (i : Int32) : Prop := ∃ a n, r = some a ∧ zK M a = some (t, n) ∧ vp_in i n
def zis (M : zM) (r : Option Nat) (t : Nat) : Prop := ∃ a n, r = some a ∧ zK M a = some (t, n)
def zlenOf (M : zM) (r : Option Nat) : Nat := match zK M (zg r) with
  | some (_, n) => n
  | none => 0
def z01 (x : Int32) : Prop := x = 0 ∨ x = 1
def zch (x : Int32) : Prop := ∃ n : Nat, n < 65536 ∧ x = nI n
/-- the kind of a type: 0 int, 1 long, 2 reference, 5 boolean, 6 char, 9 other -/
def ztk : FieldType → Nat
  | .int => 0
  | .long => 1
  | .object _ => 2
  | .array _ => 2
  | .boolean => 5
  | .char => 6
  | _ => 9
def zfget (M : zM) (t a k : Nat) : Option zV := match t with
  | 0 => some (zi (zI M a k))
  | 1 => some (zl (zL M a k))
  | 2 => some (zr (zP M a k))
  | 5 => some (zi (zI M a k))
  | 6 => some (zi (zI M a k))
  | _ => none
def zfput (M : zM) (t a k : Nat) (v : zV) : Option (List Prop × zM) := match t, v with
  | 0, .inl x => some ([], zwI M a k x)
  | 5, .inl x => some ([z01 x], zwI M a k x)
  | 6, .inl x => some ([zch x], zwI M a k x)
  | 1, .inr (.inl x) => some ([], zwL M a k x)
  | 2, .inr (.inr (.inl x)) => some ([x = none ∨ ∃ b, x = some b], zwP M a k x)
  | _, _ => none
abbrev zC : Type := List Prop × Nat × zLs × List zV × zM
/-- one straight instruction: what must hold, and what comes -/
def zx (e : zE) (ls : zLs) (st : List zV) (M : zM) : Option zC :=
  match e with
  | (ins, nxt, aux, pos) =>
  match ins with
  | .aload_n _ | .aload _ => match zget ls aux with
    | some (.inr (.inr (.inl x))) => some ([], nxt, ls, zr x :: st, M)
    | _ => none
  | .iload_n _ | .iload _ => match zget ls aux with
    | some (.inl x) => some ([], nxt, ls, zi x :: st, M)
    | _ => none
  | .lload_n _ | .lload _ => match zget ls aux with
    | some (.inr (.inl x)) => some ([], nxt, ls, zl x :: st, M)
    | _ => none
  | .fload_n _ | .fload _ => match zget ls aux with
    | some (.inr (.inr (.inr (.inl x)))) => some ([], nxt, ls, zf x :: st, M)
    | _ => none
  | .dload_n _ | .dload _ => match zget ls aux with
    | some (.inr (.inr (.inr (.inr x)))) => some ([], nxt, ls, zd x :: st, M)
    | _ => none
  | .astore_n _ | .astore _ => match st with
    | .inr (.inr (.inl x)) :: st => zforce (zst aux (zr x) ls) (fun l => some ([], nxt, l, st, M))
    | _ => none
  | .istore_n _ | .istore _ => match st with
    | .inl x :: st => zforce (zst aux (zi x) ls) (fun l => some ([], nxt, l, st, M))
    | _ => none
  | .lstore_n _ | .lstore _ => match st with
    | .inr (.inl x) :: st => zforce (zst aux (zl x) ls) (fun l => some ([], nxt, l, st, M))
    | _ => none
  | .fstore_n _ | .fstore _ => match st with
    | .inr (.inr (.inr (.inl x))) :: st => zforce (zst aux (zf x) ls) (fun l => some ([], nxt, l, st, M))
    | _ => none
  | .dstore_n _ | .dstore _ => match st with
    | .inr (.inr (.inr (.inr x))) :: st => zforce (zst aux (zd x) ls) (fun l => some ([], nxt, l, st, M))
    | _ => none
  | .iinc _ n => match zget ls aux with
    | some (.inl x) => zforce (zst aux (zi (x + zcn n)) ls) (fun l => some ([], nxt, l, st, M))
    | _ => none
  | .iconst n => some ([], nxt, ls, zi (zcn n) :: st, M)
  | .bipush n => some ([], nxt, ls, zi (zcn n) :: st, M)
  | .sipush n => some ([], nxt, ls, zi (zcn n) :: st, M)
  | .lconst n => some ([], nxt, ls, zl (lN n) :: st, M)
  | .ldc_w _ => bif Nat.beq pos 0 then none else some ([], nxt, ls, zi (zcn (zldI pos)) :: st, M)
  | .ldc _ => bif Nat.beq pos 0 then none else some ([], nxt, ls, zi (zcn (zldI pos)) :: st, M)
  | .ldc2_w _ => some ([], nxt, ls, zl (Int64.ofInt (zldL pos)) :: st, M)
  | .fconst _ => some ([], nxt, ls, zf 0 :: st, M)
  | .dconst _ => some ([], nxt, ls, zd 0 :: st, M)
  | .dup => match st with
    | v :: st => bif zc2 v then none else some ([], nxt, ls, v :: v :: st, M)
    | _ => none
  | .pop => match st with
    | v :: st => bif zc2 v then none else some ([], nxt, ls, st, M)
    | _ => none
  | .dup2 => match st with
    | v :: st => bif zc2 v then some ([], nxt, ls, v :: v :: st, M) else match st with
      | w :: st => bif zc2 w then none else some ([], nxt, ls, v :: w :: v :: w :: st, M)
      | _ => none
    | _ => none
  | .iadd => match st with
    | .inl y :: .inl x :: st => some ([], nxt, ls, zi (x + y) :: st, M)
    | _ => none
  | .isub => match st with
    | .inl y :: .inl x :: st => some ([], nxt, ls, zi (x - y) :: st, M)
    | _ => none
  | .imul => match st with
    | .inl y :: .inl x :: st => some ([], nxt, ls, zi (x * y) :: st, M)
    | _ => none
  | .iand => match st with
    | .inl y :: .inl x :: st => some ([], nxt, ls, zi (x &&& y) :: st, M)
    | _ => none
  | .ior => match st with
    | .inl y :: .inl x :: st => some ([], nxt, ls, zi (x ||| y) :: st, M)
    | _ => none
  | .ixor => match st with
    | .inl y :: .inl x :: st => some ([], nxt, ls, zi (x ^^^ y) :: st, M)
    | _ => none
  | .idiv => match st with
    | .inl y :: .inl x :: st => some ([¬ y = 0], nxt, ls, zi (x / y) :: st, M)
    | _ => none
  | .irem => match st with
    | .inl y :: .inl x :: st => some ([¬ y = 0], nxt, ls, zi (x - x / y * y) :: st, M)
    | _ => none
  | .ineg => match st with
    | .inl x :: st => some ([], nxt, ls, zi (-x) :: st, M)
    | _ => none
  | .ishl => match st with
    | .inl y :: .inl x :: st => some ([], nxt, ls, zi (x <<< (y &&& 31)) :: st, M)
    | _ => none
  | .ishr => match st with
    | .inl y :: .inl x :: st => some ([], nxt, ls, zi (x >>> (y &&& 31)) :: st, M)
    | _ => none
  | .iushr => match st with
    | .inl y :: .inl x :: st => some ([], nxt, ls, zi ((x.toUInt32 >>> (y.toUInt32 &&& Int32.toUInt32 31)).toInt32) :: st, M)
    | _ => none
  | .ladd => match st with
    | .inr (.inl y) :: .inr (.inl x) :: st => some ([], nxt, ls, zl (x + y) :: st, M)
    | _ => none
  | .lsub => match st with
    | .inr (.inl y) :: .inr (.inl x) :: st => some ([], nxt, ls, zl (x - y) :: st, M)
    | _ => none
  | .lmul => match st with
    | .inr (.inl y) :: .inr (.inl x) :: st => some ([], nxt, ls, zl (x * y) :: st, M)
    | _ => none
  | .land => match st with
    | .inr (.inl y) :: .inr (.inl x) :: st => some ([], nxt, ls, zl (x &&& y) :: st, M)
    | _ => none
  | .lor => match st with
    | .inr (.inl y) :: .inr (.inl x) :: st => some ([], nxt, ls, zl (x ||| y) :: st, M)
    | _ => none
  | .lxor => match st with
    | .inr (.inl y) :: .inr (.inl x) :: st => some ([], nxt, ls, zl (x ^^^ y) :: st, M)
    | _ => none
  | .ldiv => match st with
    | .inr (.inl y) :: .inr (.inl x) :: st => some ([¬ y = 0], nxt, ls, zl (x / y) :: st, M)
    | _ => none
  | .lrem => match st with
    | .inr (.inl y) :: .inr (.inl x) :: st => some ([¬ y = 0], nxt, ls, zl (x - x / y * y) :: st, M)
    | _ => none
  | .lshl => match st with
    | .inl y :: .inr (.inl x) :: st => some ([], nxt, ls, zl (x <<< (y.toInt64 &&& 63)) :: st, M)
    | _ => none
  | .lushr => match st with
    | .inl y :: .inr (.inl x) :: st => some ([], nxt, ls, zl ((x.toUInt64 >>> (y.toInt64.toUInt64 &&& Int64.toUInt64 63)).toInt64) :: st, M)
    | _ => none
  | .lcmp => match st with
    | .inr (.inl y) :: .inr (.inl x) :: st => some ([], nxt, ls, zi (lg_cmp x y) :: st, M)
    | _ => none
  | .i2l => match st with
    | .inl x :: st => some ([], nxt, ls, zl x.toInt64 :: st, M)
    | _ => none
  | .l2i => match st with
    | .inr (.inl x) :: st => some ([], nxt, ls, zi x.toInt32 :: st, M)
    | _ => none
  | .i2c => match st with
    | .inl x :: st => some ([], nxt, ls, zi ((x.toUInt32 % 65536).toInt32) :: st, M)
    | _ => none
  | .i2f => match st with
    | .inl x :: st => some ([], nxt, ls, zf (FP.i2f x) :: st, M)
    | _ => none
  | .i2d => match st with
    | .inl x :: st => some ([], nxt, ls, zd (FP.i2d x) :: st, M)
    | _ => none
  | .l2d => match st with
    | .inr (.inl x) :: st => some ([], nxt, ls, zd (FP.l2d x) :: st, M)
    | _ => none
  | .f2d => match st with
    | .inr (.inr (.inr (.inl x))) :: st => some ([vf_n64 (FP.f2d x)], nxt, ls, zd (FP.f2d x) :: st, M)
    | _ => none
  | .fdiv => match st with
    | .inr (.inr (.inr (.inl y))) :: .inr (.inr (.inr (.inl x))) :: st => some ([vf_n32 (FP.fdiv x y)], nxt, ls, zf (FP.fdiv x y) :: st, M)
    | _ => none
  | .ddiv => match st with
    | .inr (.inr (.inr (.inr y))) :: .inr (.inr (.inr (.inr x))) :: st => some ([vf_n64 (FP.ddiv x y)], nxt, ls, zd (FP.ddiv x y) :: st, M)
    | _ => none
  | .fcmp op => match st with
    | .inr (.inr (.inr (.inl y))) :: .inr (.inr (.inr (.inl x))) :: st => some ([], nxt, ls, zi (Op.cmpValue (FP.fcmp x y) op) :: st, M)
    | _ => none
  | .dcmp op => match st with
    | .inr (.inr (.inr (.inr y))) :: .inr (.inr (.inr (.inr x))) :: st => some ([], nxt, ls, zi (Op.cmpValue (FP.dcmp x y) op) :: st, M)
    | _ => none
  | .goto _ => some ([], aux, ls, st, M)
  | .getfield _ => match st with
    | .inr (.inr (.inl r)) :: st => match zfget M (ztk (zty (aux / 64) (aux % 64))) (zg r) (aux % 64) with
      | some v => some ([zob M r (aux / 64)], nxt, ls, v :: st, M)
      | none => none
    | _ => none
  | .putfield _ => match st with
    | v :: .inr (.inr (.inl r)) :: st => match zfput M (ztk (zty (aux / 64) (aux % 64))) (zg r) (aux % 64) v with
      | some (ps, M') => some (zob M r (aux / 64) :: ps, nxt, ls, st, M')
      | none => none
    | _ => none
  | .iaload => match st with
    | .inl i :: .inr (.inr (.inl r)) :: st => some ([zar M r 20 i ∨ zar M r 30 i], nxt, ls, zi (zI M (zg r) i.toNatClampNeg) :: st, M)
    | _ => none
  | .laload => match st with
    | .inl i :: .inr (.inr (.inl r)) :: st => some ([zar M r 21 i], nxt, ls, zl (zL M (zg r) i.toNatClampNeg) :: st, M)
    | _ => none
  | .baload => match st with
    | .inl i :: .inr (.inr (.inl r)) :: st => some ([zar M r 22 i], nxt, ls, zi (zI M (zg r) i.toNatClampNeg) :: st, M)
    | _ => none
  | .caload => match st with
    | .inl i :: .inr (.inr (.inl r)) :: st => some ([zar M r 23 i], nxt, ls, zi (zI M (zg r) i.toNatClampNeg) :: st, M)
    | _ => none
  | .aaload => match st with
    | .inl i :: .inr (.inr (.inl r)) :: st => some ([zar M r 25 i ∨ zar M r 26 i ∨ zar M r 27 i ∨ zar M r 28 i ∨ zar M r 29 i], nxt, ls, zr (zP M (zg r) i.toNatClampNeg) :: st, M)
    | _ => none
  | .iastore => match st with
    | .inl x :: .inl i :: .inr (.inr (.inl r)) :: st => some ([zar M r 20 i], nxt, ls, st, zwI M (zg r) i.toNatClampNeg x)
    | _ => none
  | .lastore => match st with
    | .inr (.inl x) :: .inl i :: .inr (.inr (.inl r)) :: st => some ([zar M r 21 i], nxt, ls, st, zwL M (zg r) i.toNatClampNeg x)
    | _ => none
  | .bastore => match st with
    | .inl x :: .inl i :: .inr (.inr (.inl r)) :: st => some ([zar M r 22 i, z01 x], nxt, ls, st, zwI M (zg r) i.toNatClampNeg x)
    | _ => none
  | .castore => match st with
    | .inl x :: .inl i :: .inr (.inr (.inl r)) :: st => some ([zar M r 23 i, zch x], nxt, ls, st, zwI M (zg r) i.toNatClampNeg x)
    | _ => none
  | .aastore => match st with
    | .inr (.inr (.inl v)) :: .inl i :: .inr (.inr (.inl r)) :: st => some ([(zar M r 27 i ∧ zob M v 2) ∨ False], nxt, ls, st, zwP M (zg r) i.toNatClampNeg v)
    | _ => none
  | .arraylength => match st with
    | .inr (.inr (.inl r)) :: st => some ([∃ t, t ≤ 10 ∧ zis M r (20 + t)], nxt, ls, zi (nI (zlenOf M r)) :: st, M)
    | _ => none
  | .checkcast _ => match st with
    | .inr (.inr (.inl r)) :: st => some ([zis M r 20], nxt, ls, zr r :: st, M)
    | _ => none
  | .invokestatic _ => bif Nat.ble (zsum st) 10 then (match aux with
    | 900 => match st with
      | .inl y :: .inl x :: st => some ([], nxt, ls, zi (if x < y then y else x) :: st, M)
      | _ => none
    | 901 => match st with
      | .inl y :: .inl x :: st => some ([], nxt, ls, zi (if y < x then y else x) :: st, M)
      | _ => none
    | 903 => match st with
      | .inr (.inl y) :: .inr (.inl x) :: st => some ([], nxt, ls, zl (if y < x then y else x) :: st, M)
      | _ => none
    | _ => none) else none
  | .invokespecial _ => bif Nat.ble (zsum st) 10 then (match aux with
    | 906 => match st with
      | .inr (.inr (.inl r)) :: st => some ([∃ a, r = some a], nxt, ls, st, M)
      | _ => none
    | _ => none) else none
  | _ => none
/-- all of a row hold -/
def zall : List Prop → Prop
  | [] => True
  | [p] => p
  | p :: q :: t => p ∧ zall (q :: t)
/-- a branch: the question, where to if so, where to if not, the stack -/
def zb (e : zE) (st : List zV) : Option (Prop × Nat × Nat × List zV) :=
  match e with
  | (ins, nxt, aux, _) =>
  match ins with
  | .ifCond .eq _ => match st with
    | .inl x :: st => some (x = 0, aux, nxt, st)
    | _ => none
  | .ifCond .ne _ => match st with
    | .inl x :: st => some (¬ x = 0, aux, nxt, st)
    | _ => none
  | .ifCond .lt _ => match st with
    | .inl x :: st => some (x < 0, aux, nxt, st)
    | _ => none
  | .ifCond .ge _ => match st with
    | .inl x :: st => some (0 ≤ x, aux, nxt, st)
    | _ => none
  | .ifCond .gt _ => match st with
    | .inl x :: st => some (0 < x, aux, nxt, st)
    | _ => none
  | .ifCond .le _ => match st with
    | .inl x :: st => some (x ≤ 0, aux, nxt, st)
    | _ => none
  | .if_icmp .eq _ => match st with
    | .inl y :: .inl x :: st => some (x = y, aux, nxt, st)
    | _ => none
  | .if_icmp .ne _ => match st with
    | .inl y :: .inl x :: st => some (¬ x = y, aux, nxt, st)
    | _ => none
  | .if_icmp .lt _ => match st with
    | .inl y :: .inl x :: st => some (x < y, aux, nxt, st)
    | _ => none
  | .if_icmp .ge _ => match st with
    | .inl y :: .inl x :: st => some (y ≤ x, aux, nxt, st)
    | _ => none
  | .if_icmp .gt _ => match st with
    | .inl y :: .inl x :: st => some (y < x, aux, nxt, st)
    | _ => none
  | .if_icmp .le _ => match st with
    | .inl y :: .inl x :: st => some (x ≤ y, aux, nxt, st)
    | _ => none
  | .ifnull _ => match st with
    | .inr (.inr (.inl x)) :: st => some (x = none, aux, nxt, st)
    | _ => none
  | .ifnonnull _ => match st with
    | .inr (.inr (.inl x)) :: st => some (¬ x = none, aux, nxt, st)
    | _ => none
  | _ => none
/-- a switch: where it goes -/
def zsw (e : zE) (pc : Nat) (st : List zV) : Option (Nat × List zV) :=
  match e with
  | (ins, _, _, _) =>
  match ins with
  | .lookupswitch d ps => match st with
    | .inl x :: st => some (((pc : Int) + Op.lookupswitch.offset ps.toList d x.toInt).toNat, st)
    | _ => none
  | .tableswitch d lo hi offs => match st with
    | .inl x :: st => some (((pc : Int) + (if x.toInt < lo ∨ hi < x.toInt then d else offs.getD (x.toInt - lo).toNat d)).toNat, st)
    | _ => none
  | _ => none
/-- a return: what must hold, the answer -/
def zq (e : zE) (ret : Option FieldType) (st : List zV) : Option (Prop × Option zV) :=
  match e with
  | (ins, _, _, _) =>
  match ins, st, ret with
  | .return_, [], none => some (True, none)
  | .ireturn, [.inl x], some .int => some (True, some (zi x))
  | .ireturn, [.inl x], some .boolean => some (z01 x, some (zi x))
  | .lreturn, [.inr (.inl x)], some .long => some (True, some (zl x))
  | .freturn, [.inr (.inr (.inr (.inl x)))], some .float => some (True, some (zf x))
  | .dreturn, [.inr (.inr (.inr (.inr x)))], some .double => some (True, some (zd x))
  | .areturn, [.inr (.inr (.inl x))], some (.object _) => some (True, some (zr x))
  | _, _, _ => none
/-- the first n of a stack, the lowest first -/
def ztake : Nat → List zV → List zV → Option (List zV × List zV)
  | 0, st, acc => some (acc, st)
  | _ + 1, [], _ => none
  | n + 1, v :: st, acc => ztake n st (v :: acc)
/-- a call: the method, its arguments (the object first), the stack behind it, the object's class where there is one -/
def zp (e : zE) (st : List zV) : Option (Nat × List zV × List zV × Option (Option Nat × Nat)) :=
  match e with
  | (ins, _, aux, _) =>
  match ins with
  | .invokestatic _ => bif Nat.ble 900 aux then none else (bif Nat.beq (zkd aux) 0 then (match ztake (zna aux) st [] with
    | some (as, st) => bif Nat.ble (zsum st) 8 && Nat.ble (zsum as) (zmaxL aux) then some (aux, as, st, none) else none
    | none => none) else none)
  | .invokevirtual _ => bif Nat.ble 900 aux then none else (bif Nat.beq (zkd aux) 1 then (match ztake (zna aux + 1) st [] with
    | some (.inr (.inr (.inl r)) :: as, st) => bif Nat.ble (zsum st) 8 && Nat.ble (zsum as + 1) (zmaxL aux) then some (aux, zr r :: as, st, some (r, zrc aux)) else none
    | _ => none) else none)
  | .invokespecial _ => bif Nat.ble 900 aux then none else (bif Nat.beq (zkd aux) 2 then (match ztake (zna aux + 1) st [] with
    | some (.inr (.inr (.inl r)) :: as, st) => bif Nat.ble (zsum st) 8 && Nat.ble (zsum as + 1) (zmaxL aux) then some (aux, zr r :: as, st, some (r, zrc aux)) else none
    | _ => none) else none)
  | _ => none
/-- the handler of a place for an exception -/
def zhand (pc x : Nat) : List (Nat × Nat × Nat × Nat × Nat) → Option Nat
  | [] => none
  | (a, b, h, k, _) :: t => bif Nat.ble a pc && Nat.blt pc b && Nat.beq k x then some h else zhand pc x t
/-- what a method comes to: an answer, or an exception by its number -/
abbrev zO : Type := Option zV ⊕ Nat
def zle (l' l : zLs) : Prop := l'.length = l.length ∧ ∀ i v, zget l' i = some v → zget l i = some v
/-- fresh: nothing lies there, all is zero -/
def zfresh (M : zM) (a : Nat) : Prop := zK M a = none ∧ (∀ k, zI M a k = 0) ∧ (∀ k, zL M a k = 0) ∧ ∀ k, zP M a k = none
/-- n rows, each by f, under an outer array of kind t -/
def zmaR (f : zM → zM) (M : zM) (t n : Nat) : Nat → zM
  | 0 => znew M t n
  | i + 1 => zwP (f (zmaR f M t n i)) (zN M) i (some (zN (zmaR f M t n i)))
/-- a row: n of kind t (0 int, 2 boolean); two dimensions; three -/
def zma1 (t n : Nat) (M : zM) : zM := znew M (20 + t) n
def zma2 (o t n m : Nat) (M : zM) : zM := zmaR (zma1 t m) M (20 + o) n n
def zma3 (n m k : Nat) (M : zM) : zM := zmaR (zma2 5 0 m k) M 26 n n
/-- makings: an object, an array, an array of references, a copy -/
def zmk (e : zE) (st : List zV) (M : zM) : Option (List Prop × Nat × Nat × Nat × Nat × List zV × zM) :=
  match e with
  | (ins, nxt, aux, _) =>
  match ins with
  | .new _ => bif Nat.ble 1000 aux then none else some ([], nxt, 1, zNf aux, zN M + 1, zr (some (zN M)) :: st, znew M aux 0)
  | .newarray _ => match st with
    | .inl n :: st => some ([¬ n < 0, n.toNatClampNeg < 1000000], nxt, 1, n.toNatClampNeg, zN M + 1, zr (some (zN M)) :: st, znew M (20 + aux) n.toNatClampNeg)
    | _ => none
  | .anewarray _ => match st with
    | .inl n :: st => some ([¬ n < 0, n.toNatClampNeg < 1000000], nxt, 1, n.toNatClampNeg, zN M + 1, zr (some (zN M)) :: st, znew M (20 + aux) n.toNatClampNeg)
    | _ => none
  | .multianewarray _ dm => match dm, st with
    | 2, .inl n2 :: .inl n1 :: st => some ([¬ n1 < 0, n1.toNatClampNeg ≤ 1000, ¬ n2 < 0, n2.toNatClampNeg ≤ 1000], nxt, 1 + n1.toNatClampNeg * 1, n1.toNatClampNeg + n1.toNatClampNeg * n2.toNatClampNeg, 0, zr (some (zN M)) :: st, zma2 5 0 n1.toNatClampNeg n2.toNatClampNeg M)
    | _, _ => none
  | _ => none
/-- one step from a place of a method, with d frames and the used room c, s: P holds of what comes (a place behind, a callee's start), Q of the end -/
def zF (P : Nat → Nat → Nat → Nat → Nat → zLs → List zV → zM → (zO → zM → Prop) → Prop) (y d c s pc : Nat) (ls0 : zLs) (st : List zV) (M : zM) (Q : zO → zM → Prop) : Prop :=
  ∃ ls, zle ls ls0 ∧ 1 ≤ d ∧ ∃ e, zops y pc = some e ∧ (
      (∃ ps pc' ls' st' M', zx e ls st M = some (ps, pc', ls', st', M') ∧ zall ps ∧ P y d c s pc' ls' st' M' Q)
    ∨ (∃ p t f st', zb e st = some (p, t, f, st') ∧ (p → P y d c s t ls st' M Q) ∧ (¬ p → P y d c s f ls st' M Q))
    ∨ (∃ t st', zsw e pc st = some (t, st') ∧ P y d c s t ls st' M Q)
    ∨ (∃ p v, zq e (zret y) st = some (p, v) ∧ p ∧ Q (.inl v) M)
    ∨ (∃ y' as st' ob Q1, zp e st = some (y', as, st', ob) ∧ (∀ r k, ob = some (r, k) → zob M r k) ∧ c + zmc y' ≤ zmc y ∧ s + zms y' ≤ zms y ∧ 2 ≤ d ∧
        P y' (d - 1) 0 0 0 (zarg (zmaxL y') as) [] M Q1 ∧ ∀ o M', Q1 o M' → match o with
          | .inl v => P y d (c + zmc y') (s + zms y') e.2.1 ls (v.toList ++ st') M' Q
          | .inr x => match zhand pc x (zhs y) with
            | some h => ∀ q, P y d (c + zmc y') (s + zms y') h ls [zr (some q)] M' Q
            | none => Q (.inr x) M')
    ∨ (∃ ps nxt k m N st' M', zmk e st M = some (ps, nxt, k, m, N, st', M') ∧ zall ps ∧ c + k ≤ zmc y ∧ s + m ≤ zms y ∧ (zfresh M (zN M) → P y d (c + k) (s + m) nxt ls st' M' Q))
    ∨ (∃ i, e.1 = .new i ∧ 1000 ≤ e.2.2.1 ∧ st = [] ∧ 6 ≤ d ∧ c + 1 ≤ zmc y ∧ s + 6 ≤ zms y ∧ zhh y = [] ∧ ∀ N, zN M ≤ N → (∀ a, zN M ≤ a → zfresh M a) → Q (.inr (zthr (e.2.2.1 - 1000)).1) (zgrow M N)))
/-- from this place of this method an end with Q comes: the least relation that steps keep -/
def zW (y d c s pc : Nat) (ls : zLs) (st : List zV) (M : zM) (Q : zO → zM → Prop) : Prop :=
  ∀ P : Nat → Nat → Nat → Nat → Nat → zLs → List zV → zM → (zO → zM → Prop) → Prop, (∀ y d c s pc ls st M Q, zF P y d c s pc ls st M Q → P y d c s pc ls st M Q) → P y d c s pc ls st M Q
/-- a method from its start -/
def zS (y d : Nat) (as : List zV) (M : zM) (Q : zO → zM → Prop) : Prop := zW y d 0 0 0 (zarg (zmaxL y) as) [] M Q
