/-! A small machine of our own, over numbered cells: what it answers the real one answers (part 06 on). -/
abbrev XK : Type := List ((FieldType × Nat) ⊕ Nat)
abbrev XW : Type := XK × (Nat → Nat → Option Nat) × (Nat → Nat → Int32) × (Nat → Nat → Int64)
/-- an entry of code: place, instruction, length, three numbers that its links come to, the place of its word in lw_tbl, a table -/
abbrev XE : Type := Nat × Instr × Nat × Nat × Nat × Nat × Nat × List (Int × Nat)
/-- a method: name, bytes, locals, what it answers, its code, how many parameters, the places of its words in lw_tbl -/
abbrev MI : Type := MethodName × ByteArray × Nat × Option FieldType × List XE × Nat × List Nat
abbrev XL : Type := List (Option Value)
abbrev XS : Type := Nat × XL × List Value × XW
def xBIG : Nat := 1000000
def clT (ci : Nat) : Nat → FieldType := match ci with
  | 0 => tyX0
  | 1 => tyX1
  | 2 => tyX2
  | 3 => tyX4
  | 4 => tyX4
  | 5 => tyX5
  | 6 => tyX6
  | 7 => tyX7
  | 8 => tyX8
  | 9 => tyX9
  | _ => tyX10
def clN (ci : Nat) : Nat := match classes[ci]? with
  | some r => r.2.2
  | none => 0
def rfv : Option Nat → Value
  | none => .null
  | some n => .ref n
/-- what a slot of a type holds -/
def fval (ty : FieldType) (r : Option Nat) (i : Int32) (l : Int64) : Value := match ty with
  | .object _ => rfv r
  | .array _ => rfv r
  | .long => .long l
  | _ => .int i
def isRefT : FieldType → Bool
  | .object _ => true
  | .array _ => true
  | _ => false
def isIntT : FieldType → Bool
  | .int => true
  | .boolean => true
  | _ => false
def updR {α : Type} (f : Nat → Nat → α) (k j : Nat) (v : α) : Nat → Nat → α := fun a b => if a = k ∧ b = j then v else f a b
def clrR {α : Type} (f : Nat → Nat → α) (k : Nat) (v : α) : Nat → Nat → α := fun a b => if a = k then v else f a b
/-- n items of cell a from sp on come to cell b from dp on -/
def cpyR {α : Type} (f : Nat → Nat → α) (a sp b dp n : Nat) : Nat → Nat → α := fun k j => if k = b ∧ dp ≤ j ∧ j < dp + n then f a (sp + (j - dp)) else f k j
def lget (ls : XL) (i : Nat) : Option Value := match ls[i]? with
  | some (some v) => some v
  | _ => none
def lclr (ls : XL) : Nat → XL
  | 0 => ls
  | i + 1 => match ls[i]? with
    | some (some (.long _)) => ls.set i none
    | some (some (.double _)) => ls.set i none
    | _ => ls
def lset1 (ls : XL) (i : Nat) (v : Value) : XL := (lclr ls i).set i (some v)
def lset2 (ls : XL) (i : Nat) (v : Value) : XL := ((lclr ls i).set i (some v)).set (i + 1) none
def entL : List Value → XL
  | [] => []
  | v :: vs => if v.category = 2 then some v :: none :: entL vs else some v :: entL vs
def entX (n : Nat) (vs : List Value) : XL := entL vs ++ List.replicate (n - (entL vs).length) none
/-- what was there before: the class's tables, the script (X: 0, none is told; n + 1: of n ints) -/
def cInts (X : Nat × (Nat → Int32)) (k : Nat) : Option (Nat × (Nat → Int32)) :=
  if k = 1000040 then some (7, fun j => ([-1, 0, 0, 0, 1, 2, 3] : List Int32).getD j 0)
  else if k = 1000041 then some (21, fun j => ([10, 11, 12, 0, 20, 0, 30, 0, 0, 0, 0, 40, 50, 51, 0, 0, 0, 60, 71, 70, 0] : List Int32).getD j 0)
  else if k = 1000042 then some (6, fun j => ([0, 1, 5, 21, 85, 341] : List Int32).getD j 0)
  else if k = 1000050 then (match X.1 with
    | 0 => none
    | n + 1 => some (n, X.2))
  else none
def strLen : List Nat := [4, 4, 4, 4, 1, 6, 3, 1]
def strByt : List (List Int32) := [[98, 97, 108, 107], [114, 105, 115, 101], [102, 97, 108, 108], [119, 105, 108, 108], [32], [99, 119, 107, 118, 108, 110], [60, 61, 62], [41]]
def cByts (k : Nat) : Option (Nat × (Nat → Int32)) :=
  if 1000020 ≤ k ∧ k < 1000028 then some (strLen.getD (k - 1000020) 0, fun j => (strByt.getD (k - 1000020) []).getD j 0) else none
def inA (i : Int32) (n : Nat) : Bool := !(decide (i < 0) || decide (n ≤ i.toNatClampNeg))
def sWord (st : List Value) : Bool := decide ((st.map fun v => v.category).sum ≤ 8)
/-- where a switch goes -/
def swT (t : List (Int × Nat)) (d : Nat) (x : Int) : Nat := match t with
  | [] => d
  | q :: t => if x = q.1 then q.2 else swT t d x
def stpJ (e : XE) (pc : Nat) (ls : XL) (st : List Value) (w : XW) : Option XS := match e with
  | (_, i, _, a, _, _, _, t) => match i, st with
    | .goto _, st => some (a, ls, st, w)
    | .ifCond .eq _, .int x :: st => some (if x = 0 then a else pc + 3, ls, st, w)
    | .ifCond .ne _, .int x :: st => some (if x = 0 then pc + 3 else a, ls, st, w)
    | .ifCond .lt _, .int x :: st => some (if x < 0 then a else pc + 3, ls, st, w)
    | .ifCond .ge _, .int x :: st => some (if x < 0 then pc + 3 else a, ls, st, w)
    | .ifCond .gt _, .int x :: st => some (if 0 < x then a else pc + 3, ls, st, w)
    | .ifCond .le _, .int x :: st => some (if 0 < x then pc + 3 else a, ls, st, w)
    | .if_icmp .eq _, .int y :: .int x :: st => some (if x = y then a else pc + 3, ls, st, w)
    | .if_icmp .ne _, .int y :: .int x :: st => some (if x = y then pc + 3 else a, ls, st, w)
    | .if_icmp .lt _, .int y :: .int x :: st => some (if x < y then a else pc + 3, ls, st, w)
    | .if_icmp .ge _, .int y :: .int x :: st => some (if x < y then pc + 3 else a, ls, st, w)
    | .if_icmp .gt _, .int y :: .int x :: st => some (if y < x then a else pc + 3, ls, st, w)
    | .if_icmp .le _, .int y :: .int x :: st => some (if y < x then pc + 3 else a, ls, st, w)
    | .ifnull _, .null :: st => some (a, ls, st, w)
    | .ifnull _, .ref k :: st => if k < w.1.length then some (pc + 3, ls, st, w) else none
    | .ifnonnull _, .null :: st => some (pc + 3, ls, st, w)
    | .ifnonnull _, .ref k :: st => if k < w.1.length then some (a, ls, st, w) else none
    | .tableswitch _ _ _ _, .int x :: st => some (swT t a x.toInt, ls, st, w)
    | .lookupswitch _ _, .int x :: st => some (swT t a x.toInt, ls, st, w)
    | _, _ => none
def stpV (e : XE) (pc : Nat) (ls : XL) (st : List Value) (w : XW) : Option XS := match e with
  | (_, i, n, _, _, _, _, t) => match i, st with
    | .iconst z, st => some (pc + n, ls, .int (Int32.ofInt z) :: st, w)
    | .bipush z, st => some (pc + n, ls, .int (Int8.ofInt z).toInt32 :: st, w)
    | .sipush z, st => some (pc + n, ls, .int (Int16.ofInt z).toInt32 :: st, w)
    | .lconst z, st => some (pc + n, ls, .long (Int64.ofNat z) :: st, w)
    | .ldc_w _, st => match t with
      | (z, _) :: _ => some (pc + n, ls, .int (Int32.ofInt z) :: st, w)
      | [] => none
    | .ldc2_w _, st => match t with
      | (z, _) :: _ => some (pc + n, ls, .long (Int64.ofInt z) :: st, w)
      | [] => none
    | .aconst_null, st => some (pc + n, ls, .null :: st, w)
    | .dup, v :: st => if v.category = 1 then some (pc + n, ls, v :: v :: st, w) else none
    | .pop, v :: st => if v.category = 1 then some (pc + n, ls, st, w) else none
    | .iadd, .int y :: .int x :: st => some (pc + n, ls, .int (x + y) :: st, w)
    | .isub, .int y :: .int x :: st => some (pc + n, ls, .int (x - y) :: st, w)
    | .imul, .int y :: .int x :: st => some (pc + n, ls, .int (x * y) :: st, w)
    | .idiv, .int y :: .int x :: st => if y = 0 then none else some (pc + n, ls, .int (x / y) :: st, w)
    | .irem, .int y :: .int x :: st => if y = 0 then none else some (pc + n, ls, .int (x - x / y * y) :: st, w)
    | .iand, .int y :: .int x :: st => some (pc + n, ls, .int (x &&& y) :: st, w)
    | .ior, .int y :: .int x :: st => some (pc + n, ls, .int (x ||| y) :: st, w)
    | .ixor, .int y :: .int x :: st => some (pc + n, ls, .int (x ^^^ y) :: st, w)
    | .ineg, .int x :: st => some (pc + n, ls, .int (-x) :: st, w)
    | .ishl, .int y :: .int x :: st => some (pc + n, ls, .int (x <<< (y &&& 31)) :: st, w)
    | .ishr, .int y :: .int x :: st => some (pc + n, ls, .int (x >>> (y &&& 31)) :: st, w)
    | .iushr, .int y :: .int x :: st => some (pc + n, ls, .int (x.toUInt32 >>> (y.toUInt32 &&& Int32.toUInt32 31)).toInt32 :: st, w)
    | .i2l, .int x :: st => some (pc + n, ls, .long x.toInt64 :: st, w)
    | .l2i, .long x :: st => some (pc + n, ls, .int x.toInt32 :: st, w)
    | .i2b, .int x :: st => some (pc + n, ls, .int x.toInt8.toInt32 :: st, w)
    | .i2s, .int x :: st => some (pc + n, ls, .int x.toInt16.toInt32 :: st, w)
    | .i2c, .int x :: st => some (pc + n, ls, .int (x.toUInt32 % 65536).toInt32 :: st, w)
    | .lcmp, .long y :: .long x :: st => some (pc + n, ls, .int (lg_cmp x y) :: st, w)
    | .lshl, .int y :: .long x :: st => some (pc + n, ls, .long (x <<< (y.toInt64 &&& 63)) :: st, w)
    | .land, .long y :: .long x :: st => some (pc + n, ls, .long (x &&& y) :: st, w)
    | .lor, .long y :: .long x :: st => some (pc + n, ls, .long (x ||| y) :: st, w)
    | _, _ => none
def stpL (e : XE) (pc : Nat) (ls : XL) (st : List Value) (w : XW) : Option XS := match e with
  | (_, i, n, a, _, _, _, _) => match i, st with
    | .iload_n _, st => match lget ls a with
      | some (.int x) => some (pc + n, ls, .int x :: st, w)
      | _ => none
    | .iload _, st => match lget ls a with
      | some (.int x) => some (pc + n, ls, .int x :: st, w)
      | _ => none
    | .lload_n _, st => match lget ls a with
      | some (.long x) => some (pc + n, ls, .long x :: st, w)
      | _ => none
    | .aload_n _, st => match lget ls a with
      | some (.ref x) => some (pc + n, ls, .ref x :: st, w)
      | some .null => some (pc + n, ls, .null :: st, w)
      | _ => none
    | .aload _, st => match lget ls a with
      | some (.ref x) => some (pc + n, ls, .ref x :: st, w)
      | some .null => some (pc + n, ls, .null :: st, w)
      | _ => none
    | .istore_n _, .int x :: st => if a < ls.length then some (pc + n, lset1 ls a (.int x), st, w) else none
    | .istore _, .int x :: st => if a < ls.length then some (pc + n, lset1 ls a (.int x), st, w) else none
    | .lstore_n _, .long x :: st => if a + 1 < ls.length then some (pc + n, lset2 ls a (.long x), st, w) else none
    | .astore_n _, .ref x :: st => if a < ls.length then some (pc + n, lset1 ls a (.ref x), st, w) else none
    | .astore_n _, .null :: st => if a < ls.length then some (pc + n, lset1 ls a .null, st, w) else none
    | .astore _, .ref x :: st => if a < ls.length then some (pc + n, lset1 ls a (.ref x), st, w) else none
    | .astore _, .null :: st => if a < ls.length then some (pc + n, lset1 ls a .null, st, w) else none
    | .iinc _ z, st => if a < ls.length then (match lget ls a with
      | some (.int x) => some (pc + n, lset1 ls a (.int (x + Int32.ofInt z)), st, w)
      | _ => none) else none
    | _, _ => none
def stpH (X : Nat × (Nat → Int32)) (e : XE) (pc : Nat) (ls : XL) (st : List Value) (w : XW) : Option XS := match e, w with
  | (_, i, n, a, b, c, _, _), (K, R, I, L) => match i, st with
    | .getfield _, .ref k :: st => match K[k]? with
      | some (.inr ci) => if c = 0 ∧ ci = a ∧ b < clN a then some (pc + n, ls, fval (clT a b) (R k b) (I k b) (L k b) :: st, w) else none
      | some (.inl _) => none
      | none => if c = 1 ∧ 1000000 ≤ k ∧ k < 1000008 then some (pc + n, ls, (if b = 0 then .int 0 else .ref (k + 20)) :: st, w) else none
    | .putfield _, .int x :: .ref k :: st => match K[k]? with
      | some (.inr ci) => if ci = a ∧ b < clN a ∧ isIntT (clT a b) = true ∧ fits (clT a b) (.int x) = true then some (pc + n, ls, st, (K, R, updR I k b x, L)) else none
      | _ => none
    | .putfield _, .ref x :: .ref k :: st => match K[k]? with
      | some (.inr ci) => if ci = a ∧ b < clN a ∧ isRefT (clT a b) = true ∧ x < K.length then some (pc + n, ls, st, (K, updR R k b (some x), I, L)) else none
      | _ => none
    | .getstatic _, st => some (pc + n, ls, (if c = 1 then .int (Int32.ofNat b) else .ref (1000040 + b)) :: st, w)
    | .ldc _, st => some (pc + n, ls, .ref (1000000 + a) :: st, w)
    | .iaload, .int i :: .ref k :: st => match K[k]? with
      | some (.inl (.int, m)) => if inA i m = true then some (pc + n, ls, .int (I k i.toNatClampNeg) :: st, w) else none
      | some _ => none
      | none => match cInts X k with
        | some (m, f) => if inA i m = true then some (pc + n, ls, .int (f i.toNatClampNeg) :: st, w) else none
        | none => none
    | .baload, .int i :: .ref k :: st => match K[k]? with
      | some (.inl (.boolean, m)) => if inA i m = true then some (pc + n, ls, .int (I k i.toNatClampNeg) :: st, w) else none
      | some _ => none
      | none => match cByts k with
        | some (m, f) => if inA i m = true then some (pc + n, ls, .int (f i.toNatClampNeg) :: st, w) else none
        | none => none
    | .laload, .int i :: .ref k :: st => match K[k]? with
      | some (.inl (.long, m)) => if inA i m = true then some (pc + n, ls, .long (L k i.toNatClampNeg) :: st, w) else none
      | _ => none
    | .aaload, .int i :: .ref k :: st => match K[k]? with
      | some (.inl (.object _, m)) => if inA i m = true then some (pc + n, ls, rfv (R k i.toNatClampNeg) :: st, w) else none
      | _ => none
    | .iastore, .int x :: .int i :: .ref k :: st => match K[k]? with
      | some (.inl (.int, m)) => if inA i m = true then some (pc + n, ls, st, (K, R, updR I k i.toNatClampNeg x, L)) else none
      | _ => none
    | .bastore, .int x :: .int i :: .ref k :: st => match K[k]? with
      | some (.inl (.boolean, m)) => if inA i m = true ∧ fits .boolean (.int x) = true then some (pc + n, ls, st, (K, R, updR I k i.toNatClampNeg x, L)) else none
      | _ => none
    | .lastore, .long x :: .int i :: .ref k :: st => match K[k]? with
      | some (.inl (.long, m)) => if inA i m = true then some (pc + n, ls, st, (K, R, I, updR L k i.toNatClampNeg x)) else none
      | _ => none
    | .aastore, .ref x :: .int i :: .ref k :: st => match K[k]?, K[x]? with
      | some (.inl (.object C, m)), some (.inr ci) => if inA i m = true ∧ (classes[ci]?).map (fun r => r.1) = some C then some (pc + n, ls, st, (K, updR R k i.toNatClampNeg (some x), I, L)) else none
      | _, _ => none
    | .arraylength, .ref k :: st => match K[k]? with
      | some (.inl (_, m)) => some (pc + n, ls, .int (Int32.ofNat m) :: st, w)
      | some (.inr _) => none
      | none => match cInts X k with
        | some (m, _) => some (pc + n, ls, .int (Int32.ofNat m) :: st, w)
        | none => match cByts k with
          | some (m, _) => some (pc + n, ls, .int (Int32.ofNat m) :: st, w)
          | none => none
    | _, _ => none
def xnew (K : XK) (R : Nat → Nat → Option Nat) (I : Nat → Nat → Int32) (L : Nat → Nat → Int64) (q : (FieldType × Nat) ⊕ Nat) : XW := (K ++ [q], clrR R K.length none, clrR I K.length 0, clrR L K.length 0)
def stpN (e : XE) (pc : Nat) (ls : XL) (st : List Value) (w : XW) : Option XS := match e, w with
  | (_, i, n, a, b, c, _, _), (K, R, I, L) => match i, st with
    | .new _, st => if K.length < 900000 ∧ a < 11 then some (pc + n, ls, .ref K.length :: st, xnew K R I L (.inr a)) else none
    | .newarray .int, .int x :: st => if K.length < 900000 ∧ ¬ x < 0 ∧ x.toNatClampNeg ≤ 10000 then some (pc + n, ls, .ref K.length :: st, xnew K R I L (.inl (.int, x.toNatClampNeg))) else none
    | .newarray .long, .int x :: st => if K.length < 900000 ∧ ¬ x < 0 ∧ x.toNatClampNeg ≤ 10000 then some (pc + n, ls, .ref K.length :: st, xnew K R I L (.inl (.long, x.toNatClampNeg))) else none
    | .newarray .boolean, .int x :: st => if K.length < 900000 ∧ ¬ x < 0 ∧ x.toNatClampNeg ≤ 10000 then some (pc + n, ls, .ref K.length :: st, xnew K R I L (.inl (.boolean, x.toNatClampNeg))) else none
    | .anewarray _, .int x :: st => match classes[a]? with
      | some r => if K.length < 900000 ∧ ¬ x < 0 ∧ x.toNatClampNeg ≤ 10000 then some (pc + n, ls, .ref K.length :: st, xnew K R I L (.inl (.object r.1, x.toNatClampNeg))) else none
      | none => none
    | .invokespecial _, .ref k :: st => if c = 21 ∧ sWord st = true ∧ k < K.length then some (pc + n, ls, st, w) else none
    | .invokestatic _, .int z :: .int dp :: .ref k1 :: .int sp :: .ref k0 :: st => match K[k0]?, K[k1]? with
      | some (.inl (t0, m0)), some (.inl (t1, m1)) => if c = 20 ∧ sWord st = true ∧ t0 = t1 ∧ ¬ sp < 0 ∧ ¬ dp < 0 ∧ ¬ z < 0 ∧ sp.toNatClampNeg + z.toNatClampNeg ≤ m0 ∧ dp.toNatClampNeg + z.toNatClampNeg ≤ m1 then
          (match t0 with
          | .int => some (pc + n, ls, st, (K, R, cpyR I k0 sp.toNatClampNeg k1 dp.toNatClampNeg z.toNatClampNeg, L))
          | .long => some (pc + n, ls, st, (K, R, I, cpyR L k0 sp.toNatClampNeg k1 dp.toNatClampNeg z.toNatClampNeg))
          | _ => none) else none
      | _, _ => none
    | _, _ => none
/-- which group an instruction is of: 0 jumps, 1 values, 2 locals, 3 cells, 4 makes cells and what is done at once, 5 returns, 6 calls -/
def grp (e : XE) : Nat := match e with
  | (_, i, _, _, _, c, _, _) => match i with
    | .goto _ => 0
    | .ifCond _ _ => 0
    | .if_icmp _ _ => 0
    | .ifnull _ => 0
    | .ifnonnull _ => 0
    | .tableswitch _ _ _ _ => 0
    | .lookupswitch _ _ => 0
    | .iload_n _ => 2
    | .iload _ => 2
    | .lload_n _ => 2
    | .aload_n _ => 2
    | .aload _ => 2
    | .istore_n _ => 2
    | .istore _ => 2
    | .lstore_n _ => 2
    | .astore_n _ => 2
    | .astore _ => 2
    | .iinc _ _ => 2
    | .getfield _ => 3
    | .putfield _ => 3
    | .getstatic _ => 3
    | .ldc _ => 3
    | .iaload => 3
    | .baload => 3
    | .laload => 3
    | .aaload => 3
    | .iastore => 3
    | .bastore => 3
    | .lastore => 3
    | .aastore => 3
    | .arraylength => 3
    | .new _ => 4
    | .newarray _ => 4
    | .anewarray _ => 4
    | .invokespecial _ => if c < 20 then 6 else 4
    | .invokestatic _ => if c < 20 then 6 else 4
    | .invokevirtual _ => 6
    | .ireturn => 5
    | .lreturn => 5
    | .areturn => 5
    | .return_ => 5
    | _ => 1
def stp (X : Nat × (Nat → Int32)) (e : XE) (pc : Nat) (ls : XL) (st : List Value) (w : XW) : Option XS := match grp e with
  | 0 => stpJ e pc ls st w
  | 1 => stpV e pc ls st w
  | 2 => stpL e pc ls st w
  | 3 => stpH X e pc ls st w
  | 4 => stpN e pc ls st w
  | _ => none
/-- a method's end -/
def rtn (ret : Option FieldType) (e : XE) (st : List Value) : Option (Option Value) := match e with
  | (_, i, _) => match i, st, ret with
    | .ireturn, [.int x], some .int => some (some (.int x))
    | .ireturn, [.int x], some ty => if fits ty (.int x) = true then some (some (.int x)) else none
    | .lreturn, [.long x], some .long => some (some (.long x))
    | .areturn, [.ref x], some (.object _) => some (some (.ref x))
    | .areturn, [.null], some (.object _) => some (some .null)
    | .return_, [], none => some none
    | _, _, _ => none
def cdx (cd : List XE) (pc : Nat) : Option XE := match cd with
  | [] => none
  | e :: cd => if e.1 = pc then some e else cdx cd pc
