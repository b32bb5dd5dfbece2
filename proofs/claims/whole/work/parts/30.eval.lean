/-! ===== the evaluator ===== -/
def xwI (I : Nat → Nat → Int32) (a j : Nat) (v : Int32) : Nat → Nat → Int32 := fun a' j' => cond (Nat.beq a' a) (cond (Nat.beq j' j) v (I a' j')) (I a' j')
def xwJ (J : Nat → Nat → Int64) (a j : Nat) (v : Int64) : Nat → Nat → Int64 := fun a' j' => cond (Nat.beq a' a) (cond (Nat.beq j' j) v (J a' j')) (J a' j')
def xzI (I : Nat → Nat → Int32) (a : Nat) : Nat → Nat → Int32 := fun a' j' => cond (Nat.beq a' a) 0 (I a' j')
def xzJ (J : Nat → Nat → Int64) (a : Nat) : Nat → Nat → Int64 := fun a' j' => cond (Nat.beq a' a) 0 (J a' j')
/-- n ints from place p of cell a to place q of cell b -/
def xcpI (I : Nat → Nat → Int32) (a p b q n : Nat) : Nat → Nat → Int32 := fun a' j' => cond (Nat.beq a' b) (va_cpy (I a) (I b) p q n j') (I a' j')
def xfv (I : Nat → Nat → Int32) (J : Nat → Nat → Int64) (a k c : Nat) : Value := match c with
  | 0 => .int (I a k)
  | 1 => .long (J a k)
  | 2 => .null
  | r + 3 => .ref r
def xIx (i : Int32) : Nat := i.toNatClampNeg
def xin (i : Int32) (n : Nat) : Bool := !(decide (i < 0) || Nat.ble n (xIx i))
def xeq (x y : Int32) : Bool := decide (x = y)
def xlt (x y : Int32) : Bool := decide (x < y)
def xlc (x y : Int64) : Int32 := lg_cmp x y
def xcp (c : ClassFile.Cond) (x y : Int32) : Bool := match c with
  | .eq => xeq x y
  | .ne => !(xeq x y)
  | .lt => xlt x y
  | .ge => !(xlt x y)
  | .gt => xlt y x
  | .le => !(xlt y x)
def xlg : Option Value → Bool
  | some (.long _) => true
  | some (.double _) => true
  | _ => false
/-- a long one place ahead goes when its second half is written over -/
def xcut (ls : xLs) (i : Nat) : xLs := match i with
  | 0 => ls
  | j + 1 => cond (xlg (ls.getD j none)) (ls.set j none) ls
def xst1 (ls : xLs) (i : Nat) (v : Value) : xLs := (xcut ls i).set i (some v)
def xst2 (ls : xLs) (i : Nat) (v : Value) : xLs := ((xcut ls i).set (i + 1) none).set i (some v)
def xargs : List Value → xLs
  | [] => []
  | v :: vs => match v with
    | .long _ => some v :: none :: xargs vs
    | _ => some v :: xargs vs
def xent (vs : List Value) (n : Nat) : xLs := xargs vs ++ List.replicate (n - (xargs vs).length) none
/-- the words that a stack's entries take -/
def xsm : List Value → Nat
  | [] => 0
  | v :: vs => (match v with
    | .long _ => 2
    | .double _ => 2
    | _ => 1) + xsm vs
/-- entries that an evaluator's stack may hold -/
def xok : Value → Bool
  | .int _ => true
  | .long _ => true
  | .ref _ => true
  | _ => false
section
variable {ρ : Type}
def xpI (st : List Value) (k : Int32 → List Value → Option ρ) : Option ρ := match st with
  | .int x :: r => k x r
  | _ => none
def xpL (st : List Value) (k : Int64 → List Value → Option ρ) : Option ρ := match st with
  | .long x :: r => k x r
  | _ => none
def xpII (st : List Value) (k : Int32 → Int32 → List Value → Option ρ) : Option ρ := match st with
  | .int y :: .int x :: r => k x y r
  | _ => none
def xpLL (st : List Value) (k : Int64 → Int64 → List Value → Option ρ) : Option ρ := match st with
  | .long y :: .long x :: r => k x y r
  | _ => none
def xpLI (st : List Value) (k : Int64 → Int32 → List Value → Option ρ) : Option ρ := match st with
  | .int y :: .long x :: r => k x y r
  | _ => none
def xpR (st : List Value) (k : Nat → List Value → Option ρ) : Option ρ := match st with
  | .ref a :: r => k a r
  | _ => none
def xpRI (st : List Value) (k : Nat → Int32 → List Value → Option ρ) : Option ρ := match st with
  | .int i :: .ref a :: r => k a i r
  | _ => none
def xpIIR (st : List Value) (k : Nat → Int32 → Int32 → List Value → Option ρ) : Option ρ := match st with
  | .int x :: .int i :: .ref a :: r => k a i x r
  | _ => none
def xpLIR (st : List Value) (k : Nat → Int32 → Int64 → List Value → Option ρ) : Option ρ := match st with
  | .long x :: .int i :: .ref a :: r => k a i x r
  | _ => none
def xpC (st : List Value) (k : Int32 → Int32 → Nat → Int32 → Nat → List Value → Option ρ) : Option ρ := match st with
  | .int n :: .int q :: .ref b :: .int p :: .ref a :: r => k n q b p a r
  | _ => none
/-- so many arguments: k gets them first to last -/
def xpN (n : Nat) (acc st : List Value) (k : List Value → List Value → Option ρ) : Option ρ := match n with
  | 0 => k acc st
  | n + 1 => match st with
    | [] => none
    | v :: r => cond (xok v) (xpN n (v :: acc) r k) none
/-- the shape of a cell -/
def xsh (M : xMem) (a : Nat) (k : xSh → Option ρ) : Option ρ := match M.1[a]? with
  | some h => k h
  | none => none
def xif (b : Bool) (x : Option ρ) : Option ρ := cond b x none
/-- a row's kind: its length -/
def xrow (M : xMem) (kind a : Nat) (k : Nat → Option ρ) : Option ρ := xsh M a fun h => xif (Nat.beq h.1 kind) (k h.2.1)
def xlv (ls : xLs) (i : Nat) (k : Value → Option ρ) : Option ρ := match ls[i]? with
  | some (some v) => k v
  | _ => none
end
def xsw (F : Nat → Option xRes) (x : Int32) (d : Nat) : List (Int32 × Nat) → Option xRes
  | [] => F d
  | q :: qs => cond (xeq x q.1) (F q.2) (xsw F x d qs)
def xtabs (pc : Nat) (lo : Int) : List Int → List (Int32 × Nat)
  | [] => []
  | o :: os => (Int32.ofInt lo, ((pc : Int) + o).toNat) :: xtabs pc (lo + 1) os
def xlook (pc : Nat) : List (Int × Int) → List (Int32 × Nat)
  | [] => []
  | o :: os => (Int32.ofInt o.1, ((pc : Int) + o.2).toNat) :: xlook pc os
def xpush (r : Option Value) (st : List Value) : List Value := match r with
  | none => st
  | some v => v :: st
/-- a new cell -/
def xnew (M : xMem) (h : xSh) : xMem := (M.1 ++ [h], xzI M.2.1 M.1.length, xzJ M.2.2 M.1.length)
def xputI (M : xMem) (a k : Nat) (x : Int32) : xMem := (M.1, xwI M.2.1 a k x, M.2.2)
def xputJ (M : xMem) (a k : Nat) (x : Int64) : xMem := (M.1, M.2.1, xwJ M.2.2 a k x)
def xputR (M : xMem) (a k r : Nat) : xMem := ((match M.1[a]? with
  | some h => M.1.set a (h.1, h.2.1, h.2.2.set k (r + 3))
  | none => M.1), M.2.1, M.2.2)
/-- the kinds of rows: 1 ints, 2 longs, 3 chars, 4 booleans -/
def xkd : ArrayType → Nat
  | .int => 1
  | .long => 2
  | .char => 3
  | .boolean => 4
  | _ => 0
/-- what the own words' text has at a place -/
def xtext : List Int32 := [105, 110, 107, 32, 101, 121, 101, 115, 32, 108, 101, 97, 102, 32, 114, 101, 97, 100, 101, 114, 32, 112, 97, 99, 101, 32, 115, 107, 105, 112, 115, 32, 112, 97, 121, 32, 119, 104, 101, 110, 32, 119, 111, 114, 100, 32, 103, 117, 97, 114, 100, 32, 111, 114, 32, 97, 110, 100, 32, 110, 111, 116, 32, 97, 108, 108, 32, 112, 108, 97, 99, 101, 32, 108, 101, 116, 116, 101, 114, 32, 110, 101, 101, 100, 115, 32, 109, 105, 110, 32, 109, 97, 120, 32]
def xchar (i : Int32) : Int32 := xtext.getD (xIx i) 0
/-- one instruction: G runs a called method, F goes on; ml: how many locals a method has; rt: whether a method answers a boolean; dc: the codes of a class's fields at the start -/
def xins (dc : Nat → List Nat) (ml : Nat → Nat) (rt : Nat → Nat) (G F : xSt → Option xRes) (E : xEnt) (d mi pc : Nat) (ls : xLs) (st : List Value) (M : xMem) : Option xRes := match E.1 with
  | .iconst _ => F (d, mi, pc + 1, ls, .int E.2.2.2.2.2.1 :: st, M)
  | .bipush _ => F (d, mi, pc + 2, ls, .int E.2.2.2.2.2.1 :: st, M)
  | .sipush _ => F (d, mi, pc + 3, ls, .int E.2.2.2.2.2.1 :: st, M)
  | .ldc _ => cond (Nat.beq E.2.2.1 0) (F (d, mi, pc + 2, ls, .int E.2.2.2.2.2.1 :: st, M)) (F (d, mi, pc + 2, ls, .ref 1 :: st, M))
  | .ldc_w _ => F (d, mi, pc + 3, ls, .int E.2.2.2.2.2.1 :: st, M)
  | .lconst _ => F (d, mi, pc + 1, ls, .long E.2.2.2.2.2.2 :: st, M)
  | .ldc2_w _ => F (d, mi, pc + 3, ls, .long E.2.2.2.2.2.2 :: st, M)
  | .iload_n _ => xlv ls E.2.2.1 fun v => match v with
    | .int x => F (d, mi, pc + 1, ls, .int x :: st, M)
    | _ => none
  | .iload _ => xlv ls E.2.2.1 fun v => match v with
    | .int x => F (d, mi, pc + 2, ls, .int x :: st, M)
    | _ => none
  | .lload_n _ => xlv ls E.2.2.1 fun v => match v with
    | .long x => F (d, mi, pc + 1, ls, .long x :: st, M)
    | _ => none
  | .lload _ => xlv ls E.2.2.1 fun v => match v with
    | .long x => F (d, mi, pc + 2, ls, .long x :: st, M)
    | _ => none
  | .aload_n _ => xlv ls E.2.2.1 fun v => match v with
    | .ref x => F (d, mi, pc + 1, ls, .ref x :: st, M)
    | _ => none
  | .aload _ => xlv ls E.2.2.1 fun v => match v with
    | .ref x => F (d, mi, pc + 2, ls, .ref x :: st, M)
    | _ => none
  | .istore_n _ => xpI st fun x r => xif (Nat.blt E.2.2.1 (ml mi)) (F (d, mi, pc + 1, xst1 ls E.2.2.1 (.int x), r, M))
  | .istore _ => xpI st fun x r => xif (Nat.blt E.2.2.1 (ml mi)) (F (d, mi, pc + 2, xst1 ls E.2.2.1 (.int x), r, M))
  | .lstore_n _ => xpL st fun x r => xif (Nat.blt (E.2.2.1 + 1) (ml mi)) (F (d, mi, pc + 1, xst2 ls E.2.2.1 (.long x), r, M))
  | .lstore _ => xpL st fun x r => xif (Nat.blt (E.2.2.1 + 1) (ml mi)) (F (d, mi, pc + 2, xst2 ls E.2.2.1 (.long x), r, M))
  | .astore_n _ => xpR st fun x r => xif (Nat.blt E.2.2.1 (ml mi)) (F (d, mi, pc + 1, xst1 ls E.2.2.1 (.ref x), r, M))
  | .astore _ => xpR st fun x r => xif (Nat.blt E.2.2.1 (ml mi)) (F (d, mi, pc + 2, xst1 ls E.2.2.1 (.ref x), r, M))
  | .iinc _ _ => xlv ls E.2.2.1 fun v => match v with
    | .int x => xif (Nat.blt E.2.2.1 (ml mi)) (F (d, mi, pc + 3, xst1 ls E.2.2.1 (.int (x + E.2.2.2.2.2.1)), st, M))
    | _ => none
  | .iadd => xpII st fun x y r => F (d, mi, pc + 1, ls, .int (x + y) :: r, M)
  | .isub => xpII st fun x y r => F (d, mi, pc + 1, ls, .int (x - y) :: r, M)
  | .imul => xpII st fun x y r => F (d, mi, pc + 1, ls, .int (x * y) :: r, M)
  | .iand => xpII st fun x y r => F (d, mi, pc + 1, ls, .int (x &&& y) :: r, M)
  | .ior => xpII st fun x y r => F (d, mi, pc + 1, ls, .int (x ||| y) :: r, M)
  | .idiv => xpII st fun x y r => xif (!(xeq y 0)) (F (d, mi, pc + 1, ls, .int (x / y) :: r, M))
  | .irem => xpII st fun x y r => xif (!(xeq y 0)) (F (d, mi, pc + 1, ls, .int (x - x / y * y) :: r, M))
  | .ineg => xpI st fun x r => F (d, mi, pc + 1, ls, .int (-x) :: r, M)
  | .ishl => xpII st fun x y r => F (d, mi, pc + 1, ls, .int (x <<< (y &&& 31)) :: r, M)
  | .ishr => xpII st fun x y r => F (d, mi, pc + 1, ls, .int (x >>> (y &&& 31)) :: r, M)
  | .iushr => xpII st fun x y r => F (d, mi, pc + 1, ls, .int (x.toUInt32 >>> (y.toUInt32 &&& Int32.toUInt32 31)).toInt32 :: r, M)
  | .i2l => xpI st fun x r => F (d, mi, pc + 1, ls, .long x.toInt64 :: r, M)
  | .l2i => xpL st fun x r => F (d, mi, pc + 1, ls, .int x.toInt32 :: r, M)
  | .ladd => xpLL st fun x y r => F (d, mi, pc + 1, ls, .long (x + y) :: r, M)
  | .lsub => xpLL st fun x y r => F (d, mi, pc + 1, ls, .long (x - y) :: r, M)
  | .lmul => xpLL st fun x y r => F (d, mi, pc + 1, ls, .long (x * y) :: r, M)
  | .land => xpLL st fun x y r => F (d, mi, pc + 1, ls, .long (x &&& y) :: r, M)
  | .lor => xpLL st fun x y r => F (d, mi, pc + 1, ls, .long (x ||| y) :: r, M)
  | .lxor => xpLL st fun x y r => F (d, mi, pc + 1, ls, .long (x ^^^ y) :: r, M)
  | .ldiv => xpLL st fun x y r => xif (!(decide (y = 0))) (F (d, mi, pc + 1, ls, .long (x / y) :: r, M))
  | .lrem => xpLL st fun x y r => xif (!(decide (y = 0))) (F (d, mi, pc + 1, ls, .long (x - x / y * y) :: r, M))
  | .lshl => xpLI st fun x y r => F (d, mi, pc + 1, ls, .long (x <<< (y.toInt64 &&& 63)) :: r, M)
  | .lcmp => xpLL st fun x y r => F (d, mi, pc + 1, ls, .int (xlc x y) :: r, M)
  | .dup => match st with
    | .int x :: r => F (d, mi, pc + 1, ls, .int x :: .int x :: r, M)
    | .ref x :: r => F (d, mi, pc + 1, ls, .ref x :: .ref x :: r, M)
    | _ => none
  | .dup2 => match st with
    | .int x :: .ref y :: r => F (d, mi, pc + 1, ls, .int x :: .ref y :: .int x :: .ref y :: r, M)
    | _ => none
  | .pop => match st with
    | .int x :: r => F (d, mi, pc + 1, ls, r, M)
    | _ => none
  | .goto _ => F (d, mi, E.2.2.1, ls, st, M)
  | .ifCond c _ => xpI st fun x r => cond (xcp c x 0) (F (d, mi, E.2.2.1, ls, r, M)) (F (d, mi, pc + 3, ls, r, M))
  | .if_icmp c _ => xpII st fun x y r => cond (xcp c x y) (F (d, mi, E.2.2.1, ls, r, M)) (F (d, mi, pc + 3, ls, r, M))
  | .tableswitch _ lo _ offs => xpI st fun x r => xsw (fun t => F (d, mi, t, ls, r, M)) x E.2.2.1 (xtabs pc lo offs.toList)
  | .lookupswitch _ ps => xpI st fun x r => xsw (fun t => F (d, mi, t, ls, r, M)) x E.2.2.1 (xlook pc ps.toList)
  | .getfield _ => xpR st fun a r => xsh M a fun h => xif (Nat.ble 2 a && Nat.beq h.1 0 && Nat.beq h.2.1 E.2.2.1) (match h.2.2[E.2.2.2.1]? with
    | some (k + 3) => F (d, mi, pc + 3, ls, .ref k :: r, M)
    | some 0 => F (d, mi, pc + 3, ls, .int (M.2.1 a E.2.2.2.1) :: r, M)
    | some 1 => F (d, mi, pc + 3, ls, .long (M.2.2 a E.2.2.2.1) :: r, M)
    | _ => none)
  | .putfield _ => match st with
    | .int x :: .ref a :: r => xsh M a fun h => xif (Nat.beq E.2.1 0 && Nat.ble 2 a && Nat.beq h.1 0 && Nat.beq h.2.1 E.2.2.1) (match h.2.2[E.2.2.2.1]? with
      | some 0 => F (d, mi, pc + 3, ls, r, xputI M a E.2.2.2.1 x)
      | _ => none)
    | .long x :: .ref a :: r => xsh M a fun h => xif (Nat.beq E.2.1 1 && Nat.ble 2 a && Nat.beq h.1 0 && Nat.beq h.2.1 E.2.2.1) (match h.2.2[E.2.2.2.1]? with
      | some 1 => F (d, mi, pc + 3, ls, r, xputJ M a E.2.2.2.1 x)
      | _ => none)
    | .ref q :: .ref a :: r => xsh M a fun h => xif (Nat.beq E.2.1 2 && Nat.ble 2 a && Nat.beq h.1 0 && Nat.beq h.2.1 E.2.2.1) (match h.2.2[E.2.2.2.1]? with
      | some (_ + 2) => F (d, mi, pc + 3, ls, r, xputR M a E.2.2.2.1 q)
      | _ => none)
    | _ => none
  | .new _ => F (d, mi, pc + 3, ls, .ref M.1.length :: st, xnew M (0, E.2.2.1, dc E.2.2.1))
  | .newarray t => xpI st fun x r => xif (!(xlt x 0) && Nat.ble (xIx x) 100000 && Nat.ble 1 (xkd t)) (F (d, mi, pc + 2, ls, .ref M.1.length :: r, xnew M (xkd t, xIx x, [])))
  | .arraylength => xpR st fun a r => xsh M a fun h => xif (Nat.ble 2 a && Nat.ble 1 h.1 && Nat.ble h.1 4 || Nat.beq a 0) (F (d, mi, pc + 1, ls, .int (Int32.ofNat h.2.1) :: r, M))
  | .iaload => xpRI st fun a i r => xsh M a fun h => xif (Nat.ble 2 a && Nat.beq h.1 1 || Nat.beq a 0) (xif (xin i h.2.1) (F (d, mi, pc + 1, ls, .int (M.2.1 a (xIx i)) :: r, M)))
  | .laload => xpRI st fun a i r => xsh M a fun h => xif (Nat.ble 2 a && Nat.beq h.1 2) (xif (xin i h.2.1) (F (d, mi, pc + 1, ls, .long (M.2.2 a (xIx i)) :: r, M)))
  | .caload => xpRI st fun a i r => xsh M a fun h => xif (Nat.ble 2 a && Nat.beq h.1 3) (xif (xin i h.2.1) (F (d, mi, pc + 1, ls, .int (M.2.1 a (xIx i)) :: r, M)))
  | .baload => xpRI st fun a i r => xsh M a fun h => xif (Nat.ble 2 a && Nat.beq h.1 4) (xif (xin i h.2.1) (F (d, mi, pc + 1, ls, .int (M.2.1 a (xIx i)) :: r, M)))
  | .iastore => xpIIR st fun a i x r => xsh M a fun h => xif (Nat.ble 2 a && Nat.beq h.1 1) (xif (xin i h.2.1) (F (d, mi, pc + 1, ls, r, xputI M a (xIx i) x)))
  | .lastore => xpLIR st fun a i x r => xsh M a fun h => xif (Nat.ble 2 a && Nat.beq h.1 2) (xif (xin i h.2.1) (F (d, mi, pc + 1, ls, r, xputJ M a (xIx i) x)))
  | .castore => xpIIR st fun a i x r => xsh M a fun h => xif (Nat.ble 2 a && Nat.beq h.1 3) (xif (xin i h.2.1) (F (d, mi, pc + 1, ls, r, xputI M a (xIx i) (vp_nar .char x))))
  | .bastore => xpIIR st fun a i x r => xsh M a fun h => xif (Nat.ble 2 a && Nat.beq h.1 4) (xif (xin i h.2.1) (F (d, mi, pc + 1, ls, r, xputI M a (xIx i) (vp_nar .boolean x))))
  | .ireturn => match st with
    | [.int x] => cond (Nat.beq (rt mi) 1) (some (some (.int x), M)) (xif (Nat.beq (rt mi) 2 && (xeq x 0 || xeq x 1)) (some (some (.int x), M)))
    | _ => none
  | .lreturn => match st with
    | [.long x] => xif (Nat.beq (rt mi) 3) (some (some (.long x), M))
    | _ => none
  | .areturn => match st with
    | [.ref x] => xif (Nat.beq (rt mi) 4) (some (some (.ref x), M))
    | _ => none
  | .return_ => match st with
    | [] => xif (Nat.beq (rt mi) 0) (some (none, M))
    | _ => none
  | .invokevirtual _ => match d with
    | 0 => none
    | d' + 1 => cond (Nat.beq E.2.2.1 1000) (xpR st fun a r => xif (Nat.beq a 1 && Nat.ble (xsm r) 8 && Nat.ble 3 d') (F (d, mi, pc + 3, ls, .int 94 :: r, M)))
      (cond (Nat.beq E.2.2.1 1001) (xpRI st fun a i r => xif (Nat.beq a 1 && Nat.ble (xsm r) 8 && Nat.ble 3 d') (xif (xin i 94) (F (d, mi, pc + 3, ls, .int (xchar i) :: r, M))))
        (xpN E.2.2.2.1 [] st fun as st1 => xpR st1 fun a r => xsh M a fun h => xif (Nat.ble 2 a && Nat.beq h.1 0 && Nat.beq h.2.1 E.2.1 && Nat.ble (xsm r) 8 && Nat.ble (xargs (.ref a :: as)).length (ml E.2.2.1)) ((G (d', E.2.2.1, 0, xent (.ref a :: as) (ml E.2.2.1), [], M)).bind fun q => F (d, mi, pc + 3, ls, xpush q.1 r, q.2))))
  | .invokespecial _ => match d with
    | 0 => none
    | d' + 1 => cond (Nat.beq E.2.2.1 1000) (xpR st fun a r => xif (Nat.ble (xsm r) 8) (F (d, mi, pc + 3, ls, r, M)))
      (xpN E.2.2.2.1 [] st fun as st1 => xpR st1 fun a r => xif (Nat.ble (xsm r) 8 && Nat.ble (xargs (.ref a :: as)).length (ml E.2.2.1)) ((G (d', E.2.2.1, 0, xent (.ref a :: as) (ml E.2.2.1), [], M)).bind fun q => F (d, mi, pc + 3, ls, xpush q.1 r, q.2)))
  | .invokestatic _ => match d with
    | 0 => none
    | d' + 1 => cond (Nat.beq E.2.2.1 1000) (xpC st fun n q b p a r => xrow M 1 a fun na => xrow M 1 b fun nb => xif (Nat.ble 2 a && Nat.ble 2 b && !(xlt p 0) && !(xlt q 0) && !(xlt n 0) && Nat.ble (xIx p + xIx n) na && Nat.ble (xIx q + xIx n) nb && Nat.ble (xsm r) 8) (F (d, mi, pc + 3, ls, r, (M.1, xcpI M.2.1 a (xIx p) b (xIx q) (xIx n), M.2.2))))
      (xpN E.2.2.2.1 [] st fun as r => xif (Nat.ble (xsm r) 8 && Nat.ble (xargs as).length (ml E.2.2.1)) ((G (d', E.2.2.1, 0, xent as (ml E.2.2.1), [], M)).bind fun q => F (d, mi, pc + 3, ls, xpush q.1 r, q.2)))
  | _ => none
/-- so many instructions at most -/
def xrun (dc : Nat → List Nat) (ml rt : Nat → Nat) (K : Nat → Nat → Option xEnt) : Nat → xSt → Option xRes
  | 0, _ => none
  | n + 1, (d, mi, pc, ls, st, M) => match K mi pc with
    | none => none
    | some E => xins dc ml rt (xrun dc ml rt K n) (xrun dc ml rt K n) E d mi pc ls st M
