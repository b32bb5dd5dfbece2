/-! ===== the evaluator ===== -/
def xwI (I : Nat → Nat → Int32) (a j : Nat) (v : Int32) : Nat → Nat → Int32 := fun a' j' => cond (Nat.beq a' a) (cond (Nat.beq j' j) v (I a' j')) (I a' j')
def xwJ (J : Nat → Nat → Int64) (a j : Nat) (v : Int64) : Nat → Nat → Int64 := fun a' j' => cond (Nat.beq a' a) (cond (Nat.beq j' j) v (J a' j')) (J a' j')
def xzI (I : Nat → Nat → Int32) (a : Nat) : Nat → Nat → Int32 := fun a' j' => cond (Nat.beq a' a) 0 (I a' j')
def xzJ (J : Nat → Nat → Int64) (a : Nat) : Nat → Nat → Int64 := fun a' j' => cond (Nat.beq a' a) 0 (J a' j')
/-- n ints from place p of cell a to place q of cell b -/
def xcpI (I : Nat → Nat → Int32) (a p b q n : Nat) : Nat → Nat → Int32 := fun a' j' => cond (Nat.beq a' b) (va_cpy (I a) (I b) p q n j') (I a' j')
def xfv (I : Nat → Nat → Int32) (J : Nat → Nat → Int64) (a k c : Nat) : Value := match c with
  | 0 => .int (I a k)
  | 1 => .long (J a k)
  | 2 => .null
  | r + 3 => .ref r
def xIx (i : Int32) : Nat := i.toNatClampNeg
def xin (i : Int32) (n : Nat) : Bool := !(decide (i < 0) || Nat.ble n (xIx i))
def xeq (x y : Int32) : Bool := decide (x = y)
def xlt (x y : Int32) : Bool := decide (x < y)
def xlc (x y : Int64) : Int32 := lg_cmp x y
def xcp (c : ClassFile.Cond) (x y : Int32) : Bool := match c with
  | .eq => xeq x y
  | .ne => !(xeq x y)
  | .lt => xlt x y
  | .ge => !(xlt x y)
  | .gt => xlt y x
  | .le => !(xlt y x)
def xlg : Option Value → Bool
  | some (.long _) => true
  | some (.double _) => true
  | _ => false
/-- a long one place ahead goes when its second half is written over -/
def xcut (ls : xLs) (i : Nat) : xLs := match i with
  | 0 => ls
  | j + 1 => cond (xlg (ls.getD j none)) (ls.set j none) ls
def xst1 (ls : xLs) (i : Nat) (v : Value) : xLs := (xcut ls i).set i (some v)
def xst2 (ls : xLs) (i : Nat) (v : Value) : xLs := ((xcut ls i).set (i + 1) none).set i (some v)
def xargs : List Value → xLs
  | [] => []
  | v :: vs => match v with
    | .long _ => some v :: none :: xargs vs
    | _ => some v :: xargs vs
def xent (vs : List Value) (n : Nat) : xLs := xargs vs ++ List.replicate (n - (xargs vs).length) none
/-- the words that a stack's entries take -/
def xsm : List Value → Nat
  | [] => 0
  | v :: vs => (match v with
    | .long _ => 2
    | .double _ => 2
    | _ => 1) + xsm vs
/-- entries that an evaluator's stack may hold -/
def xok : Value → Bool
  | .int _ => true
  | .long _ => true
  | .ref _ => true
  | _ => false
section
variable {ρ : Type}
def xpI (st : List Value) (k : Int32 → List Value → Option ρ) : Option ρ := match st with
  | .int x :: r => k x r
  | _ => none
def xpL (st : List Value) (k : Int64 → List Value → Option ρ) : Option ρ := match st with
  | .long x :: r => k x r
  | _ => none
def xpII (st : List Value) (k : Int32 → Int32 → List Value → Option ρ) : Option ρ := match st with
  | .int y :: .int x :: r => k x y r
  | _ => none
def xpLL (st : List Value) (k : Int64 → Int64 → List Value → Option ρ) : Option ρ := match st with
  | .long y :: .long x :: r => k x y r
  | _ => none
def xpLI (st : List Value) (k : Int64 → Int32 → List Value → Option ρ) : Option ρ := match st with
  | .int y :: .long x :: r => k x y r
  | _ => none
def xpR (st : List Value) (k : Nat → List Value → Option ρ) : Option ρ := match st with
  | .ref a :: r => k a r
  | _ => none
def xpRI (st : List Value) (k : Nat → Int32 → List Value → Option ρ) : Option ρ := match st with
  | .int i :: .ref a :: r => k a i r
  | _ => none
def xpIIR (st : List Value) (k : Nat → Int32 → Int32 → List Value → Option ρ) : Option ρ := match st with
  | .int x :: .int i :: .ref a :: r => k a i x r
  | _ => none
def xpLIR (st : List Value) (k : Nat → Int32 → Int64 → List Value → Option ρ) : Option ρ := match st with
  | .long x :: .int i :: .ref a :: r => k a i x r
  | _ => none
def xpC (st : List Value) (k : Int32 → Int32 → Nat → Int32 → Nat → List Value → Option ρ) : Option ρ := match st with
  | .int n :: .int q :: .ref b :: .int p :: .ref a :: r => k n q b p a r
  | _ => none
/-- so many arguments: k gets them first to last -/
def xpN (n : Nat) (acc st : List Value) (k : List Value → List Value → Option ρ) : Option ρ := match n with
  | 0 => k acc st
  | n + 1 => match st with
    | [] => none
    | v :: r => cond (xok v) (xpN n (v :: acc) r k) none
/-- the shape of a cell -/
def xsh (M : xMem) (a : Nat) (k : xSh → Option ρ) : Option ρ := match M.1[a]? with
  | some h => k h
  | none => none
def xif (b : Bool) (x : Option ρ) : Option ρ := cond b x none
/-- a row's kind: its length -/
def xrow (M : xMem) (kind a : Nat) (k : Nat → Option ρ) : Option ρ := xsh M a fun h => xif (Nat.beq h.1 kind) (k h.2.1)
def xlv (ls : xLs) (i : Nat) (k : Value → Option ρ) : Option ρ := match ls[i]? with
  | some (some v) => k v
  | _ => none
end
def xsw (F : Nat → Option xRes) (x : Int32) (d : Nat) : List (Int32 × Nat) → Option xRes
  | [] => F d
  | q :: qs => cond (xeq x q.1) (F q.2) (xsw F x d qs)
def xtabs (pc : Nat) (lo : Int) : List Int → List (Int32 × Nat)
  | [] => []
  | o :: os => (Int32.ofInt lo, ((pc : Int) + o).toNat) :: xtabs pc (lo + 1) os
def xlook (pc : Nat) : List (Int × Int) → List (Int32 × Nat)
  | [] => []
  | o :: os => (Int32.ofInt o.1, ((pc : Int) + o.2).toNat) :: xlook pc os
def xpush (r : Option Value) (st : List Value) : List Value := match r with
  | none => st
  | some v => v :: st
/-- a new cell -/
def xnew (M : xMem) (h : xSh) : xMem := (M.1 ++ [h], xzI M.2.1 M.1.length, xzJ M.2.2 M.1.length)
def xputI (M : xMem) (a k : Nat) (x : Int32) : xMem := (M.1, xwI M.2.1 a k x, M.2.2)
def xputJ (M : xMem) (a k : Nat) (x : Int64) : xMem := (M.1, M.2.1, xwJ M.2.2 a k x)
def xputR (M : xMem) (a k r : Nat) : xMem := ((match M.1[a]? with
  | some h => M.1.set a (h.1, h.2.1, h.2.2.set k (r + 3))
  | none => M.1), M.2.1, M.2.2)
/-- the kinds of rows: 1 ints, 2 longs, 3 chars, 4 booleans -/
def xkd : ArrayType → Nat
  | .int => 1
  | .long => 2
  | .char => 3
  | .boolean => 4
  | _ => 0
/-- what the own words' text has at a place -/
def xtext : List Int32 := [105, 110, 107, 32, 101, 121, 101, 115, 32, 108, 101, 97, 102, 32, 114, 101, 97, 100, 101, 114, 32, 112, 97, 99, 101, 32, 115, 107, 105, 112, 115, 32, 112, 97, 121, 32, 119, 104, 101, 110, 32, 119, 111, 114, 100, 32, 103, 117, 97, 114, 100, 32, 111, 114, 32, 97, 110, 100, 32, 110, 111, 116, 32, 97, 108, 108, 32, 112, 108, 97, 99, 101, 32, 108, 101, 116, 116, 101, 114, 32, 110, 101, 101, 100, 115, 32, 109, 105, 110, 32, 109, 97, 120, 32]
def xchar (i : Int32) : Int32 := xtext.getD (xIx i) 0
/-- one instruction: G runs a called method, F goes on; ml: how many locals a method has; rt: whether a method answers a boolean; dc: the codes of a class's fields at the start -/
def xins (dc : Nat → List Nat) (ml : Nat → Nat) (rt : Nat → Nat) (G F : xSt → Option xRes) (E : xEnt) (d mi pc : Nat) (ls : xLs) (st : List Value) (M : xMem) : Option xRes := match E.1 with
  | .iconst _ => F (d, mi, pc + 1, ls, .int E.2.2.2.2.2.1 :: st, M)
  | .bipush _ => F (d, mi, pc + 2, ls, .int E.2.2.2.2.2.1 :: st, M)
  | .sipush _ => F (d, mi, pc + 3, ls, .int E.2.2.2.2.2.1 :: st, M)
  | .ldc _ => cond (Nat.beq E.2.2.1 0) (F (d, mi, pc + 2, ls, .int E.2.2.2.2.2.1 :: st, M)) (F (d, mi, pc + 2, ls, .ref 1 :: st, M))
  | .ldc_w _ => F (d, mi, pc + 3, ls, .int E.2.2.2.2.2.1 :: st, M)
  | .lconst _ => F (d, mi, pc + 1, ls, .long E.2.2.2.2.2.2 :: st, M)
  | .ldc2_w _ => F (d, mi, pc + 3, ls, .long E.2.2.2.2.2.2 :: st, M)
  | .iload_n _ => xlv ls E.2.2.1 fun v => match v with
    | .int x => F (d, mi, pc + 1, ls, .int x :: st, M)
    | _ => none
  | .iload _ => xlv ls E.2.2.1 fun v => match v with
    | .int x => F (d, mi, pc + 2, ls, .int x :: st, M)
    | _ => none
  | .lload_n _ => xlv ls E.2.2.1 fun v => match v with
    | .long x => F (d, mi, pc + 1, ls, .long x :: st, M)
    | _ => none
  | .lload _ => xlv ls E.2.2.1 fun v => match v with
    | .long x => F (d, mi, pc + 2, ls, .long x :: st, M)
    | _ => none
  | .aload_n _ => xlv ls E.2.2.1 fun v => match v with
    | .ref x => F (d, mi, pc + 1, ls, .ref x :: st, M)
    | _ => none
  | .aload _ => xlv ls E.2.2.1 fun v => match v with
    | .ref x => F (d, mi, pc + 2, ls, .ref x :: st, M)
    | _ => none
  | .istore_n _ => xpI st fun x r => xif (Nat.blt E.2.2.1 (ml mi)) (F (d, mi, pc + 1, xst1 ls E.2.2.1 (.int x), r, M))
  | .istore _ => xpI st fun x r => xif (Nat.blt E.2.2.1 (ml mi)) (F (d, mi, pc + 2, xst1 ls E.2.2.1 (.int x), r, M))
  | .lstore_n _ => xpL st fun x r => xif (Nat.blt (E.2.2.1 + 1) (ml mi)) (F (d, mi, pc + 1, xst2 ls E.2.2.1 (.long x), r, M))
  | .lstore _ => xpL st fun x r => xif (Nat.blt (E.2.2.1 + 1) (ml mi)) (F (d, mi, pc + 2, xst2 ls E.2.2.1 (.long x), r, M))
  | .astore_n _ => xpR st fun x r => xif (Nat.blt E.2.2.1 (ml mi)) (F (d, mi, pc + 1, xst1 ls E.2.2.1 (.ref x), r, M))
  | .astore _ => xpR st fun x r => xif (Nat.blt E.2.2.1 (ml mi)) (F (d, mi, pc + 2, xst1 ls E.2.2.1 (.ref x), r, M))
  | .iinc _ _ => xlv ls E.2.2.1 fun v => match v with
    | .int x => xif (Nat.blt E.2.2.1 (ml mi)) (F (d, mi, pc + 3, xst1 ls E.2.2.1 (.int (x + E.2.2.2.2.2.1)), st, M))
    | _ => none
  | .iadd => xpII st fun x y r => F (d, mi, pc + 1, ls, .int (x + y) :: r, M)
  | .isub => xpII st fun x y r => F (d, mi, pc + 1, ls, .int (x - y) :: r, M)
  | .imul => xpII st fun x y r => F (d, mi, pc + 1, ls, .int (x * y) :: r, M)
  | .iand => xpII st fun x y r => F (d, mi, pc + 1, ls, .int (x &&& y) :: r, M)
  | .ior => xpII st fun x y r => F (d, mi, pc + 1, ls, .int (x ||| y) :: r, M)
  | .idiv => xpII st fun x y r => xif (!(xeq y 0)) (F (d, mi, pc + 1, ls, .int (x / y) :: r, M))
  | .irem => xpII st fun x y r => xif (!(xeq y 0)) (F (d, mi, pc + 1, ls, .int (x - x / y * y) :: r, M))
  | .ineg => xpI st fun x r => F (d, mi, pc + 1, ls, .int (-x) :: r, M)
  | .ishl => xpII st fun x y r => F (d, mi, pc + 1, ls, .int (x <<< (y &&& 31)) :: r, M)
  | .ishr => xpII st fun x y r => F (d, mi, pc + 1, ls, .int (x >>> (y &&& 31)) :: r, M)
  | .iushr => xpII st fun x y r => F (d, mi, pc + 1, ls, .int (x.toUInt32 >>> (y.toUInt32 &&& Int32.toUInt32 31)).toInt32 :: r, M)
  | .i2l => xpI st fun x r => F (d, mi, pc + 1, ls, .long x.toInt64 :: r, M)
  | .l2i => xpL st fun x r => F (d, mi, pc + 1, ls, .int x.toInt32 :: r, M)
  | .ladd => xpLL st fun x y r => F (d, mi, pc + 1, ls, .long (x + y) :: r, M)
  | .lsub => xpLL st fun x y r => F (d, mi, pc + 1, ls, .long (x - y) :: r, M)
  | .lmul => xpLL st fun x y r => F (d, mi, pc + 1, ls, .long (x * y) :: r, M)
  | .land => xpLL st fun x y r => F (d, mi, pc + 1, ls, .long (x &&& y) :: r, M)
  | .lor => xpLL st fun x y r => F (d, mi, pc + 1, ls, .long (x ||| y) :: r, M)
  | .lxor => xpLL st fun x y r => F (d, mi, pc + 1, ls, .long (x ^^^ y) :: r, M)
  | .ldiv => xpLL st fun x y r => xif (!(decide (y = 0))) (F (d, mi, pc + 1, ls, .long (x / y) :: r, M))
  | .lrem => xpLL st fun x y r => xif (!(decide (y = 0))) (F (d, mi, pc + 1, ls, .long (x - x / y * y) :: r, M))
  | .lshl => xpLI st fun x y r => F (d, mi, pc + 1, ls, .long (x <<< (y.toInt64 &&& 63)) :: r, M)
  | .lcmp => xpLL st fun x y r => F (d, mi, pc + 1, ls, .int (xlc x y) :: r, M)
  | .dup => match st with
    | .int x :: r => F (d, mi, pc + 1, ls, .int x :: .int x :: r, M)
    | .ref x :: r => F (d, mi, pc + 1, ls, .ref x :: .ref x :: r, M)
    | _ => none
  | .dup2 => match st with
    | .int x :: .ref y :: r => F (d, mi, pc + 1, ls, .int x :: .ref y :: .int x :: .ref y :: r, M)
    | _ => none
  | .pop => match st with
    | .int x :: r => F (d, mi, pc + 1, ls, r, M)
    | _ => none
  | .goto _ => F (d, mi, E.2.2.1, ls, st, M)
  | .ifCond c _ => xpI st fun x r => cond (xcp c x 0) (F (d, mi, E.2.2.1, ls, r, M)) (F (d, mi, pc + 3, ls, r, M))
  | .if_icmp c _ => xpII st fun x y r => cond (xcp c x y) (F (d, mi, E.2.2.1, ls, r, M)) (F (d, mi, pc + 3, ls, r, M))
  | .tableswitch _ lo _ offs => xpI st fun x r => xsw (fun t => F (d, mi, t, ls, r, M)) x E.2.2.1 (xtabs pc lo offs.toList)
  | .lookupswitch _ ps => xpI st fun x r => xsw (fun t => F (d, mi, t, ls, r, M)) x E.2.2.1 (xlook pc ps.toList)
  | .getfield _ => xpR st fun a r => xsh M a fun h => xif (Nat.ble 2 a && Nat.beq h.1 0 && Nat.beq h.2.1 E.2.2.1) (match h.2.2[E.2.2.2.1]? with
    | some (k + 3) => F (d, mi, pc + 3, ls, .ref k :: r, M)
    | some 0 => F (d, mi, pc + 3, ls, .int (M.2.1 a E.2.2.2.1) :: r, M)
    | some 1 => F (d, mi, pc + 3, ls, .long (M.2.2 a E.2.2.2.1) :: r, M)
    | _ => none)
  | .putfield _ => match st with
    | .int x :: .ref a :: r => xsh M a fun h => xif (Nat.beq E.2.1 0 && Nat.ble 2 a && Nat.beq h.1 0 && Nat.beq h.2.1 E.2.2.1) (match h.2.2[E.2.2.2.1]? with
      | some 0 => F (d, mi, pc + 3, ls, r, xputI M a E.2.2.2.1 x)
      | _ => none)
    | .long x :: .ref a :: r => xsh M a fun h => xif (Nat.beq E.2.1 1 && Nat.ble 2 a && Nat.beq h.1 0 && Nat.beq h.2.1 E.2.2.1) (match h.2.2[E.2.2.2.1]? with
      | some 1 => F (d, mi, pc + 3, ls, r, xputJ M a E.2.2.2.1 x)
      | _ => none)
    | .ref q :: .ref a :: r => xsh M a fun h => xif (Nat.beq E.2.1 2 && Nat.ble 2 a && Nat.beq h.1 0 && Nat.beq h.2.1 E.2.2.1) (match h.2.2[E.2.2.2.1]? with
      | some (_ + 2) => F (d, mi, pc + 3, ls, r, xputR M a E.2.2.2.1 q)
      | _ => none)
    | _ => none
  | .new _ => F (d, mi, pc + 3, ls, .ref M.1.length :: st, xnew M (0, E.2.2.1, dc E.2.2.1))
  | .newarray t => xpI st fun x r => xif (!(xlt x 0) && Nat.ble (xIx x) 100000 && Nat.ble 1 (xkd t)) (F (d, mi, pc + 2, ls, .ref M.1.length :: r, xnew M (xkd t, xIx x, [])))
  | .arraylength => xpR st fun a r => xsh M a fun h => xif (Nat.ble 2 a && Nat.ble 1 h.1 && Nat.ble h.1 4 || Nat.beq a 0) (F (d, mi, pc + 1, ls, .int (Int32.ofNat h.2.1) :: r, M))
  | .iaload => xpRI st fun a i r => xsh M a fun h => xif (Nat.ble 2 a && Nat.beq h.1 1 || Nat.beq a 0) (xif (xin i h.2.1) (F (d, mi, pc + 1, ls, .int (M.2.1 a (xIx i)) :: r, M)))
  | .laload => xpRI st fun a i r => xsh M a fun h => xif (Nat.ble 2 a && Nat.beq h.1 2) (xif (xin i h.2.1) (F (d, mi, pc + 1, ls, .long (M.2.2 a (xIx i)) :: r, M)))
  | .caload => xpRI st fun a i r => xsh M a fun h => xif (Nat.ble 2 a && Nat.beq h.1 3) (xif (xin i h.2.1) (F (d, mi, pc + 1, ls, .int (M.2.1 a (xIx i)) :: r, M)))
  | .baload => xpRI st fun a i r => xsh M a fun h => xif (Nat.ble 2 a && Nat.beq h.1 4) (xif (xin i h.2.1) (F (d, mi, pc + 1, ls, .int (M.2.1 a (xIx i)) :: r, M)))
  | .iastore => xpIIR st fun a i x r => xsh M a fun h => xif (Nat.ble 2 a && Nat.beq h.1 1) (xif (xin i h.2.1) (F (d, mi, pc + 1, ls, r, xputI M a (xIx i) x)))
  | .lastore => xpLIR st fun a i x r => xsh M a fun h => xif (Nat.ble 2 a && Nat.beq h.1 2) (xif (xin i h.2.1) (F (d, mi, pc + 1, ls, r, xputJ M a (xIx i) x)))
  | .castore => xpIIR st fun a i x r => xsh M a fun h => xif (Nat.ble 2 a && Nat.beq h.1 3) (xif (xin i h.2.1) (F (d, mi, pc + 1, ls, r, xputI M a (xIx i) (vp_nar .char x))))
  | .bastore => xpIIR st fun a i x r => xsh M a fun h => xif (Nat.ble 2 a && Nat.beq h.1 4) (xif (xin i h.2.1) (F (d, mi, pc + 1, ls, r, xputI M a (xIx i) (vp_nar .boolean x))))
  | .ireturn => match st with
    | [.int x] => cond (Nat.beq (rt mi) 1) (some (some (.int x), M)) (xif (Nat.beq (rt mi) 2 && (xeq x 0 || xeq x 1)) (some (some (.int x), M)))
    | _ => none
  | .lreturn => match st with
    | [.long x] => xif (Nat.beq (rt mi) 3) (some (some (.long x), M))
    | _ => none
  | .areturn => match st with
    | [.ref x] => xif (Nat.beq (rt mi) 4) (some (some (.ref x), M))
    | _ => none
  | .return_ => match st with
    | [] => xif (Nat.beq (rt mi) 0) (some (none, M))
    | _ => none
  | .invokevirtual _ => match d with
    | 0 => none
    | d' + 1 => cond (Nat.beq E.2.2.1 1000) (xpR st fun a r => xif (Nat.beq a 1 && Nat.ble (xsm r) 8 && Nat.ble 3 d') (F (d, mi, pc + 3, ls, .int 94 :: r, M)))
      (cond (Nat.beq E.2.2.1 1001) (xpRI st fun a i r => xif (Nat.beq a 1 && Nat.ble (xsm r) 8 && Nat.ble 3 d') (xif (xin i 94) (F (d, mi, pc + 3, ls, .int (xchar i) :: r, M))))
        (xpN E.2.2.2.1 [] st fun as st1 => xpR st1 fun a r => xsh M a fun h => xif (Nat.ble 2 a && Nat.beq h.1 0 && Nat.beq h.2.1 E.2.1 && Nat.ble (xsm r) 8 && Nat.ble (xargs (.ref a :: as)).length (ml E.2.2.1)) ((G (d', E.2.2.1, 0, xent (.ref a :: as) (ml E.2.2.1), [], M)).bind fun q => F (d, mi, pc + 3, ls, xpush q.1 r, q.2))))
  | .invokespecial _ => match d with
    | 0 => none
    | d' + 1 => cond (Nat.beq E.2.2.1 1000) (xpR st fun a r => xif (Nat.ble (xsm r) 8) (F (d, mi, pc + 3, ls, r, M)))
      (xpN E.2.2.2.1 [] st fun as st1 => xpR st1 fun a r => xif (Nat.ble (xsm r) 8 && Nat.ble (xargs (.ref a :: as)).length (ml E.2.2.1)) ((G (d', E.2.2.1, 0, xent (.ref a :: as) (ml E.2.2.1), [], M)).bind fun q => F (d, mi, pc + 3, ls, xpush q.1 r, q.2)))
  | .invokestatic _ => match d with
    | 0 => none
    | d' + 1 => cond (Nat.beq E.2.2.1 1000) (xpC st fun n q b p a r => xrow M 1 a fun na => xrow M 1 b fun nb => xif (Nat.ble 2 a && Nat.ble 2 b && !(xlt p 0) && !(xlt q 0) && !(xlt n 0) && Nat.ble (xIx p + xIx n) na && Nat.ble (xIx q + xIx n) nb && Nat.ble (xsm r) 8) (F (d, mi, pc + 3, ls, r, (M.1, xcpI M.2.1 a (xIx p) b (xIx q) (xIx n), M.2.2))))
      (xpN E.2.2.2.1 [] st fun as r => xif (Nat.ble (xsm r) 8 && Nat.ble (xargs as).length (ml E.2.2.1)) ((G (d', E.2.2.1, 0, xent as (ml E.2.2.1), [], M)).bind fun q => F (d, mi, pc + 3, ls, xpush q.1 r, q.2)))
  | _ => none
/-- locals that nobody reads any more are forgotten where ways join -/
def xkill : List Nat → xLs → xLs
  | [], ls => ls
  | k :: ks, ls => xkill ks (ls.set k none)
def xkl : Nat → Nat → List Nat := fun m p => (cond (Nat.ble m 175) (cond (Nat.ble m 79) (cond (Nat.ble m 39) (cond (Nat.ble m 16) (cond (Nat.ble m 9) (cond (Nat.ble m 5) (cond (Nat.ble m 3) (cond (Nat.beq m 3) (cond (Nat.beq p 34) [0, 1, 2, 3, 4] []) []) (cond (Nat.ble m 4) (cond (Nat.beq m 4) (cond (Nat.beq p 34) [0, 1, 2, 3, 4] []) []) (cond (Nat.beq m 5) (cond (Nat.beq p 62) [0, 1, 2, 3, 4, 5, 6] []) []))) (cond (Nat.ble m 7) (cond (Nat.beq m 7) (cond (Nat.ble p 19) (cond (Nat.beq p 19) [0, 1] []) (cond (Nat.beq p 20) [0, 1] [])) []) (cond (Nat.ble m 8) (cond (Nat.beq m 8) (cond (Nat.ble p 19) (cond (Nat.beq p 19) [0, 1] []) (cond (Nat.beq p 20) [0, 1] [])) []) (cond (Nat.beq m 9) (cond (Nat.ble p 19) (cond (Nat.beq p 19) [0, 1] []) (cond (Nat.beq p 20) [0, 1] [])) [])))) (cond (Nat.ble m 12) (cond (Nat.ble m 10) (cond (Nat.beq m 10) (cond (Nat.ble p 17) (cond (Nat.beq p 17) [0, 1, 2] []) (cond (Nat.beq p 18) [0, 1, 2] [])) []) (cond (Nat.ble m 11) (cond (Nat.beq m 11) (cond (Nat.ble p 22) (cond (Nat.beq p 22) [0, 1, 2, 3] []) (cond (Nat.beq p 23) [0, 1, 2, 3] [])) []) (cond (Nat.beq m 12) (cond (Nat.ble p 27) (cond (Nat.beq p 27) [0, 1] []) (cond (Nat.beq p 28) [0, 1] [])) []))) (cond (Nat.ble m 14) (cond (Nat.ble m 13) (cond (Nat.beq m 13) (cond (Nat.beq p 18) [0, 1] []) []) (cond (Nat.beq m 14) (cond (Nat.beq p 18) [0, 1] []) [])) (cond (Nat.ble m 15) (cond (Nat.beq m 15) (cond (Nat.ble p 26) (cond (Nat.beq p 26) [0, 1] []) (cond (Nat.beq p 27) [0, 1] [])) []) (cond (Nat.beq m 16) (cond (Nat.beq p 18) [0, 1] []) []))))) (cond (Nat.ble m 29) (cond (Nat.ble m 22) (cond (Nat.ble m 17) (cond (Nat.beq m 17) (cond (Nat.ble p 29) (cond (Nat.beq p 29) [0, 1, 2, 3] []) (cond (Nat.beq p 34) [0, 1, 2, 3] [])) []) (cond (Nat.ble m 18) (cond (Nat.beq m 18) (cond (Nat.ble p 24) (cond (Nat.beq p 24) [0, 1] []) (cond (Nat.beq p 25) [0, 1] [])) []) (cond (Nat.beq m 22) (cond (Nat.beq p 93) [0, 1, 2, 3, 4, 5] []) []))) (cond (Nat.ble m 23) (cond (Nat.beq m 23) (cond (Nat.beq p 21) [0, 1, 2] []) []) (cond (Nat.ble m 28) (cond (Nat.beq m 28) (cond (Nat.ble p 22) (cond (Nat.beq p 22) [0, 1] []) (cond (Nat.beq p 23) [0, 1] [])) []) (cond (Nat.beq m 29) (cond (Nat.beq p 29) [0, 1, 2, 3] []) [])))) (cond (Nat.ble m 34) (cond (Nat.ble m 30) (cond (Nat.beq m 30) (cond (Nat.ble p 11) (cond (Nat.beq p 11) [2, 5] []) (cond (Nat.beq p 61) [1, 2, 3, 5] [])) []) (cond (Nat.ble m 33) (cond (Nat.beq m 33) (cond (Nat.ble p 47) (cond (Nat.beq p 47) [3] []) (cond (Nat.beq p 117) [0, 1, 2, 3] [])) []) (cond (Nat.beq m 34) (cond (Nat.beq p 29) [0, 1, 3] []) []))) (cond (Nat.ble m 36) (cond (Nat.ble m 35) (cond (Nat.beq m 35) (cond (Nat.ble p 69) (cond (Nat.ble p 59) (cond (Nat.beq p 59) [4, 5, 6, 7, 8] []) (cond (Nat.beq p 69) [6, 7, 8] [])) (cond (Nat.ble p 188) (cond (Nat.beq p 188) [8] []) (cond (Nat.beq p 205) [0, 1, 2, 3, 4, 5, 6, 7, 8] []))) []) (cond (Nat.beq m 36) (cond (Nat.beq p 121) [0, 1, 2, 3, 4, 5, 6] []) [])) (cond (Nat.ble m 37) (cond (Nat.beq m 37) (cond (Nat.ble p 27) (cond (Nat.beq p 27) [3] []) (cond (Nat.beq p 99) [3] [])) []) (cond (Nat.beq m 39) (cond (Nat.ble p 4) (cond (Nat.beq p 4) [4] []) (cond (Nat.ble p 117) (cond (Nat.beq p 117) [0, 1, 2, 3, 4] []) (cond (Nat.beq p 118) [0, 1, 2, 3, 4] []))) [])))))) (cond (Nat.ble m 63) (cond (Nat.ble m 52) (cond (Nat.ble m 43) (cond (Nat.ble m 41) (cond (Nat.beq m 41) (cond (Nat.ble p 2) (cond (Nat.beq p 2) [3, 4] []) (cond (Nat.ble p 23) (cond (Nat.beq p 23) [4] []) (cond (Nat.beq p 55) [0, 1, 2, 3, 4] []))) []) (cond (Nat.ble m 42) (cond (Nat.beq m 42) (cond (Nat.ble p 2) (cond (Nat.beq p 2) [4, 5, 6] []) (cond (Nat.beq p 66) [4, 5, 6] [])) []) (cond (Nat.beq m 43) (cond (Nat.ble p 12) (cond (Nat.beq p 12) [4] []) (cond (Nat.beq p 85) [4] [])) []))) (cond (Nat.ble m 49) (cond (Nat.beq m 49) (cond (Nat.ble p 149) (cond (Nat.beq p 149) [1] []) (cond (Nat.beq p 165) [0, 1] [])) []) (cond (Nat.ble m 51) (cond (Nat.beq m 51) (cond (Nat.beq p 66) [0, 1, 2, 3] []) []) (cond (Nat.beq m 52) (cond (Nat.beq p 105) [0, 1, 2, 3] []) [])))) (cond (Nat.ble m 58) (cond (Nat.ble m 53) (cond (Nat.beq m 53) (cond (Nat.ble p 78) (cond (Nat.beq p 78) [4, 6] []) (cond (Nat.beq p 118) [0, 1, 2, 3, 4, 5, 6] [])) []) (cond (Nat.ble m 57) (cond (Nat.beq m 57) (cond (Nat.beq p 13) [1] []) []) (cond (Nat.beq m 58) (cond (Nat.beq p 65) [0] []) []))) (cond (Nat.ble m 61) (cond (Nat.ble m 60) (cond (Nat.beq m 60) (cond (Nat.beq p 44) [0, 1] []) []) (cond (Nat.beq m 61) (cond (Nat.ble p 44) (cond (Nat.beq p 44) [3, 4] []) (cond (Nat.ble p 104) (cond (Nat.beq p 104) [1, 2, 4] []) (cond (Nat.beq p 113) [1, 2, 4] []))) [])) (cond (Nat.ble m 62) (cond (Nat.beq m 62) (cond (Nat.beq p 17) [1] []) []) (cond (Nat.beq m 63) (cond (Nat.beq p 17) [1] []) []))))) (cond (Nat.ble m 71) (cond (Nat.ble m 66) (cond (Nat.ble m 64) (cond (Nat.beq m 64) (cond (Nat.ble p 27) (cond (Nat.beq p 27) [0, 1] []) (cond (Nat.beq p 28) [0, 1] [])) []) (cond (Nat.ble m 65) (cond (Nat.beq m 65) (cond (Nat.beq p 50) [0, 1, 2] []) []) (cond (Nat.beq m 66) (cond (Nat.beq p 50) [0, 1, 2] []) []))) (cond (Nat.ble m 69) (cond (Nat.ble m 67) (cond (Nat.beq m 67) (cond (Nat.beq p 173) [0, 1, 2] []) []) (cond (Nat.beq m 69) (cond (Nat.ble p 7) (cond (Nat.beq p 7) [3] []) (cond (Nat.ble p 32) (cond (Nat.beq p 32) [3] []) (cond (Nat.beq p 70) [0, 1, 2, 3] []))) [])) (cond (Nat.ble m 70) (cond (Nat.beq m 70) (cond (Nat.ble p 7) (cond (Nat.beq p 7) [3] []) (cond (Nat.ble p 32) (cond (Nat.beq p 32) [3] []) (cond (Nat.beq p 70) [0, 1, 2, 3] []))) []) (cond (Nat.beq m 71) (cond (Nat.ble p 35) (cond (Nat.beq p 35) [1, 2] []) (cond (Nat.ble p 74) (cond (Nat.beq p 74) [2] []) (cond (Nat.beq p 153) [0, 1, 2] []))) [])))) (cond (Nat.ble m 74) (cond (Nat.ble m 72) (cond (Nat.beq m 72) (cond (Nat.beq p 55) [0, 1] []) []) (cond (Nat.ble m 73) (cond (Nat.beq m 73) (cond (Nat.beq p 17) [1, 2] []) []) (cond (Nat.beq m 74) (cond (Nat.ble p 168) (cond (Nat.beq p 168) [1, 2] []) (cond (Nat.beq p 185) [0, 1, 2] [])) []))) (cond (Nat.ble m 76) (cond (Nat.ble m 75) (cond (Nat.beq m 75) (cond (Nat.ble p 10) (cond (Nat.beq p 10) [0] []) (cond (Nat.beq p 15) [0] [])) []) (cond (Nat.beq m 76) (cond (Nat.ble p 39) (cond (Nat.ble p 15) (cond (Nat.beq p 15) [0, 1, 2] []) (cond (Nat.beq p 39) [0, 1, 2] [])) (cond (Nat.ble p 55) (cond (Nat.beq p 55) [0, 1] []) (cond (Nat.ble p 71) (cond (Nat.beq p 71) [0, 1, 2] []) (cond (Nat.beq p 72) [0, 1, 2] [])))) [])) (cond (Nat.ble m 77) (cond (Nat.beq m 77) (cond (Nat.ble p 79) (cond (Nat.ble p 12) (cond (Nat.beq p 12) [5] []) (cond (Nat.beq p 79) [3, 5] [])) (cond (Nat.ble p 80) (cond (Nat.beq p 80) [3, 5] []) (cond (Nat.ble p 101) (cond (Nat.beq p 101) [2, 3, 5] []) (cond (Nat.beq p 111) [5] [])))) []) (cond (Nat.beq m 79) (cond (Nat.ble p 29) (cond (Nat.beq p 29) [6] []) (cond (Nat.beq p 80) [6] [])) []))))))) (cond (Nat.ble m 125) (cond (Nat.ble m 100) (cond (Nat.ble m 90) (cond (Nat.ble m 83) (cond (Nat.ble m 81) (cond (Nat.beq m 81) (cond (Nat.beq p 44) [0, 1, 2, 3, 4] []) []) (cond (Nat.ble m 82) (cond (Nat.beq m 82) (cond (Nat.beq p 23) [1, 2, 3, 4, 5] []) []) (cond (Nat.beq m 83) (cond (Nat.ble p 38) (cond (Nat.beq p 38) [1, 2, 3, 4, 5] []) (cond (Nat.beq p 75) [1, 2, 3, 4, 5] [])) []))) (cond (Nat.ble m 84) (cond (Nat.beq m 84) (cond (Nat.beq p 13) [0, 1] []) []) (cond (Nat.ble m 85) (cond (Nat.beq m 85) (cond (Nat.beq p 18) [5] []) []) (cond (Nat.beq m 90) (cond (Nat.beq p 14) [0] []) [])))) (cond (Nat.ble m 96) (cond (Nat.ble m 94) (cond (Nat.beq m 94) (cond (Nat.beq p 32) [0, 1] []) []) (cond (Nat.ble m 95) (cond (Nat.beq m 95) (cond (Nat.beq p 37) [0] []) []) (cond (Nat.beq m 96) (cond (Nat.beq p 24) [1, 2, 3] []) []))) (cond (Nat.ble m 98) (cond (Nat.ble m 97) (cond (Nat.beq m 97) (cond (Nat.beq p 12) [0, 1, 2] []) []) (cond (Nat.beq m 98) (cond (Nat.beq p 188) [0, 1, 2, 3, 4] []) [])) (cond (Nat.ble m 99) (cond (Nat.beq m 99) (cond (Nat.ble p 123) (cond (Nat.ble p 111) (cond (Nat.beq p 111) [0, 1, 2, 3, 4] []) (cond (Nat.beq p 123) [0, 1, 2, 3, 4] [])) (cond (Nat.ble p 135) (cond (Nat.beq p 135) [0, 1, 2, 3, 4] []) (cond (Nat.beq p 147) [0, 1, 2, 3, 4] []))) []) (cond (Nat.beq m 100) (cond (Nat.beq p 32) [0, 1] []) []))))) (cond (Nat.ble m 114) (cond (Nat.ble m 109) (cond (Nat.ble m 105) (cond (Nat.beq m 105) (cond (Nat.beq p 17) [0] []) []) (cond (Nat.ble m 106) (cond (Nat.beq m 106) (cond (Nat.beq p 17) [0, 1, 2, 3, 4] []) []) (cond (Nat.beq m 109) (cond (Nat.ble p 21) (cond (Nat.beq p 21) [0, 1] []) (cond (Nat.beq p 22) [0, 1] [])) []))) (cond (Nat.ble m 110) (cond (Nat.beq m 110) (cond (Nat.ble p 12) (cond (Nat.beq p 12) [0, 1, 2] []) (cond (Nat.ble p 44) (cond (Nat.beq p 44) [0, 1, 2] []) (cond (Nat.beq p 45) [0, 1, 2] []))) []) (cond (Nat.ble m 112) (cond (Nat.beq m 112) (cond (Nat.beq p 19) [0, 1] []) []) (cond (Nat.beq m 114) (cond (Nat.beq p 36) [0, 1] []) [])))) (cond (Nat.ble m 120) (cond (Nat.ble m 115) (cond (Nat.beq m 115) (cond (Nat.beq p 12) [0, 1] []) []) (cond (Nat.ble m 117) (cond (Nat.beq m 117) (cond (Nat.ble p 21) (cond (Nat.beq p 21) [0, 1] []) (cond (Nat.beq p 22) [0, 1] [])) []) (cond (Nat.beq m 120) (cond (Nat.ble p 31) (cond (Nat.beq p 31) [2, 4] []) (cond (Nat.ble p 38) (cond (Nat.beq p 38) [2] []) (cond (Nat.beq p 98) [2] []))) []))) (cond (Nat.ble m 123) (cond (Nat.ble m 121) (cond (Nat.beq m 121) (cond (Nat.ble p 17) (cond (Nat.beq p 17) [3, 4] []) (cond (Nat.ble p 34) (cond (Nat.beq p 34) [4] []) (cond (Nat.beq p 107) [4] []))) []) (cond (Nat.beq m 123) (cond (Nat.ble p 34) (cond (Nat.beq p 34) [0, 1, 2, 3, 4, 5, 6] []) (cond (Nat.ble p 39) (cond (Nat.beq p 39) [6] []) (cond (Nat.beq p 105) [6] []))) [])) (cond (Nat.ble m 124) (cond (Nat.beq m 124) (cond (Nat.ble p 117) (cond (Nat.ble p 35) (cond (Nat.ble p 24) (cond (Nat.beq p 24) [0, 1, 2, 3, 4, 5, 6, 7, 8, 9, 10, 11, 12] []) (cond (Nat.beq p 35) [2, 3, 6, 9, 10, 11, 12] [])) (cond (Nat.ble p 64) (cond (Nat.beq p 64) [2, 3, 6, 11, 12] []) (cond (Nat.beq p 117) [2, 3, 6, 11, 12] []))) (cond (Nat.ble p 147) (cond (Nat.ble p 141) (cond (Nat.beq p 141) [2, 3, 6, 11, 12] []) (cond (Nat.beq p 147) [2, 3, 6, 10, 11, 12] [])) (cond (Nat.ble p 160) (cond (Nat.beq p 160) [0, 1, 2, 3, 4, 5, 6, 7, 8, 10, 11, 12] []) (cond (Nat.beq p 179) [0, 1, 2, 3, 4, 5, 6, 7, 8, 9, 10, 11, 12] [])))) []) (cond (Nat.beq m 125) (cond (Nat.beq p 24) [5] []) [])))))) (cond (Nat.ble m 151) (cond (Nat.ble m 137) (cond (Nat.ble m 132) (cond (Nat.ble m 126) (cond (Nat.beq m 126) (cond (Nat.ble p 41) (cond (Nat.beq p 41) [0, 1, 2, 3] []) (cond (Nat.beq p 42) [0, 1, 2, 3] [])) []) (cond (Nat.ble m 127) (cond (Nat.beq m 127) (cond (Nat.ble p 68) (cond (Nat.beq p 68) [0, 1, 2, 3, 5, 7] []) (cond (Nat.beq p 73) [0, 1, 2, 3, 4, 5, 6, 7] [])) []) (cond (Nat.beq m 132) (cond (Nat.ble p 36) (cond (Nat.beq p 36) [1, 3] []) (cond (Nat.beq p 52) [1] [])) []))) (cond (Nat.ble m 134) (cond (Nat.beq m 134) (cond (Nat.beq p 56) [0, 1, 2, 3, 4, 5, 6] []) []) (cond (Nat.ble m 135) (cond (Nat.beq m 135) (cond (Nat.beq p 25) [0, 1, 2, 3] []) []) (cond (Nat.beq m 137) (cond (Nat.beq p 26) [0, 1, 2] []) [])))) (cond (Nat.ble m 140) (cond (Nat.ble m 138) (cond (Nat.beq m 138) (cond (Nat.beq p 26) [0, 1, 2] []) []) (cond (Nat.ble m 139) (cond (Nat.beq m 139) (cond (Nat.beq p 26) [0, 1, 2] []) []) (cond (Nat.beq m 140) (cond (Nat.beq p 24) [0, 1, 2] []) []))) (cond (Nat.ble m 142) (cond (Nat.ble m 141) (cond (Nat.beq m 141) (cond (Nat.ble p 88) (cond (Nat.ble p 63) (cond (Nat.beq p 63) [0, 1, 2, 3, 4] []) (cond (Nat.beq p 88) [0, 1, 2, 3, 4] [])) (cond (Nat.ble p 89) (cond (Nat.beq p 89) [0, 1, 2, 3, 4] []) (cond (Nat.ble p 105) (cond (Nat.beq p 105) [0, 1, 2, 3, 4] []) (cond (Nat.beq p 121) [0, 1, 2, 3, 4] [])))) []) (cond (Nat.beq m 142) (cond (Nat.beq p 3) [2] []) [])) (cond (Nat.ble m 150) (cond (Nat.beq m 150) (cond (Nat.beq p 51) [1, 2] []) []) (cond (Nat.beq m 151) (cond (Nat.ble p 5) (cond (Nat.beq p 5) [5] []) (cond (Nat.beq p 78) [5] [])) []))))) (cond (Nat.ble m 165) (cond (Nat.ble m 156) (cond (Nat.ble m 152) (cond (Nat.beq m 152) (cond (Nat.beq p 21) [0, 1] []) []) (cond (Nat.ble m 153) (cond (Nat.beq m 153) (cond (Nat.beq p 21) [0, 1] []) []) (cond (Nat.beq m 156) (cond (Nat.ble p 50) (cond (Nat.beq p 50) [4] []) (cond (Nat.ble p 87) (cond (Nat.beq p 87) [4] []) (cond (Nat.beq p 124) [0, 1, 2, 4, 5, 6] []))) []))) (cond (Nat.ble m 158) (cond (Nat.ble m 157) (cond (Nat.beq m 157) (cond (Nat.beq p 37) [0, 1, 2, 3, 4] []) []) (cond (Nat.beq m 158) (cond (Nat.ble p 112) (cond (Nat.ble p 2) (cond (Nat.beq p 2) [4] []) (cond (Nat.ble p 42) (cond (Nat.beq p 42) [4] []) (cond (Nat.beq p 112) [4] []))) (cond (Nat.ble p 118) (cond (Nat.beq p 118) [2, 3, 4] []) (cond (Nat.ble p 123) (cond (Nat.beq p 123) [2] []) (cond (Nat.beq p 156) [2] [])))) [])) (cond (Nat.ble m 163) (cond (Nat.beq m 163) (cond (Nat.beq p 28) [0, 1] []) []) (cond (Nat.beq m 165) (cond (Nat.beq p 10) [0, 1, 2, 3] []) [])))) (cond (Nat.ble m 171) (cond (Nat.ble m 169) (cond (Nat.beq m 169) (cond (Nat.ble p 29) (cond (Nat.beq p 29) [0, 1, 2, 3, 4, 5, 6] []) (cond (Nat.beq p 37) [2] [])) []) (cond (Nat.ble m 170) (cond (Nat.beq m 170) (cond (Nat.ble p 29) (cond (Nat.beq p 29) [0, 1, 2, 3, 4, 5] []) (cond (Nat.beq p 37) [2] [])) []) (cond (Nat.beq m 171) (cond (Nat.beq p 40) [0, 1, 2, 3, 4, 5] []) []))) (cond (Nat.ble m 173) (cond (Nat.ble m 172) (cond (Nat.beq m 172) (cond (Nat.beq p 29) [0, 1, 2, 3] []) []) (cond (Nat.beq m 173) (cond (Nat.beq p 36) [0, 1, 2, 3] []) [])) (cond (Nat.ble m 174) (cond (Nat.beq m 174) (cond (Nat.beq p 27) [0, 1, 2, 3] []) []) (cond (Nat.beq m 175) (cond (Nat.ble p 63) (cond (Nat.beq p 63) [0, 1, 2, 3, 4, 5, 6, 7] []) (cond (Nat.ble p 71) (cond (Nat.beq p 71) [6, 7] []) (cond (Nat.beq p 116) [6, 7] []))) [])))))))) (cond (Nat.ble m 245) (cond (Nat.ble m 211) (cond (Nat.ble m 196) (cond (Nat.ble m 183) (cond (Nat.ble m 180) (cond (Nat.ble m 176) (cond (Nat.beq m 176) (cond (Nat.beq p 40) [0, 1] []) []) (cond (Nat.ble m 178) (cond (Nat.beq m 178) (cond (Nat.beq p 30) [0, 1, 2, 3] []) []) (cond (Nat.beq m 180) (cond (Nat.beq p 29) [0, 1, 2] []) []))) (cond (Nat.ble m 181) (cond (Nat.beq m 181) (cond (Nat.ble p 48) (cond (Nat.ble p 23) (cond (Nat.beq p 23) [0, 1, 2, 3, 4, 5, 6, 7, 8] []) (cond (Nat.ble p 34) (cond (Nat.beq p 34) [2, 4, 5, 6, 7, 8] []) (cond (Nat.beq p 48) [2] []))) (cond (Nat.ble p 87) (cond (Nat.beq p 87) [2, 7] []) (cond (Nat.ble p 109) (cond (Nat.beq p 109) [2] []) (cond (Nat.beq p 126) [0, 1, 2, 3, 4, 5, 6, 7, 8] [])))) []) (cond (Nat.ble m 182) (cond (Nat.beq m 182) (cond (Nat.ble p 40) (cond (Nat.beq p 40) [0, 1, 2, 3, 4, 5] []) (cond (Nat.beq p 85) [0, 1, 2, 3, 4, 5] [])) []) (cond (Nat.beq m 183) (cond (Nat.ble p 30) (cond (Nat.beq p 30) [2] []) (cond (Nat.beq p 73) [0, 1, 2, 3, 4, 5] [])) [])))) (cond (Nat.ble m 188) (cond (Nat.ble m 186) (cond (Nat.beq m 186) (cond (Nat.ble p 60) (cond (Nat.beq p 60) [0, 1, 2, 3, 4, 5, 6] []) (cond (Nat.beq p 61) [0, 1, 2, 3, 4, 5, 6] [])) []) (cond (Nat.ble m 187) (cond (Nat.beq m 187) (cond (Nat.ble p 11) (cond (Nat.beq p 11) [0, 1] []) (cond (Nat.beq p 32) [0, 1] [])) []) (cond (Nat.beq m 188) (cond (Nat.beq p 28) [0, 1] []) []))) (cond (Nat.ble m 190) (cond (Nat.ble m 189) (cond (Nat.beq m 189) (cond (Nat.beq p 25) [0, 1, 2, 3, 4] []) []) (cond (Nat.beq m 190) (cond (Nat.beq p 28) [0, 1, 2] []) [])) (cond (Nat.ble m 191) (cond (Nat.beq m 191) (cond (Nat.beq p 35) [0, 1, 2, 3, 4] []) []) (cond (Nat.beq m 196) (cond (Nat.ble p 17) (cond (Nat.beq p 17) [0, 1, 2, 3, 4, 5] []) (cond (Nat.beq p 18) [0, 1, 2, 3, 4, 5] [])) []))))) (cond (Nat.ble m 203) (cond (Nat.ble m 200) (cond (Nat.ble m 197) (cond (Nat.beq m 197) (cond (Nat.ble p 18) (cond (Nat.beq p 18) [7] []) (cond (Nat.beq p 71) [7] [])) []) (cond (Nat.ble m 198) (cond (Nat.beq m 198) (cond (Nat.beq p 12) [0, 1] []) []) (cond (Nat.beq m 200) (cond (Nat.ble p 16) (cond (Nat.beq p 16) [0] []) (cond (Nat.beq p 17) [0] [])) []))) (cond (Nat.ble m 201) (cond (Nat.beq m 201) (cond (Nat.ble p 16) (cond (Nat.beq p 16) [0] []) (cond (Nat.beq p 17) [0] [])) []) (cond (Nat.ble m 202) (cond (Nat.beq m 202) (cond (Nat.beq p 76) [0] []) []) (cond (Nat.beq m 203) (cond (Nat.ble p 35) (cond (Nat.ble p 28) (cond (Nat.beq p 28) [0, 1, 2, 3] []) (cond (Nat.beq p 35) [3] [])) (cond (Nat.ble p 61) (cond (Nat.beq p 61) [3] []) (cond (Nat.beq p 76) [2] []))) [])))) (cond (Nat.ble m 207) (cond (Nat.ble m 205) (cond (Nat.beq m 205) (cond (Nat.beq p 24) [0, 1] []) []) (cond (Nat.ble m 206) (cond (Nat.beq m 206) (cond (Nat.beq p 15) [0, 1] []) []) (cond (Nat.beq m 207) (cond (Nat.beq p 24) [0, 1] []) []))) (cond (Nat.ble m 209) (cond (Nat.ble m 208) (cond (Nat.beq m 208) (cond (Nat.ble p 30) (cond (Nat.beq p 30) [1, 2, 3] []) (cond (Nat.beq p 161) [0, 1, 2] [])) []) (cond (Nat.beq m 209) (cond (Nat.ble p 147) (cond (Nat.ble p 71) (cond (Nat.ble p 66) (cond (Nat.beq p 66) [1] []) (cond (Nat.beq p 71) [1] [])) (cond (Nat.ble p 142) (cond (Nat.beq p 142) [1] []) (cond (Nat.beq p 147) [1] []))) (cond (Nat.ble p 223) (cond (Nat.ble p 218) (cond (Nat.beq p 218) [1] []) (cond (Nat.beq p 223) [1] [])) (cond (Nat.ble p 239) (cond (Nat.beq p 239) [0, 1] []) (cond (Nat.beq p 244) [0, 1] [])))) [])) (cond (Nat.ble m 210) (cond (Nat.beq m 210) (cond (Nat.ble p 37) (cond (Nat.beq p 37) [1, 2] []) (cond (Nat.ble p 58) (cond (Nat.beq p 58) [2] []) (cond (Nat.beq p 145) [2] []))) []) (cond (Nat.beq m 211) (cond (Nat.ble p 34) (cond (Nat.beq p 34) [1] []) (cond (Nat.beq p 142) [1] [])) [])))))) (cond (Nat.ble m 229) (cond (Nat.ble m 219) (cond (Nat.ble m 214) (cond (Nat.ble m 212) (cond (Nat.beq m 212) (cond (Nat.ble p 23) (cond (Nat.beq p 23) [1, 2, 3] []) (cond (Nat.beq p 35) [0, 1, 2, 3] [])) []) (cond (Nat.ble m 213) (cond (Nat.beq m 213) (cond (Nat.beq p 3) [3] []) []) (cond (Nat.beq m 214) (cond (Nat.ble p 32) (cond (Nat.beq p 32) [3, 4] []) (cond (Nat.ble p 41) (cond (Nat.beq p 41) [3, 4] []) (cond (Nat.beq p 69) [0, 1, 2, 3] []))) []))) (cond (Nat.ble m 216) (cond (Nat.beq m 216) (cond (Nat.ble p 37) (cond (Nat.beq p 37) [1, 4, 5] []) (cond (Nat.beq p 111) [1, 3, 4] [])) []) (cond (Nat.ble m 217) (cond (Nat.beq m 217) (cond (Nat.beq p 65) [1, 5] []) []) (cond (Nat.beq m 219) (cond (Nat.ble p 27) (cond (Nat.beq p 27) [1] []) (cond (Nat.ble p 56) (cond (Nat.beq p 56) [1] []) (cond (Nat.beq p 82) [1] []))) [])))) (cond (Nat.ble m 222) (cond (Nat.ble m 220) (cond (Nat.beq m 220) (cond (Nat.beq p 92) [1] []) []) (cond (Nat.ble m 221) (cond (Nat.beq m 221) (cond (Nat.ble p 163) (cond (Nat.beq p 163) [1] []) (cond (Nat.beq p 167) [1] [])) []) (cond (Nat.beq m 222) (cond (Nat.ble p 70) (cond (Nat.beq p 70) [1] []) (cond (Nat.beq p 92) [1] [])) []))) (cond (Nat.ble m 226) (cond (Nat.ble m 223) (cond (Nat.beq m 223) (cond (Nat.ble p 116) (cond (Nat.ble p 29) (cond (Nat.ble p 2) (cond (Nat.beq p 2) [2] []) (cond (Nat.beq p 29) [2] [])) (cond (Nat.ble p 58) (cond (Nat.beq p 58) [2] []) (cond (Nat.ble p 87) (cond (Nat.beq p 87) [2] []) (cond (Nat.beq p 116) [2] [])))) (cond (Nat.ble p 229) (cond (Nat.ble p 145) (cond (Nat.beq p 145) [2] []) (cond (Nat.ble p 174) (cond (Nat.beq p 174) [2] []) (cond (Nat.beq p 229) [2] []))) (cond (Nat.ble p 288) (cond (Nat.beq p 288) [2] []) (cond (Nat.ble p 330) (cond (Nat.beq p 330) [2] []) (cond (Nat.beq p 350) [2] []))))) []) (cond (Nat.beq m 226) (cond (Nat.ble p 26) (cond (Nat.beq p 26) [0, 1] []) (cond (Nat.beq p 27) [0, 1] [])) [])) (cond (Nat.ble m 228) (cond (Nat.beq m 228) (cond (Nat.ble p 16) (cond (Nat.beq p 16) [0, 1] []) (cond (Nat.beq p 17) [0, 1] [])) []) (cond (Nat.beq m 229) (cond (Nat.beq p 52) [0, 1] []) []))))) (cond (Nat.ble m 237) (cond (Nat.ble m 232) (cond (Nat.ble m 230) (cond (Nat.beq m 230) (cond (Nat.beq p 36) [0] []) []) (cond (Nat.ble m 231) (cond (Nat.beq m 231) (cond (Nat.ble p 127) (cond (Nat.ble p 69) (cond (Nat.ble p 2) (cond (Nat.beq p 2) [2, 3, 4] []) (cond (Nat.beq p 69) [2, 3, 4] [])) (cond (Nat.ble p 90) (cond (Nat.beq p 90) [2, 4] []) (cond (Nat.ble p 107) (cond (Nat.beq p 107) [2, 4] []) (cond (Nat.beq p 127) [2, 3] [])))) (cond (Nat.ble p 143) (cond (Nat.ble p 132) (cond (Nat.beq p 132) [2, 3, 4] []) (cond (Nat.beq p 143) [2, 3, 4] [])) (cond (Nat.ble p 146) (cond (Nat.beq p 146) [1, 2, 3, 4] []) (cond (Nat.ble p 219) (cond (Nat.beq p 219) [1, 2, 3, 4] []) (cond (Nat.beq p 242) [0, 1, 2, 3, 4] []))))) []) (cond (Nat.beq m 232) (cond (Nat.ble p 136) (cond (Nat.ble p 43) (cond (Nat.ble p 0) (cond (Nat.beq p 0) [1] []) (cond (Nat.beq p 43) [1] [])) (cond (Nat.ble p 112) (cond (Nat.beq p 112) [1] []) (cond (Nat.ble p 118) (cond (Nat.beq p 118) [1] []) (cond (Nat.beq p 136) [1] [])))) (cond (Nat.ble p 221) (cond (Nat.ble p 157) (cond (Nat.beq p 157) [1] []) (cond (Nat.beq p 221) [1] [])) (cond (Nat.ble p 242) (cond (Nat.beq p 242) [1] []) (cond (Nat.ble p 322) (cond (Nat.beq p 322) [1] []) (cond (Nat.beq p 382) [0, 1] []))))) []))) (cond (Nat.ble m 234) (cond (Nat.ble m 233) (cond (Nat.beq m 233) (cond (Nat.ble p 49) (cond (Nat.ble p 48) (cond (Nat.beq p 48) [2] []) (cond (Nat.beq p 49) [2] [])) (cond (Nat.ble p 53) (cond (Nat.beq p 53) [2] []) (cond (Nat.beq p 78) [2] []))) []) (cond (Nat.beq m 234) (cond (Nat.beq p 102) [0, 1] []) [])) (cond (Nat.ble m 236) (cond (Nat.beq m 236) (cond (Nat.beq p 33) [0] []) []) (cond (Nat.beq m 237) (cond (Nat.ble p 105) (cond (Nat.ble p 2) (cond (Nat.beq p 2) [2] []) (cond (Nat.beq p 105) [1, 2] [])) (cond (Nat.ble p 106) (cond (Nat.beq p 106) [1, 2] []) (cond (Nat.ble p 110) (cond (Nat.beq p 110) [1, 2] []) (cond (Nat.beq p 131) [0, 1, 2] [])))) [])))) (cond (Nat.ble m 240) (cond (Nat.ble m 238) (cond (Nat.beq m 238) (cond (Nat.beq p 208) [0] []) []) (cond (Nat.ble m 239) (cond (Nat.beq m 239) (cond (Nat.beq p 24) [0, 1] []) []) (cond (Nat.beq m 240) (cond (Nat.beq p 29) [0, 1] []) []))) (cond (Nat.ble m 243) (cond (Nat.ble m 241) (cond (Nat.beq m 241) (cond (Nat.ble p 43) (cond (Nat.ble p 32) (cond (Nat.beq p 32) [0, 1, 3, 5] []) (cond (Nat.beq p 43) [0, 1, 2, 3, 5] [])) (cond (Nat.ble p 53) (cond (Nat.beq p 53) [0, 1, 2, 3, 5] []) (cond (Nat.beq p 55) [0, 1, 2, 3, 4, 5] []))) []) (cond (Nat.beq m 243) (cond (Nat.ble p 216) (cond (Nat.ble p 177) (cond (Nat.beq p 177) [0, 1, 2, 3, 4, 5] []) (cond (Nat.ble p 197) (cond (Nat.beq p 197) [0, 1, 2, 3, 4, 5] []) (cond (Nat.beq p 216) [0, 1, 2, 3, 4, 5] []))) (cond (Nat.ble p 254) (cond (Nat.ble p 235) (cond (Nat.beq p 235) [0, 1, 2, 3, 4, 5] []) (cond (Nat.beq p 254) [0, 1, 2, 3, 4, 5] [])) (cond (Nat.ble p 286) (cond (Nat.beq p 286) [0, 1, 2, 3, 4, 5] []) (cond (Nat.beq p 289) [0, 1, 2, 3, 4, 5] [])))) [])) (cond (Nat.ble m 244) (cond (Nat.beq m 244) (cond (Nat.ble p 7) (cond (Nat.beq p 7) [1, 4] []) (cond (Nat.beq p 134) [1, 4] [])) []) (cond (Nat.beq m 245) (cond (Nat.ble p 45) (cond (Nat.beq p 45) [1, 2, 3, 4, 7, 8] []) (cond (Nat.beq p 134) [0, 1, 2, 3, 4, 5, 6, 7, 8] [])) []))))))) (cond (Nat.ble m 287) (cond (Nat.ble m 269) (cond (Nat.ble m 255) (cond (Nat.ble m 252) (cond (Nat.ble m 250) (cond (Nat.beq m 250) (cond (Nat.ble p 29) (cond (Nat.beq p 29) [0, 1, 2] []) (cond (Nat.beq p 30) [0, 1, 2] [])) []) (cond (Nat.ble m 251) (cond (Nat.beq m 251) (cond (Nat.ble p 27) (cond (Nat.beq p 27) [0, 1, 2, 3] []) (cond (Nat.beq p 28) [0, 1, 2, 3] [])) []) (cond (Nat.beq m 252) (cond (Nat.beq p 14) [0, 1] []) []))) (cond (Nat.ble m 253) (cond (Nat.beq m 253) (cond (Nat.ble p 22) (cond (Nat.beq p 22) [0, 1] []) (cond (Nat.beq p 23) [0, 1] [])) []) (cond (Nat.ble m 254) (cond (Nat.beq m 254) (cond (Nat.beq p 56) [0, 1, 2, 3, 4, 5] []) []) (cond (Nat.beq m 255) (cond (Nat.beq p 37) [2] []) [])))) (cond (Nat.ble m 262) (cond (Nat.ble m 260) (cond (Nat.beq m 260) (cond (Nat.ble p 53) (cond (Nat.ble p 42) (cond (Nat.beq p 42) [4, 5, 6, 7, 8] []) (cond (Nat.beq p 53) [0, 1, 2, 3, 4, 5, 6, 7, 8] [])) (cond (Nat.ble p 92) (cond (Nat.beq p 92) [0, 1, 2, 3, 4, 5, 6, 7, 8] []) (cond (Nat.ble p 116) (cond (Nat.beq p 116) [0, 1, 2, 5, 8] []) (cond (Nat.beq p 151) [0, 1, 2, 5, 6, 8] [])))) []) (cond (Nat.ble m 261) (cond (Nat.beq m 261) (cond (Nat.beq p 58) [3] []) []) (cond (Nat.beq m 262) (cond (Nat.beq p 88) [0, 1, 2, 3, 4] []) []))) (cond (Nat.ble m 267) (cond (Nat.ble m 266) (cond (Nat.beq m 266) (cond (Nat.ble p 63) (cond (Nat.beq p 63) [0, 1, 2] []) (cond (Nat.beq p 83) [0, 1, 2] [])) []) (cond (Nat.beq m 267) (cond (Nat.beq p 41) [3] []) [])) (cond (Nat.ble m 268) (cond (Nat.beq m 268) (cond (Nat.ble p 23) (cond (Nat.beq p 23) [0, 1, 2, 3, 4, 5, 6] []) (cond (Nat.beq p 31) [2] [])) []) (cond (Nat.beq m 269) (cond (Nat.ble p 15) (cond (Nat.beq p 15) [5, 6] []) (cond (Nat.ble p 49) (cond (Nat.beq p 49) [2, 6] []) (cond (Nat.beq p 77) [2] []))) []))))) (cond (Nat.ble m 278) (cond (Nat.ble m 272) (cond (Nat.ble m 270) (cond (Nat.beq m 270) (cond (Nat.beq p 53) [0, 1, 2, 3, 4] []) []) (cond (Nat.ble m 271) (cond (Nat.beq m 271) (cond (Nat.ble p 21) (cond (Nat.beq p 21) [0, 1, 2, 3, 4, 5] []) (cond (Nat.ble p 28) (cond (Nat.beq p 28) [5] []) (cond (Nat.beq p 99) [5] []))) []) (cond (Nat.beq m 272) (cond (Nat.beq p 26) [0, 1, 2] []) []))) (cond (Nat.ble m 274) (cond (Nat.ble m 273) (cond (Nat.beq m 273) (cond (Nat.ble p 31) (cond (Nat.beq p 31) [0, 1, 2, 3] []) (cond (Nat.beq p 32) [0, 1, 2, 3] [])) []) (cond (Nat.beq m 274) (cond (Nat.ble p 4) (cond (Nat.beq p 4) [3, 4] []) (cond (Nat.ble p 109) (cond (Nat.beq p 109) [4] []) (cond (Nat.beq p 130) [3, 4] []))) [])) (cond (Nat.ble m 275) (cond (Nat.beq m 275) (cond (Nat.beq p 24) [0, 1, 2, 3] []) []) (cond (Nat.beq m 278) (cond (Nat.ble p 38) (cond (Nat.beq p 38) [0, 1, 2, 3, 4, 5] []) (cond (Nat.ble p 44) (cond (Nat.beq p 44) [4, 5] []) (cond (Nat.beq p 97) [4, 5] []))) [])))) (cond (Nat.ble m 282) (cond (Nat.ble m 279) (cond (Nat.beq m 279) (cond (Nat.ble p 2) (cond (Nat.beq p 2) [4] []) (cond (Nat.beq p 52) [4] [])) []) (cond (Nat.ble m 280) (cond (Nat.beq m 280) (cond (Nat.ble p 37) (cond (Nat.beq p 37) [0, 1, 2, 3] []) (cond (Nat.beq p 38) [0, 1, 2, 3] [])) []) (cond (Nat.beq m 282) (cond (Nat.beq p 22) [0, 1, 2, 3, 4] []) []))) (cond (Nat.ble m 284) (cond (Nat.ble m 283) (cond (Nat.beq m 283) (cond (Nat.ble p 76) (cond (Nat.ble p 18) (cond (Nat.beq p 18) [0, 1, 2, 3, 4, 5, 6, 7, 8] []) (cond (Nat.ble p 32) (cond (Nat.beq p 32) [8] []) (cond (Nat.beq p 76) [8] []))) (cond (Nat.ble p 84) (cond (Nat.ble p 83) (cond (Nat.beq p 83) [6, 8] []) (cond (Nat.beq p 84) [6, 8] [])) (cond (Nat.ble p 109) (cond (Nat.beq p 109) [8] []) (cond (Nat.beq p 126) [0, 1, 2, 3, 4, 5, 6, 7, 8] [])))) []) (cond (Nat.beq m 284) (cond (Nat.beq p 2) [2, 3] []) [])) (cond (Nat.ble m 286) (cond (Nat.beq m 286) (cond (Nat.ble p 115) (cond (Nat.ble p 34) (cond (Nat.ble p 14) (cond (Nat.beq p 14) [4, 5] []) (cond (Nat.beq p 34) [4, 5] [])) (cond (Nat.ble p 44) (cond (Nat.beq p 44) [3] []) (cond (Nat.ble p 104) (cond (Nat.beq p 104) [3, 5] []) (cond (Nat.beq p 115) [3] [])))) (cond (Nat.ble p 183) (cond (Nat.ble p 141) (cond (Nat.beq p 141) [3, 5] []) (cond (Nat.ble p 146) (cond (Nat.beq p 146) [3] []) (cond (Nat.beq p 183) [3, 4] []))) (cond (Nat.ble p 193) (cond (Nat.beq p 193) [3, 4] []) (cond (Nat.ble p 209) (cond (Nat.beq p 209) [4, 5] []) (cond (Nat.beq p 225) [0, 1, 2, 3, 4, 5] []))))) []) (cond (Nat.beq m 287) (cond (Nat.ble p 68) (cond (Nat.ble p 27) (cond (Nat.ble p 3) (cond (Nat.beq p 3) [5, 6] []) (cond (Nat.beq p 27) [2, 5, 6] [])) (cond (Nat.ble p 39) (cond (Nat.beq p 39) [2] []) (cond (Nat.beq p 68) [2] []))) (cond (Nat.ble p 131) (cond (Nat.ble p 118) (cond (Nat.beq p 118) [2, 5, 6] []) (cond (Nat.beq p 131) [1, 2, 3, 6] [])) (cond (Nat.ble p 162) (cond (Nat.beq p 162) [1, 2, 3, 4, 6] []) (cond (Nat.ble p 173) (cond (Nat.beq p 173) [1, 2, 3, 6] []) (cond (Nat.beq p 227) [1, 2, 3, 4, 6] []))))) [])))))) (cond (Nat.ble m 304) (cond (Nat.ble m 296) (cond (Nat.ble m 293) (cond (Nat.ble m 288) (cond (Nat.beq m 288) (cond (Nat.ble p 27) (cond (Nat.beq p 27) [0, 1, 2, 3, 4, 5] []) (cond (Nat.beq p 78) [0, 1, 2, 3, 4, 5] [])) []) (cond (Nat.ble m 291) (cond (Nat.beq m 291) (cond (Nat.beq p 3) [2] []) []) (cond (Nat.beq m 293) (cond (Nat.ble p 19) (cond (Nat.beq p 19) [5] []) (cond (Nat.ble p 48) (cond (Nat.beq p 48) [4, 5] []) (cond (Nat.beq p 66) [1, 2, 3, 4, 5] []))) []))) (cond (Nat.ble m 294) (cond (Nat.beq m 294) (cond (Nat.ble p 41) (cond (Nat.beq p 41) [0, 1] []) (cond (Nat.beq p 42) [0, 1] [])) []) (cond (Nat.ble m 295) (cond (Nat.beq m 295) (cond (Nat.ble p 36) (cond (Nat.ble p 3) (cond (Nat.beq p 3) [5] []) (cond (Nat.beq p 36) [5] [])) (cond (Nat.ble p 47) (cond (Nat.beq p 47) [4, 5] []) (cond (Nat.ble p 63) (cond (Nat.beq p 63) [4] []) (cond (Nat.beq p 107) [4] [])))) []) (cond (Nat.beq m 296) (cond (Nat.ble p 90) (cond (Nat.ble p 55) (cond (Nat.ble p 21) (cond (Nat.beq p 21) [1, 8, 9, 10] []) (cond (Nat.beq p 55) [1, 9, 10] [])) (cond (Nat.ble p 61) (cond (Nat.beq p 61) [1] []) (cond (Nat.beq p 90) [1, 9] []))) (cond (Nat.ble p 101) (cond (Nat.ble p 98) (cond (Nat.beq p 98) [1, 10] []) (cond (Nat.beq p 101) [1] [])) (cond (Nat.ble p 137) (cond (Nat.beq p 137) [1, 9] []) (cond (Nat.beq p 145) [1, 8, 10] [])))) [])))) (cond (Nat.ble m 299) (cond (Nat.ble m 297) (cond (Nat.beq m 297) (cond (Nat.ble p 50) (cond (Nat.beq p 50) [0, 1, 2, 3, 4, 5] []) (cond (Nat.beq p 51) [0, 1, 2, 3, 4, 5] [])) []) (cond (Nat.ble m 298) (cond (Nat.beq m 298) (cond (Nat.ble p 35) (cond (Nat.beq p 35) [1, 2, 3, 4, 5, 6] []) (cond (Nat.beq p 62) [1, 2, 3, 4, 5, 6] [])) []) (cond (Nat.beq m 299) (cond (Nat.ble p 38) (cond (Nat.beq p 38) [1, 2, 3, 4, 5] []) (cond (Nat.beq p 78) [1, 2, 3, 4, 5] [])) []))) (cond (Nat.ble m 301) (cond (Nat.ble m 300) (cond (Nat.beq m 300) (cond (Nat.beq p 29) [0, 1] []) []) (cond (Nat.beq m 301) (cond (Nat.ble p 46) (cond (Nat.beq p 46) [0, 1, 2] []) (cond (Nat.beq p 51) [0, 1, 2] [])) [])) (cond (Nat.ble m 302) (cond (Nat.beq m 302) (cond (Nat.beq p 19) [0, 1, 2, 3] []) []) (cond (Nat.beq m 304) (cond (Nat.ble p 43) (cond (Nat.ble p 8) (cond (Nat.beq p 8) [4] []) (cond (Nat.ble p 27) (cond (Nat.beq p 27) [4] []) (cond (Nat.beq p 43) [4] []))) (cond (Nat.ble p 139) (cond (Nat.ble p 52) (cond (Nat.beq p 52) [4] []) (cond (Nat.beq p 139) [2, 4] [])) (cond (Nat.ble p 146) (cond (Nat.beq p 146) [2] []) (cond (Nat.beq p 198) [2] [])))) []))))) (cond (Nat.ble m 314) (cond (Nat.ble m 308) (cond (Nat.ble m 306) (cond (Nat.beq m 306) (cond (Nat.ble p 19) (cond (Nat.beq p 19) [0, 1, 2, 3, 4, 5, 6, 7, 8, 9] []) (cond (Nat.ble p 51) (cond (Nat.beq p 51) [2, 3, 6] []) (cond (Nat.beq p 73) [2, 3, 6] []))) []) (cond (Nat.ble m 307) (cond (Nat.beq m 307) (cond (Nat.beq p 30) [0, 1, 2, 3] []) []) (cond (Nat.beq m 308) (cond (Nat.beq p 21) [5] []) []))) (cond (Nat.ble m 312) (cond (Nat.ble m 309) (cond (Nat.beq m 309) (cond (Nat.ble p 25) (cond (Nat.beq p 25) [0, 1, 2, 3, 4, 5, 6, 7] []) (cond (Nat.ble p 86) (cond (Nat.beq p 86) [0, 1, 2, 3, 4, 5, 6, 7] []) (cond (Nat.beq p 113) [0, 1, 2, 3, 4, 5, 6, 7] []))) []) (cond (Nat.beq m 312) (cond (Nat.ble p 31) (cond (Nat.beq p 31) [2] []) (cond (Nat.ble p 109) (cond (Nat.beq p 109) [2] []) (cond (Nat.beq p 150) [2] []))) [])) (cond (Nat.ble m 313) (cond (Nat.beq m 313) (cond (Nat.ble p 21) (cond (Nat.beq p 21) [0, 1] []) (cond (Nat.beq p 22) [0, 1] [])) []) (cond (Nat.beq m 314) (cond (Nat.ble p 156) (cond (Nat.ble p 86) (cond (Nat.beq p 86) [0, 1, 2, 3] []) (cond (Nat.beq p 156) [0, 1, 2, 3] [])) (cond (Nat.ble p 170) (cond (Nat.beq p 170) [2] []) (cond (Nat.ble p 238) (cond (Nat.beq p 238) [0, 1, 2, 3] []) (cond (Nat.beq p 240) [2] [])))) [])))) (cond (Nat.ble m 317) (cond (Nat.ble m 315) (cond (Nat.beq m 315) (cond (Nat.ble p 45) (cond (Nat.beq p 45) [1, 4, 5] []) (cond (Nat.ble p 56) (cond (Nat.beq p 56) [1, 5] []) (cond (Nat.beq p 146) [1, 4, 5] []))) []) (cond (Nat.ble m 316) (cond (Nat.beq m 316) (cond (Nat.beq p 27) [0, 1, 2, 3, 5] []) []) (cond (Nat.beq m 317) (cond (Nat.beq p 10) [0, 1] []) []))) (cond (Nat.ble m 319) (cond (Nat.ble m 318) (cond (Nat.beq m 318) (cond (Nat.beq p 11) [0, 1, 2, 3] []) []) (cond (Nat.beq m 319) (cond (Nat.beq p 10) [0, 1] []) [])) (cond (Nat.ble m 320) (cond (Nat.beq m 320) (cond (Nat.beq p 11) [0, 1, 2, 3] []) []) (cond (Nat.beq m 321) (cond (Nat.beq p 6) [2] []) [])))))))))
/-- so many instructions at most -/
def xrun (dc : Nat → List Nat) (ml rt : Nat → Nat) (K : Nat → Nat → Option xEnt) : Nat → xSt → Option xRes
  | 0, _ => none
  | n + 1, (d, mi, pc, ls, st, M) => match K mi pc with
    | none => none
    | some E => xins dc ml rt (xrun dc ml rt K n) (xrun dc ml rt K n) E d mi pc (xkill (xkl mi pc) ls) st M
