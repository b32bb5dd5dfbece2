/-! ===== an evaluator of decoded instructions over numbered cells ===== -/
/-- a cell's shape: (0, class number, codes of its fields) or (kind of row, how long, []); a field's code: 0 an int, 1 a long, 2 null, r + 3 the cell r -/
abbrev xSh : Type := Nat × Nat × List Nat
abbrev xMem : Type := List xSh × (Nat → Nat → Int32) × (Nat → Nat → Int64)
abbrev xLs : Type := List (Option Value)
/-- depth, method, place, locals, stack, memory -/
abbrev xSt : Type := Nat × Nat × Nat × xLs × List Value × xMem
abbrev xRes : Type := Option Value × xMem
abbrev xAct : Type := Option (xRes ⊕ (Bool × xSt × Option xSt) ⊕ (xSt × (Option Value → xMem → xSt)) ⊕ (Int32 × List (Int32 × xSt) × xSt))
def xwI (I : Nat → Nat → Int32) (a j : Nat) (v : Int32) : Nat → Nat → Int32 := fun a' j' => cond (Nat.beq a' a) (cond (Nat.beq j' j) v (I a' j')) (I a' j')
def xwJ (J : Nat → Nat → Int64) (a j : Nat) (v : Int64) : Nat → Nat → Int64 := fun a' j' => cond (Nat.beq a' a) (cond (Nat.beq j' j) v (J a' j')) (J a' j')
def xzI (I : Nat → Nat → Int32) (a : Nat) : Nat → Nat → Int32 := fun a' j' => cond (Nat.beq a' a) 0 (I a' j')
def xzJ (J : Nat → Nat → Int64) (a : Nat) : Nat → Nat → Int64 := fun a' j' => cond (Nat.beq a' a) 0 (J a' j')
def xfv (I : Nat → Nat → Int32) (J : Nat → Nat → Int64) (a k c : Nat) : Value := match c with
  | 0 => .int (I a k)
  | 1 => .long (J a k)
  | 2 => .null
  | r + 3 => .ref r
def xin (i : Int32) (n : Nat) : Bool := decide (¬ (i < 0 ∨ n ≤ i.toNatClampNeg))
def xIx (i : Int32) : Nat := i.toNatClampNeg
def xeq (x y : Int32) : Bool := decide (x = y)
def xlt (x y : Int32) : Bool := decide (x < y)
def xle (x y : Int32) : Bool := decide (x ≤ y)
def xeqL (x y : Int64) : Bool := decide (x = y)
def xcp (c : ClassFile.Cond) (x y : Int32) : Bool := match c with
  | .eq => xeq x y
  | .ne => !(xeq x y)
  | .lt => xlt x y
  | .ge => !(xlt x y)
  | .gt => xlt y x
  | .le => !(xlt y x)
def xlg : Option Value → Bool
  | some (.long _) => true
  | _ => false
/-- a long one place ahead goes when its second half is written over -/
def xcut (ls : xLs) (i : Nat) : xLs := match i with
  | 0 => ls
  | j + 1 => cond (xlg (ls.getD j none)) (ls.set j none) ls
def xst1 (ls : xLs) (i : Nat) (v : Value) : xLs := (xcut ls i).set i (some v)
def xst2 (ls : xLs) (i : Nat) (v : Value) : xLs := ((xcut ls i).set (i + 1) none).set i (some v)
def xargs : List Value → xLs
  | [] => []
  | v :: vs => match v with
    | .long _ => some v :: none :: xargs vs
    | _ => some v :: xargs vs
def xent (vs : List Value) (n : Nat) : xLs := xargs vs ++ List.replicate (n - (xargs vs).length) none
def xpI (st : List Value) (k : Int32 → List Value → xAct) : xAct := match st with
  | .int x :: r => k x r
  | _ => none
def xpL (st : List Value) (k : Int64 → List Value → xAct) : xAct := match st with
  | .long x :: r => k x r
  | _ => none
def xpII (st : List Value) (k : Int32 → Int32 → List Value → xAct) : xAct := match st with
  | .int y :: .int x :: r => k x y r
  | _ => none
def xpLL (st : List Value) (k : Int64 → Int64 → List Value → xAct) : xAct := match st with
  | .long y :: .long x :: r => k x y r
  | _ => none
def xpLI (st : List Value) (k : Int64 → Int32 → List Value → xAct) : xAct := match st with
  | .int y :: .long x :: r => k x y r
  | _ => none
def xpR (st : List Value) (k : Nat → List Value → xAct) : xAct := match st with
  | .ref a :: r => k a r
  | _ => none
def xpRI (st : List Value) (k : Nat → Int32 → List Value → xAct) : xAct := match st with
  | .int i :: .ref a :: r => k a i r
  | _ => none
def xpIIR (st : List Value) (k : Nat → Int32 → Int32 → List Value → xAct) : xAct := match st with
  | .int x :: .int i :: .ref a :: r => k a i x r
  | _ => none
def xpLIR (st : List Value) (k : Nat → Int32 → Int64 → List Value → xAct) : xAct := match st with
  | .long x :: .int i :: .ref a :: r => k a i x r
  | _ => none
def xisI : Value → Bool
  | .int _ => true
  | _ => false
def xisL : Value → Bool
  | .long _ => true
  | _ => false
def xisR : Value → Bool
  | .ref _ => true
  | .retAddr _ => true
  | _ => false
/-- the shape of a cell -/
def xsh (M : xMem) (a : Nat) (k : xSh → xAct) : xAct := match M.1[a]? with
  | some h => k h
  | none => none
def xgo (y : xSt) : xAct := some (.inr (.inl (true, y, none)))
def xck (b : Bool) (y : xSt) : xAct := some (.inr (.inl (b, y, none)))
def xbr (b : Bool) (y z : xSt) : xAct := some (.inr (.inl (b, y, some z)))
def xsw (F : xSt → Option xRes) (x : Int32) (d : xSt) : List (Int32 × xSt) → Option xRes
  | [] => F d
  | q :: qs => cond (xeq x q.1) (F q.2) (xsw F x d qs)
/-- one instruction: G runs a called method, F goes on -/
def xstep (G F : xSt → Option xRes) (a : xAct) : Option xRes := match a with
  | none => none
  | some (.inl r) => some r
  | some (.inr (.inl (b, y, z))) => cond b (F y) (z.bind F)
  | some (.inr (.inr (.inl (y, k)))) => (G y).bind (fun r => F (k r.1 r.2))
  | some (.inr (.inr (.inr (x, qs, d)))) => xsw F x d qs
def xlc (x y : Int64) : Int32 := lg_cmp x y
