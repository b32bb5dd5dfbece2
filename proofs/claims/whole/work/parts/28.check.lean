/-! ===== what is checked of the tables ===== -/
def xgw (w : Jvm.Cond) : Bool := goodWord w || (match w with
  | .fieldLinkNest _ _ _ _ _ _ => true
  | .methodLinkNest _ _ _ _ => true
  | _ => false)
/-- the words that stay -/
def xTS : List Jvm.Cond := lw_tbl.filter xgw
def xwd (h : Nat) (w : Jvm.Cond) : Bool := decide (lw_tbl[h]? = some w) && xgw w
theorem xwd_mem {h : Nat} {w : Jvm.Cond} (q : xwd h w = true) : w ∈ xTS := by
  simp only [xwd, Bool.and_eq_true, decide_eq_true_eq] at q
  exact List.mem_filter.mpr ⟨List.mem_of_getElem? q.1, q.2⟩
def xln (E : xEnt) : Nat := match E.1 with
  | .bipush _ => 2
  | .ldc _ => 2
  | .iload _ => 2
  | .lload _ => 2
  | .aload _ => 2
  | .istore _ => 2
  | .lstore _ => 2
  | .astore _ => 2
  | .newarray _ => 2
  | .sipush _ => 3
  | .ldc_w _ => 3
  | .ldc2_w _ => 3
  | .iinc _ _ => 3
  | .goto _ => 3
  | .ifCond _ _ => 3
  | .if_icmp _ _ => 3
  | .getfield _ => 3
  | .putfield _ => 3
  | .new _ => 3
  | .invokevirtual _ => 3
  | .invokespecial _ => 3
  | .invokestatic _ => 3
  | .tableswitch _ _ _ _ => E.2.1
  | .lookupswitch _ _ => E.2.1
  | _ => 1
def xfl (own : String) (i ci k h : Nat) : Bool := match xCL[ci]? with
  | some q => Nat.blt k q.2.2 && decide ((q.2.1 k).1 = q.1) && (xwd h (.fieldLink own i q.1 (q.2.1 k).2.1 (q.2.1 k).2.2.1) || xwd h (.fieldLinkNest own i q.1 (q.2.1 k).2.1 (q.2.1 k).2.2.1 "WetInk"))
  | none => false
def xtc (t : Option FieldType) (c : Nat) : Bool := match t with
  | some .int => Nat.beq c 0
  | some .long => Nat.beq c 1
  | some (.object _) => Nat.beq c 2
  | some (.array _) => Nat.beq c 2
  | _ => false
def xpf (own : String) (init : Bool) (i ci k h c : Nat) : Bool := match xCL[ci]? with
  | some q => Nat.blt k q.2.2 && decide ((q.2.1 k).1 = q.1) && xwd h (.fieldLink own i q.1 (q.2.1 k).2.1 (q.2.1 k).2.2.1) && xtc (parseFieldDescriptor (q.2.1 k).2.2.1) c && (!(q.2.1 k).2.2.2 || (init && decide (q.1 = own)))
  | none => false
def xcl (own : String) (i ci h h1 h2 : Nat) : Bool := match xCL[ci]? with
  | some q => xwd h (.classLink own i q.1) && xwd h1 (.instantiable q.1 q.2.2) && xwd h2 (.initialized q.1)
  | none => false
/-- a call's link: the callee's name, so many arguments, a kind -/
def xml (own : String) (i a b h kind : Nat) (nest : Bool) : Bool := match xMTL[a]? with
  | some q => Nat.beq q.2.2.2.2.2.2.1 kind && Nat.beq q.2.2.2.2.2.1 b && (xwd h (.methodLink own i q.1) || (nest && xwd h (.methodLinkNest own i q.1 "WetInk")))
  | none => false
def xmc (a c : Nat) : Bool := match xMTL[a]? with
  | some q => Nat.beq q.2.2.2.2.1 c && (match xCL[c]? with
    | some r => decide (r.1 = q.1.cls)
    | none => false)
  | none => false
/-- what an entry says of its instruction, beyond its decoding -/
def xce (own : String) (init : Bool) (mi pc : Nat) (E : xEnt) : Bool := match E.1 with
  | .iconst n => decide (Int32.ofInt n = E.2.2.2.2.2.1)
  | .bipush n => decide ((Int8.ofInt n).toInt32 = E.2.2.2.2.2.1)
  | .sipush n => decide ((Int16.ofInt n).toInt32 = E.2.2.2.2.2.1)
  | .ldc i => cond (Nat.beq E.2.2.1 0) (xwd E.2.2.2.2.1 (.constant own i E.2.2.2.2.2.1)) (decide (own = "WetInk$Parser") && Nat.beq i 218)
  | .ldc_w i => xwd E.2.2.2.2.1 (.constant own i E.2.2.2.2.2.1)
  | .lconst n => decide (Int64.ofNat (n : Nat) = E.2.2.2.2.2.2)
  | .ldc2_w i => xwd E.2.2.2.2.1 (.constantLong own i E.2.2.2.2.2.2)
  | .iload_n k => Nat.beq k E.2.2.1
  | .lload_n k => Nat.beq k E.2.2.1
  | .aload_n k => Nat.beq k E.2.2.1
  | .istore_n k => Nat.beq k E.2.2.1
  | .lstore_n k => Nat.beq k E.2.2.1
  | .astore_n k => Nat.beq k E.2.2.1
  | .iload k => Nat.beq k E.2.2.1
  | .lload k => Nat.beq k E.2.2.1
  | .aload k => Nat.beq k E.2.2.1
  | .istore k => Nat.beq k E.2.2.1
  | .lstore k => Nat.beq k E.2.2.1
  | .astore k => Nat.beq k E.2.2.1
  | .iinc k n => Nat.beq k E.2.2.1 && decide (Int32.ofInt n = E.2.2.2.2.2.1)
  | .goto o => decide ((pc : Int) + o = (E.2.2.1 : Int))
  | .ifCond _ o => decide ((pc : Int) + o = (E.2.2.1 : Int))
  | .if_icmp _ o => decide ((pc : Int) + o = (E.2.2.1 : Int))
  | .tableswitch dflt lo hi offs => decide ((pc : Int) + dflt = (E.2.2.1 : Int)) && decide (hi + 1 = lo + (offs.toList.length : Int)) && decide (-2147483648 ≤ lo) && decide (hi < 2147483648) && offs.toList.all (fun o => decide (0 ≤ (pc : Int) + o))
  | .lookupswitch dflt ps => decide ((pc : Int) + dflt = (E.2.2.1 : Int)) && (ps.toList.zip (ps.toList.drop 1)).all (fun (a, next) => a.1 < next.1) && ps.toList.all (fun o => decide (0 ≤ (pc : Int) + o.2) && decide (-2147483648 ≤ o.1) && decide (o.1 < 2147483648))
  | .getfield i => xfl own i E.2.2.1 E.2.2.2.1 E.2.2.2.2.1
  | .putfield i => xpf own init i E.2.2.1 E.2.2.2.1 E.2.2.2.2.1 E.2.1
  | .new i => xcl own i E.2.2.1 E.2.2.2.2.1 E.2.2.2.1 E.2.1
  | .newarray t => xwd E.2.2.2.2.1 (.arrayClass (newarray.typeOf t))
  | .invokevirtual i => cond (Nat.beq E.2.2.1 1000) (xwd E.2.2.2.2.1 (.methodLink own i ⟨"java/lang/String", "length", "()I"⟩)) (cond (Nat.beq E.2.2.1 1001) (xwd E.2.2.2.2.1 (.methodLink own i ⟨"java/lang/String", "charAt", "(I)C"⟩)) (xml own i E.2.2.1 E.2.2.2.1 E.2.2.2.2.1 1 false && xmc E.2.2.1 E.2.1))
  | .invokespecial i => cond (Nat.beq E.2.2.1 1000) (xwd E.2.2.2.2.1 (.methodLink own i Lib.objectInit)) (xml own i E.2.2.1 E.2.2.2.1 E.2.2.2.2.1 2 true)
  | .invokestatic i => cond (Nat.beq E.2.2.1 1000) (xwd E.2.2.2.2.1 (.methodLink own i arraycopyName)) (xml own i E.2.2.1 E.2.2.2.1 E.2.2.2.2.1 0 false)
  | _ => true
def xch (mi pc : Nat) (q : xMt) (E : xEnt) : Bool := decide (decode q.2.1 pc = .ok (E.1, xln E)) && xce q.1.cls (Nat.beq q.2.2.2.2.2.2.1 2) mi pc E
/-- all of a method's code -/
def xchs (mi n : Nat) (q : xMt) (K : Nat → Option xEnt) : Bool := (List.range n).all fun pc => match K pc with
  | none => true
  | some E => xch mi pc q E
def xrk (r : Option FieldType) : Nat := match r with
  | none => 0
  | some .int => 1
  | some .boolean => 2
  | some .long => 3
  | some (.object _) => 4
  | _ => 5
def xmh (q : xMt) : Bool := match q.2.2.2.2.2.2.2 with
  | h0 :: h1 :: h2 :: hs => xwd h0 (.code q.1 q.2.1 q.2.2.1 q.2.2.2.1) && xwd h1 (.initialized q.1.cls) && (match q.2.2.2.2.2.2.1 with
    | 0 => xwd h2 (.static q.1)
    | 1 => xwd h2 (.instanceMethod q.1) && xwd (hs.headD 0) (.selects q.1.cls q.1 q.1)
    | _ => xwd h2 (.instanceMethod q.1) && decide (q.1.name = "<init>"))
  | _ => Nat.beq q.2.2.2.2.2.2.1 3
/-- what is checked of a method's row -/
def xmok (mi : Nat) (q : xMt) : Bool := Nat.beq (xML mi) q.2.2.1 && Nat.ble q.2.2.1 40 && Nat.beq (xrk q.2.2.2.1) (xRT mi) && plainFor q.1 && decide (q.1.cls ≠ "java/lang/invoke/MethodHandle") && decide (q.1.cls ≠ "java/lang/invoke/VarHandle") && decide ((parseMethodDescriptor q.1.desc).map (fun d => d.parameters.length) = some q.2.2.2.2.2.1) && xmh q
/-- the places lo .. lo + n - 1 of a method -/
def xchr (mi lo n : Nat) (q : xMt) (K : Nat → Option xEnt) : Bool := (List.range n).all fun i => match K (lo + i) with
  | none => true
  | some E => xch mi (lo + i) q E
def xgd (mi hi : Nat) (q : xMt) (K : Nat → Option xEnt) : Prop := ∀ (pc : Nat) (E : xEnt), pc < hi → K pc = some E → xch mi pc q E = true
theorem xgd_0 {mi : Nat} {q : xMt} {K : Nat → Option xEnt} : xgd mi 0 q K := fun pc E h => absurd h (Nat.not_lt_zero pc)
theorem xgd_s {mi lo n : Nat} {q : xMt} {K : Nat → Option xEnt} (h : xgd mi lo q K) (c : xchr mi lo n q K = true) : xgd mi (lo + n) q K := by
  intro pc E hp hE
  rcases Nat.lt_or_ge pc lo with g | g
  · exact h pc E g hE
  · have h1 := List.all_eq_true.mp c (pc - lo) (List.mem_range.mpr (by omega))
    rw [show lo + (pc - lo) = pc by omega, hE] at h1
    exact h1
def xOKm (mi : Nat) : Prop := ∃ q : xMt, xMTL[mi]? = some q ∧ xmok mi q = true ∧ xgd mi 2000 q (xcode0 mi)
