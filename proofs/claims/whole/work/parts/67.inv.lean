/-! ===== the whole invariant between the state and the two memories ===== -/
/-- a step's type on a stack of types (true: a test's value): numbers, places and the like, sums, compares, tests -/
def tyOp (c : Int) (st : List Bool) : Option (List Bool) :=
  if 1000 ≤ c ∧ c ≤ 10999 then some (false :: st)
  else if 7 ≤ c ∧ c ≤ 10 then some (false :: st)
  else if c = 17 then some (true :: st)
  else if c = 16 then (match st with
    | true :: r => some (true :: r)
    | _ => none)
  else if 1 ≤ c ∧ c ≤ 6 then (match st with
    | false :: false :: r => some (false :: r)
    | _ => none)
  else if 11 ≤ c ∧ c ≤ 13 then (match st with
    | false :: false :: r => some (true :: r)
    | _ => none)
  else if c = 14 ∨ c = 15 then (match st with
    | true :: true :: r => some (true :: r)
    | _ => none)
  else none
/-- n steps from place k on, never more than 64 on the stack -/
def tyRun (f : Nat → Int) : Nat → Nat → List Bool → Option (List Bool)
  | _, 0, st => some st
  | k, n + 1, st => match tyOp (f k) st with
    | none => none
    | some st' => if st'.length ≤ 64 then tyRun f (k + 1) n st' else none
/-- the rules are sound: a sum and a test each -/
def RW (S : aS) : Prop := (S 13 0 = 0 ∧ sHr S ≤ 9999) ∧ ∀ u : Nat, (u : Int) < sNU S → 0 ≤ S 13 (2 * u) ∧ S 13 (2 * u) ≤ S 13 (2 * u + 1) ∧ S 13 (2 * u + 1) ≤ S 13 (2 * u + 2) ∧ S 13 (2 * u + 2) ≤ 1600 ∧
  tyRun (S 14) (S 13 (2 * u)).toNat (S 13 (2 * u + 1) - S 13 (2 * u)).toNat [] = some [false] ∧ tyRun (S 14) (S 13 (2 * u + 1)).toNat (S 13 (2 * u + 2) - S 13 (2 * u + 1)).toNat [] = some [true]
/-- hires: what a group gives, the pay, which is the best -/
def hSum (c : Nat → Int) (g : Nat) : Int := (if g % 2 = 1 then c 0 else 0) + (if g / 2 % 2 = 1 then c 1 else 0) + (if g / 4 % 2 = 1 then c 2 else 0) + (if g / 8 % 2 = 1 then c 3 else 0)
def hTot (c : Nat → Int) : Int := c 0 + c 1 + c 2 + c 3
def hPay (f c : Nat → Int) : Int := c 0 * f 16 + c 1 * f 17 + c 2 * f 18 + c 3 * f 19
def hFeas (f c : Nat → Int) : Prop := (∀ r : Nat, r < 4 → 0 ≤ c r) ∧ ∀ g : Nat, g < 16 → f g ≤ hSum c g
def hLex (c c' : Nat → Int) : Prop := c 0 < c' 0 ∨ (c 0 = c' 0 ∧ (c 1 < c' 1 ∨ (c 1 = c' 1 ∧ (c 2 < c' 2 ∨ (c 2 = c' 2 ∧ c 3 ≤ c' 3)))))
def hBest (f c : Nat → Int) : Prop := hFeas f c ∧ ∀ c' : Nat → Int, hFeas f c' → hTot c < hTot c' ∨ (hTot c = hTot c' ∧ (hPay f c < hPay f c' ∨ (hPay f c = hPay f c' ∧ hLex c c')))
/-- the class's last plan is kept with what it was asked for -/
def HC (I : Nat → Nat → Int32) : Prop := (I 64 0).toInt = -1 ∨ (hBest (fun j => (I 64 j).toInt) (fun r => (I 66 r).toInt) ∧ (I 62 5).toInt = hTot (fun r => (I 66 r).toInt) ∧ (I 62 6).toInt = hPay (fun j => (I 64 j).toInt) (fun r => (I 66 r).toInt))
def CInv (S : aS) (dr tl : Nat) (I : Nat → Nat → Int32) (J : Nat → Nat → Int64) : Prop :=
  WF S ∧ RW S ∧ ((dr = 8 ∧ tl = 31) ∨ (dr = 31 ∧ tl = 8)) ∧ (CIo 8 I ∧ CIo 31 I ∧ (I 23 0).toInt = 0 ∧ (I 46 0).toInt = 0) ∧ CIb S tl I ∧ CIw S I ∧ CIc S I ∧ CIt S I ∧ CIp S I ∧ CIf S I ∧ (J 2 7).toInt = sSd S ∧ HC I
/-- the reference's own words -/
def wordsAt (I : Nat → Nat → Int32) : Prop := ∀ (a : Nat) (w : List Int32), (a, w) ∈ [(73, [105, 110, 107]), (74, [101, 121, 101, 115]), (75, [108, 101, 97, 102]), (76, [114, 101, 97, 100, 101, 114]), (77, [112, 97, 99, 101]), (78, [115, 107, 105, 112, 115]), (79, [112, 97, 121]), (80, [119, 104, 101, 110]), (81, [119, 111, 114, 100]), (82, [103, 117, 97, 114, 100]), (83, [111, 114]), (84, [97, 110, 100]), (85, [110, 111, 116]), (86, [97, 108, 108]), (87, [112, 108, 97, 99, 101]), (88, [108, 101, 116, 116, 101, 114]), (89, [110, 101, 101, 100, 115]), (90, [109, 105, 110]), (91, [109, 97, 120])] → ∀ k : Nat, k < w.length → I a k = w.getD k 0
def MInv (S : aS) (I : Nat → Nat → Int32) (J : Nat → Nat → Int64) : Prop := WF S ∧ MIb S I J ∧ MIn S J ∧ MIw S I ∧ MIc S I ∧ MIt S I ∧ MIp S I ∧ MIf S I ∧ (J 71 67).toInt = sSd S ∧ wordsAt I
theorem CInv.cb {S : aS} {dr tl : Nat} {I : Nat → Nat → Int32} {J : Nat → Nat → Int64} (h : CInv S dr tl I J) : CB S tl I := ⟨h.1, by rcases h.2.2.1 with z | z <;> omega, h.2.2.2.2.1, h.2.2.2.2.2.1⟩
theorem MInv.mb {S : aS} {I : Nat → Nat → Int32} {J : Nat → Nat → Int64} (h : MInv S I J) : MB S I J := ⟨h.1, h.2.1, h.2.2.2.1⟩
/-- the other side's cells are as they were -/
def keepM (I I' : Nat → Nat → Int32) (J J' : Nat → Nat → Int64) : Prop := ∀ a : Nat, 71 ≤ a → I' a = I a ∧ J' a = J a
def keepC (I I' : Nat → Nat → Int32) (J J' : Nat → Nat → Int64) : Prop := ∀ a : Nat, a < 71 → I' a = I a ∧ J' a = J a
/-- the reference's part lives in its own cells -/
theorem MInv.kept {S : aS} {I I' : Nat → Nat → Int32} {J J' : Nat → Nat → Int64} (h : MInv S I J) (k : keepM I I' J J') : MInv S I' J' := by
  have e : ∀ a : Nat, 71 ≤ a → I' a = I a := fun a ha => (k a ha).1
  have eJ : ∀ a : Nat, 71 ≤ a → J' a = J a := fun a ha => (k a ha).2
  obtain ⟨h0, h1, h2, h3, h4, h5, h6, h7, h8, h9⟩ := h
  refine ⟨h0, ?_, ?_, ?_, ?_, ?_, ?_, ?_, ?_, ?_⟩
  · unfold MIb at *; rw [e 93 (by decide), e 95 (by decide), e 96 (by decide), e 99 (by decide), e 100 (by decide), e 101 (by decide), e 102 (by decide), e 103 (by decide), e 105 (by decide), e 106 (by decide), e 107 (by decide)]; exact h1
  · unfold MIn at *; rw [eJ 94 (by decide)]; exact h2
  · unfold MIw at *; rw [e 71 (by decide), e 110 (by decide), e 111 (by decide), e 112 (by decide), e 113 (by decide), e 114 (by decide), e 115 (by decide)]; exact h3
  · unfold MIc at *; rw [e 71 (by decide), e 116 (by decide), e 117 (by decide), e 118 (by decide)]; exact h4
  · unfold MIt at *; rw [e 71 (by decide), e 72 (by decide)]; exact h5
  · unfold MIp at *; rw [e 71 (by decide), e 130 (by decide)]; exact h6
  · unfold MIf at *; rw [e 71 (by decide)]; exact h7
  · rw [eJ 71 (by decide)]; exact h8
  · intro a w hm j hj
    have ha : 71 ≤ a := by
      simp only [List.mem_cons, Prod.mk.injEq, List.not_mem_nil, or_false] at hm
      omega
    rw [e a ha]
    exact h9 a w hm j hj
theorem CInv.kept {S : aS} {dr tl : Nat} {I I' : Nat → Nat → Int32} {J J' : Nat → Nat → Int64} (h : CInv S dr tl I J) (k : keepC I I' J J') : CInv S dr tl I' J' := by
  have e : ∀ a : Nat, a < 71 → I' a = I a := fun a ha => (k a ha).1
  have eJ : ∀ a : Nat, a < 71 → J' a = J a := fun a ha => (k a ha).2
  obtain ⟨h0, h1, h2, h3, h4, h5, h6, h7, h8, h9, h10, h11⟩ := h
  refine ⟨h0, h1, h2, ?_, ?_, ?_, ?_, ?_, ?_, ?_, ?_, ?_⟩
  · unfold CIo at *
    rw [e (8 + 1) (by decide), e (8 + 4) (by decide), e (8 + 7) (by decide), e (8 + 10) (by decide), e (31 + 1) (by decide), e (31 + 4) (by decide), e (31 + 7) (by decide), e (31 + 10) (by decide), e 23 (by decide), e 46 (by decide)]
    exact h3
  · unfold CIb at *
    rw [e tl (by omega), e (tl + 1) (by omega), e (tl + 2) (by omega), e (tl + 3) (by omega), e (tl + 4) (by omega), e (tl + 6) (by omega), e (tl + 7) (by omega), e (tl + 8) (by omega), e (tl + 9) (by omega), e (tl + 10) (by omega), e (tl + 11) (by omega), e (tl + 12) (by omega), e (tl + 13) (by omega), e (tl + 14) (by omega), e (tl + 15) (by omega), e (tl + 17) (by omega), e (tl + 19) (by omega), e (tl + 20) (by omega), e (tl + 21) (by omega)]
    exact h4
  · unfold CIw at *; rw [e 30 (by decide), e 55 (by decide), e 56 (by decide), e 57 (by decide), e 58 (by decide), e 60 (by decide), e 61 (by decide)]; exact h5
  · unfold CIc at *; rw [e 53 (by decide), e 54 (by decide)]; exact h6
  · unfold CIt at *; rw [e 3 (by decide), e 4 (by decide)]; exact h7
  · unfold CIp at *; rw [e 5 (by decide), e 6 (by decide)]; exact h8
  · unfold CIf at *; rw [e 7 (by decide)]; exact h9
  · rw [eJ 2 (by decide)]; exact h10
  · unfold HC at *; rw [e 64 (by decide), e 66 (by decide), e 62 (by decide)]; exact h11
/-- one call of the law: both answer the same, and the invariant holds of the next state; W is the next state -/
def Call (L d cx cm : Nat) (ax am : List Value) (S : aS) : Prop := ∀ (dr tl : Nat) (I : Nat → Nat → Int32) (J : Nat → Nat → Int64), CInv S dr tl I J → MInv S I J →
  WP (d, cx, 0, xent (.ref 2 :: ax) (xML cx), [], (xSH L dr tl, I, J)) (fun v M => ∃ (dr' tl' : Nat) (I1 : Nat → Nat → Int32) (J1 : Nat → Nat → Int64), M = (xSH L dr' tl', I1, J1) ∧
    WP (d, cm, 0, xent (.ref 71 :: am) (xML cm), [], (xSH L dr' tl', I1, J1)) (fun v2 M2 => v2 = v ∧ ∃ (S' : aS) (I2 : Nat → Nat → Int32) (J2 : Nat → Nat → Int64), M2 = (xSH L dr' tl', I2, J2) ∧ CInv S' dr' tl' I2 J2 ∧ MInv S' I2 J2))
/-- calls that only read -/
theorem Call.ro {L d cx cm : Nat} {ax am : List Value} {S : aS} {z : Int} (hc : ∀ (dr tl : Nat) (I : Nat → Nat → Int32) (J : Nat → Nat → Int64), CInv S dr tl I J → PI (d, cx, 0, xent (.ref 2 :: ax) (xML cx), [], (xSH L dr tl, I, J)) z (xSH L dr tl, I, J)) (hm : ∀ (dr tl : Nat) (I : Nat → Nat → Int32) (J : Nat → Nat → Int64), MInv S I J → PI (d, cm, 0, xent (.ref 71 :: am) (xML cm), [], (xSH L dr tl, I, J)) z (xSH L dr tl, I, J)) : Call L d cx cm ax am S := by
  intro dr tl I J h1 h2
  refine WP.mono (hc dr tl I J h1) (fun v M q => ?_)
  obtain ⟨r, rfl, hr, rfl⟩ := q
  refine ⟨dr, tl, I, J, rfl, WP.mono (hm dr tl I J h2) (fun v2 M2 q2 => ?_)⟩
  obtain ⟨r2, rfl, hr2, rfl⟩ := q2
  exact ⟨by rw [eq_ti.mpr (hr2.trans hr.symm)], S, I, J, rfl, h1, h2⟩
section DONE
variable {L d : Nat} {S : aS} {a1 a2 a3 : Int32}
theorem call_fault : Call L (d + 4) 163 239 [.int a1] [.int a1] S := Call.ro (fun _ _ _ _ h => c_fault h.2.2.2.2.2.2.2.2.2.1) (fun _ _ _ _ h => m_fault h.2.2.2.2.2.2.2.1)
theorem call_octet : Call L (d + 4) 193 313 [.int a1] [.int a1] S := Call.ro (fun _ _ _ _ h => c_octet h.1 h.2.2.2.2.2.2.2.2.1) (fun _ _ _ _ h => m_octet h.1 h.2.2.2.2.2.2.1)
theorem call_guard : Call L (d + 4) 187 300 [.int a1] [.int a1] S := Call.ro (fun _ _ _ _ h => c_guard h.cb) (fun _ _ _ _ h => m_guard h.mb)
theorem call_sign : Call L (d + 6) 167 262 [.int a1, .int a2, .int a3] [.int a1, .int a2, .int a3] S := Call.ro (fun _ _ _ _ h => c_sign h.cb) (fun _ _ _ _ h => m_sign h.mb)
theorem call_reader : Call L (d + 6) 168 266 [.int a1, .int a2] [.int a1, .int a2] S := Call.ro (fun _ _ _ _ h => c_reader h.cb) (fun _ _ _ _ h => m_reader h.mb)
end DONE
