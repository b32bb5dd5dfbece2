/-! ===== the state that class and reference both stand for: S field place ===== -/
abbrev aS : Type := Nat → Nat → Int
/-- fields of S: 0 single numbers (0 how many bytes are taped, 1 inks, 2 leaves, 3 readers, 4 rules, 5 words, 6 and 7 the guard, 8 the hour, 9 changes, 10 and 11 the fault, 12 octets, 13 the seed); 1 the tape; 2 inks' eyes, 3 lengths and 4 letters of their names; 5 leaves' lengths; 6 pace, 7 skips, 8 pay of readers, 9 lengths and 10 letters of their names; 11 lengths and 12 letters of words; 13 bounds of the rules' parts, 14 their code; 15 letters, 16 eyes, 17 dry since, 18 ghosts by sign (64 * leaf + place); 19 leaf, 20 place of readers; 21 hour, 22 sign, 23 letter before of changes; 24 octets -/
abbrev sTp (S : aS) : Int := S 0 0
abbrev sNI (S : aS) : Int := S 0 1
abbrev sNL (S : aS) : Int := S 0 2
abbrev sNR (S : aS) : Int := S 0 3
abbrev sNU (S : aS) : Int := S 0 4
abbrev sNW (S : aS) : Int := S 0 5
abbrev sGE (S : aS) : Int := S 0 6
abbrev sGF (S : aS) : Int := S 0 7
abbrev sHr (S : aS) : Int := S 0 8
abbrev sNC (S : aS) : Int := S 0 9
abbrev sFk (S : aS) : Int := S 0 10
abbrev sFp (S : aS) : Int := S 0 11
abbrev sNO (S : aS) : Int := S 0 12
abbrev sSd (S : aS) : Int := S 0 13
/-- a place of a leaf -/
abbrev isL (S : aS) (l : Int) : Prop := 0 ≤ l ∧ l < sNL S
abbrev isP (S : aS) (l p : Int) : Prop := isL S l ∧ 0 ≤ p ∧ p < S 5 l.toNat
abbrev isRd (S : aS) (r : Int) : Prop := 0 ≤ r ∧ r < sNR S
def slot (l p : Int) : Nat := (64 * l + p).toNat
/-- what is so of every state -/
def WF (S : aS) : Prop :=
  (0 ≤ sTp S ∧ sTp S ≤ 1600 ∧ ∀ j : Nat, (j : Int) < sTp S → 0 ≤ S 1 j ∧ S 1 j ≤ 255) ∧
  (0 ≤ sNI S ∧ sNI S ≤ 6 ∧ ∀ i : Nat, (i : Int) < sNI S → 1 ≤ S 2 i ∧ S 2 i ≤ 20 ∧ 1 ≤ S 3 i ∧ S 3 i ≤ 6 ∧ ∀ k : Nat, (k : Int) < S 3 i → 1 ≤ S 4 (6 * i + k) ∧ S 4 (6 * i + k) ≤ 26) ∧
  (0 ≤ sNL S ∧ sNL S ≤ 8 ∧ ∀ l : Nat, (l : Int) < sNL S → 1 ≤ S 5 l ∧ S 5 l ≤ 64) ∧
  (0 ≤ sNR S ∧ sNR S ≤ 4 ∧ ∀ r : Nat, (r : Int) < sNR S → 1 ≤ S 6 r ∧ S 6 r ≤ 64 ∧ 0 ≤ S 7 r ∧ S 7 r ≤ 9 ∧ S 7 r ≠ 1 ∧ 0 ≤ S 8 r ∧ S 8 r ≤ 99 ∧ 1 ≤ S 9 r ∧ S 9 r ≤ 6 ∧ ∀ k : Nat, (k : Int) < S 9 r → 1 ≤ S 10 (6 * r + k) ∧ S 10 (6 * r + k) ≤ 26) ∧
  (0 ≤ sNW S ∧ sNW S ≤ 16 ∧ ∀ w : Nat, (w : Int) < sNW S → 1 ≤ S 11 w ∧ S 11 w ≤ 12 ∧ ∀ k : Nat, (k : Int) < S 11 w → 1 ≤ S 12 (12 * w + k) ∧ S 12 (12 * w + k) ≤ 26) ∧
  (0 ≤ sGE S ∧ sGE S ≤ 99 ∧ (0 < sGE S → 0 ≤ sGF S ∧ sGF S < sGE S)) ∧
  (0 ≤ sHr S ∧ sHr S ≤ 20000) ∧
  (∀ l p : Int, isP S l p → 0 ≤ S 15 (slot l p) ∧ S 15 (slot l p) ≤ 26 ∧ 0 ≤ S 16 (slot l p) ∧ S 16 (slot l p) ≤ 99 ∧ (S 15 (slot l p) = 0 → S 16 (slot l p) = 0) ∧ 0 ≤ S 18 (slot l p) ∧ S 18 (slot l p) ≤ 26) ∧
  (∀ r : Nat, (r : Int) < sNR S → (S 19 r = -1 ∧ S 20 r = 0) ∨ isP S (S 19 r) (S 20 r)) ∧
  (0 ≤ sNC S ∧ sNC S ≤ 400 ∧ ∀ k : Nat, (k : Int) < sNC S → 0 ≤ S 21 k ∧ S 21 k ≤ sHr S ∧ (∃ l p : Int, isP S l p ∧ S 22 k = 64 * l + p) ∧ 0 ≤ S 23 k ∧ S 23 k ≤ 26 ∧ ∀ k' : Nat, k' < k → S 21 k' ≤ S 21 k) ∧
  (0 ≤ sNO S ∧ sNO S ≤ 1600 ∧ ∀ j : Nat, (j : Int) < sNO S → 0 ≤ S 24 j ∧ S 24 j ≤ 255) ∧
  (0 ≤ sSd S ∧ sSd S < 2147483648) ∧
  (0 ≤ sNU S ∧ sNU S ≤ 8)
/-- the rules' steps of the class for the reference's codes -/
def stepOf (c : Int) : Int := if 1000 ≤ c then c - 1000 else if c = 1 then -43 else if c = 2 then -45 else if c = 3 then -42 else if c = 4 then -47 else if c = 5 then -18 else if c = 6 then -19 else if c = 7 then -15 else if c = 8 then -3 else if c = 9 then -16 else if c = 10 then -17 else if c = 11 then -60 else if c = 12 then -62 else if c = 13 then -61 else if c = 14 then -12 else if c = 15 then -11 else if c = 16 then -13 else -14
/-- the class's books: the widths of their rows -/
def CIo (B : Nat) (I : Nat → Nat → Int32) : Prop := (I (B + 1) 0).toInt = 6 ∧ (I (B + 4) 0).toInt = 64 ∧ (I (B + 7) 0).toInt = 6 ∧ (I (B + 10) 0).toInt = 12
/-- the told book -/
def CIb (S : aS) (B : Nat) (I : Nat → Nat → Int32) : Prop :=
  ((I (B + 1) 3).toInt = sNI S ∧ (I (B + 4) 3).toInt = sNL S ∧ (I (B + 7) 3).toInt = sNR S ∧ (I (B + 10) 3).toInt = sNW S ∧ (I B 10).toInt = sGE S ∧ (0 < sGE S → (I B 11).toInt = sGF S)) ∧
  (∀ i : Nat, (i : Int) < sNI S → (I (B + 17) i).toInt = S 2 i ∧ (I (B + 3) i).toInt = S 3 i ∧ ∀ k : Nat, (k : Int) < S 3 i → (I (B + 2) (6 * i + k)).toInt = S 4 (6 * i + k)) ∧
  (∀ l : Nat, (l : Int) < sNL S → (I (B + 6) l).toInt = S 5 l) ∧
  (∀ r : Nat, (r : Int) < sNR S → (I (B + 19) r).toInt = S 6 r ∧ (I (B + 20) r).toInt = S 7 r ∧ (I (B + 21) r).toInt = S 8 r ∧ (I (B + 9) r).toInt = S 9 r ∧ ∀ k : Nat, (k : Int) < S 9 r → (I (B + 8) (6 * r + k)).toInt = S 10 (6 * r + k)) ∧
  (∀ w : Nat, (w : Int) < sNW S → (I (B + 12) w).toInt = S 11 w ∧ ∀ k : Nat, (k : Int) < S 11 w → (I (B + 11) (12 * w + k)).toInt = S 12 (12 * w + k)) ∧
  ((I (B + 13) 4).toInt = 2 * sNU S ∧ (∀ j : Nat, (j : Int) ≤ 2 * sNU S → (I (B + 15) j).toInt = S 13 j) ∧ ∀ j : Nat, (j : Int) < S 13 (2 * sNU S).toNat → (I (B + 14) j).toInt = stepOf (S 14 j))
/-- the world of the class -/
def CIw (S : aS) (I : Nat → Nat → Int32) : Prop := (I 30 9).toInt = sHr S ∧
  (∀ l p : Int, isP S l p → (I 55 (slot l p)).toInt = S 15 (slot l p) ∧ (I 56 (slot l p)).toInt = S 16 (slot l p) ∧ (S 15 (slot l p) ≠ 0 → S 16 (slot l p) = 0 → (I 57 (slot l p)).toInt = S 17 (slot l p)) ∧ (I 58 (slot l p)).toInt = S 18 (slot l p)) ∧
  ∀ r : Nat, (r : Int) < sNR S → (I 60 r).toInt = S 19 r ∧ (I 61 r).toInt = S 20 r
/-- the class's changes, from the oldest on -/
def CIc (S : aS) (I : Nat → Nat → Int32) : Prop := (I 53 2).toInt = sNC S ∧ ∃ o : Nat, o < 400 ∧ (I 53 1).toInt = o ∧ ∀ k : Nat, (k : Int) < sNC S → (I 54 ((o + k) % 400 * 4)).toInt = S 21 k ∧ (I 54 ((o + k) % 400 * 4 + 1)).toInt = S 22 k / 64 ∧ (I 54 ((o + k) % 400 * 4 + 2)).toInt = S 22 k % 64 ∧ (I 54 ((o + k) % 400 * 4 + 3)).toInt = S 23 k
def CIt (S : aS) (I : Nat → Nat → Int32) : Prop := (I 3 1).toInt = sTp S ∧ ∀ j : Nat, (j : Int) < sTp S → (I 4 j).toInt = S 1 j
def CIp (S : aS) (I : Nat → Nat → Int32) : Prop := (I 5 1).toInt = sNO S ∧ ∀ j : Nat, (j : Int) < sNO S → (I 6 j).toInt = S 24 j
def CIf (S : aS) (I : Nat → Nat → Int32) : Prop := (I 7 6).toInt = sFk S ∧ (I 7 7).toInt = sFp S
/-- the reference's book -/
def MIb (S : aS) (I : Nat → Nat → Int32) (J : Nat → Nat → Int64) : Prop :=
  ((I 93 5).toInt = sNI S ∧ (I 93 7).toInt = sNL S ∧ (I 93 6).toInt = sNR S ∧ (I 93 8).toInt = sNW S ∧ (I 93 9).toInt = sNU S ∧ (I 102 2).toInt = sGE S ∧ (0 < sGE S → (I 102 3).toInt = sGF S)) ∧
  (∀ i : Nat, (i : Int) < sNI S → (I 95 (6 + i)).toInt = S 2 i) ∧
  (∀ l : Nat, (l : Int) < sNL S → (I 96 (8 + l)).toInt = S 5 l) ∧
  (∀ r : Nat, (r : Int) < sNR S → (I 99 (12 + 3 * r)).toInt = S 6 r ∧ (I 99 (12 + 3 * r + 1)).toInt = S 7 r ∧ (I 99 (12 + 3 * r + 2)).toInt = S 8 r) ∧
  (∀ w : Nat, (w : Int) < sNW S → (I 100 (16 + w)).toInt = S 11 w ∧ ∀ k : Nat, (k : Int) < S 11 w → (I 101 (192 + 12 * w + k)).toInt = S 12 (12 * w + k)) ∧
  (∀ u : Nat, (u : Int) < sNU S → (I 105 (8 + u)).toInt = S 13 (2 * u) ∧ (I 106 (8 + u)).toInt = S 13 (2 * u + 1) ∧ (I 107 (8 + u)).toInt = S 13 (2 * u + 2)) ∧
  (∀ j : Nat, (j : Int) < S 13 (2 * sNU S).toNat → (I 103 (1600 + j)).toInt = S 14 j)
/-- a name as the reference's number -/
def nameN (f : Nat → Int) : Nat → Int
  | 0 => 0
  | n + 1 => 27 * nameN f n + f n
def MIn (S : aS) (J : Nat → Nat → Int64) : Prop := (∀ i : Nat, (i : Int) < sNI S → (J 94 (10 + i)).toInt = nameN (fun k => S 4 (6 * i + k)) (S 3 i).toNat) ∧ ∀ r : Nat, (r : Int) < sNR S → (J 94 (16 + r)).toInt = nameN (fun k => S 10 (6 * r + k)) (S 9 r).toNat
def MIw (S : aS) (I : Nat → Nat → Int32) : Prop := (I 71 55).toInt = sHr S ∧
  (∀ l p : Int, isP S l p → (I 110 (slot l p)).toInt = S 15 (slot l p) ∧ (I 111 (slot l p)).toInt = S 16 (slot l p) ∧ (S 15 (slot l p) ≠ 0 → S 16 (slot l p) = 0 → (I 112 (slot l p)).toInt = S 17 (slot l p)) ∧ (I 113 (slot l p)).toInt = S 18 (slot l p)) ∧
  ∀ r : Nat, (r : Int) < sNR S → (I 114 r).toInt = S 19 r ∧ (S 19 r ≠ -1 → (I 115 r).toInt = S 20 r)
def MIc (S : aS) (I : Nat → Nat → Int32) : Prop := (I 71 65).toInt = sNC S ∧ ∃ o : Nat, o < 400 ∧ (I 71 66).toInt = o ∧ ∀ k : Nat, (k : Int) < sNC S → (I 116 ((o + k) % 400)).toInt = S 21 k ∧ (I 117 ((o + k) % 400)).toInt = S 22 k ∧ (I 118 ((o + k) % 400)).toInt = S 23 k
def MIt (S : aS) (I : Nat → Nat → Int32) : Prop := (I 71 1).toInt = sTp S ∧ ∀ j : Nat, (j : Int) < sTp S → (I 72 j).toInt = S 1 j
def MIp (S : aS) (I : Nat → Nat → Int32) : Prop := (I 71 82).toInt = sNO S ∧ ∀ j : Nat, (j : Int) < sNO S → (I 130 j).toInt = S 24 j
def MIf (S : aS) (I : Nat → Nat → Int32) : Prop := (I 71 7).toInt = sFk S ∧ (I 71 8).toInt = sFp S
