/-! ===== book: the class's call ===== -/
def tpS (S : aS) : Tp := (S 1, (sTp S).toNat)
def flS (S : aS) (k l : Int) : aS := sset (sset (sset S 0 0 0) 0 10 k) 0 11 l
/-- the state behind a text that is told -/
def newS (S b : aS) : aS := fun f k =>
  if f = 0 then (if k = 0 then 0 else if k ≤ 7 then b 0 k else if k ≤ 10 then 0 else if k = 11 then -1 else S 0 k)
  else if f = 1 ∨ f = 24 then S f k
  else if f ≤ 14 then b f k
  else if f = 15 then b 25 k
  else if f = 16 then eyesV b ((k / 64 : Nat) : Int) ((k % 64 : Nat) : Int) (b 25 k) (b 2 (b 26 (k / 64)).toNat)
  else if f = 19 then -1
  else if f = 25 ∨ f = 26 then b f k
  else 0
noncomputable def bkS (S : aS) : aS := match told (tpS S) with
  | .ok y => newS S y.1.1
  | .error e => flS S e.1 e.2
noncomputable def bkZ (S : aS) : Int := match told (tpS S) with
  | .ok y => y.2
  | .error _ => -1
section BOOKC
variable {S b : aS} {c : List Int} {L d dr tl : Nat} {I I0 I1 I2 : Nat → Nat → Int32} {J : Nat → Nat → Int64} {k l : Int}
theorem slot_n {l p : Int} (h1 : 0 ≤ l) (h2 : 0 ≤ p) (h3 : p < 64) : slot l p = 64 * l.toNat + p.toNat ∧ slot l p / 64 = l.toNat ∧ slot l p % 64 = p.toNat := by
  have e : slot l p = 64 * l.toNat + p.toNat := by unfold slot; omega
  refine ⟨e, ?_, ?_⟩
  · rw [e]; omega
  · rw [e]; omega
theorem nP {l p : Int} (w : WB (b, c)) (h : isP (newS S b) l p) : 0 ≤ l ∧ l < sNL b ∧ 0 ≤ p ∧ p < b 5 l.toNat ∧ p < 64 := by
  have h1 : 0 ≤ l := h.1.1
  have h2 : l < sNL b := h.1.2
  have h3 : 0 ≤ p := h.2.1
  have h4 : p < b 5 l.toNat := h.2.2
  have := (w.2.1.2.2 l.toNat (by show (l.toNat : Int) < sNL b; omega)).2.1
  have h5 : b 5 l.toNat ≤ 64 := this
  exact ⟨h1, h2, h3, h4, by omega⟩
theorem eyB (w : WB (b, c)) {l p v : Int} {i : Nat} (hi : (i : Int) < sNI b) : 0 ≤ eyesV b l p v (b 2 i) ∧ eyesV b l p v (b 2 i) ≤ 99 := by
  have h := w.1.2.2 i hi
  have h1 : 1 ≤ b 2 i := h.1
  have h2 : b 2 i ≤ 20 := h.2.1
  exact eyF_b ⟨by omega, by omega⟩ _ _
theorem nSign (w : WB (b, c)) {l p : Int} (h : isP (newS S b) l p) : newS S b 15 (slot l p) = b 25 (64 * l.toNat + p.toNat) ∧ (1 ≤ b 25 (64 * l.toNat + p.toNat) ∧ b 25 (64 * l.toNat + p.toNat) ≤ 26) ∧ (0 ≤ b 26 l.toNat ∧ b 26 l.toNat < sNI b) ∧ newS S b 16 (slot l p) = eyesV b l p (b 25 (64 * l.toNat + p.toNat)) (b 2 (b 26 l.toNat).toNat) := by
  obtain ⟨h1, h2, h3, h4, h5⟩ := nP w h
  obtain ⟨e1, e2, e3⟩ := slot_n h1 h3 h5
  have q := w.2.1.2.2 l.toNat (by show (l.toNat : Int) < sNL b; omega)
  refine ⟨?_, q.2.2.2 p.toNat (by show (p.toNat : Int) < b 5 l.toNat; omega), q.2.2.1, ?_⟩
  · show b 25 (slot l p) = _
    rw [e1]
  · show eyesV b ((slot l p / 64 : Nat) : Int) ((slot l p % 64 : Nat) : Int) (b 25 (slot l p)) (b 2 (b 26 (slot l p / 64)).toNat) = _
    rw [e2, e3, e1, Int.toNat_of_nonneg h1, Int.toNat_of_nonneg h3]
theorem WF.fl (h : WF S) : WF (flS S k l) := by
  obtain ⟨h1, h2, h3, h4, h5, h6, h7, h8, h9, h10, h11, h12, h13⟩ := h
  exact ⟨⟨Int.le_refl 0, (by decide : (0 : Int) ≤ 1600), fun j hj => by have : (j : Int) < 0 := hj; omega⟩, h2, h3, h4, h5, h6, h7, h8, h9, h10, h11, h12, h13⟩
theorem WF.new (h : WF S) (w : WB (b, c)) : WF (newS S b) := by
  obtain ⟨h1, h2, h3, h4, h5, h6, h7, h8, h9, h10, h11, h12, h13⟩ := h
  have W := w
  obtain ⟨w1, w2, w3, w4, w5, w6⟩ := W
  refine ⟨⟨Int.le_refl 0, (by decide : (0 : Int) ≤ 1600), fun j hj => by have : (j : Int) < 0 := hj; omega⟩, w1, ⟨w2.1, w2.2.1, fun l hl => ⟨(w2.2.2 l hl).1, (w2.2.2 l hl).2.1⟩⟩, w3, w4, w5, ⟨Int.le_refl 0, (by decide : (0 : Int) ≤ 20000)⟩, fun l p hP => ?_, fun r hr => Or.inl ⟨rfl, rfl⟩, ⟨Int.le_refl 0, (by decide : (0 : Int) ≤ 400), fun k hk => by have : (k : Int) < 0 := hk; omega⟩, h11, h12, w6.1⟩
  obtain ⟨n1, n2, n3, n4⟩ := nSign w hP
  have eb := eyB w (l := l) (p := p) (v := b 25 (64 * l.toNat + p.toNat)) (i := (b 26 l.toNat).toNat) (by omega)
  rw [n1, n4]
  exact ⟨by omega, n2.2, eb.1, eb.2, fun z => by omega, Int.le_refl 0, (by decide : (0 : Int) ≤ 26)⟩
theorem RW.new (w : WB (b, c)) : RW (newS S b) := by
  obtain ⟨w1, w2, w3, w4, w5, w60, w61, w62, w63, w64, w65⟩ := w
  refine ⟨⟨w61, (by decide : (0 : Int) ≤ 9999)⟩, fun u hu => ?_⟩
  obtain ⟨q1, q2, q3, q4, q5, q6⟩ := w65 u hu
  have q4' : b 13 (2 * u + 2) ≤ (c.length : Int) := q4
  have w63' : c.length ≤ 1600 := w63
  exact ⟨q1, q2, q3, by show b 13 (2 * u + 2) ≤ 1600; omega, q5, q6⟩
theorem NW.new (w : WB (b, c)) : NW (newS S b) := by
  intro l p hP
  obtain ⟨n1, n2, n3, n4⟩ := nSign w hP
  have ec : ∀ v nd : Int, eyesV (newS S b) l p v nd = eyesV b l p v nd := fun v nd => eyesV_c rfl rfl rfl
  rw [ec, n1, n4]
  exact ⟨rfl, n2, n3, rfl⟩
theorem CIb.new (w : WB (b, c)) (db : DB b dr I) (cc : CC dr c I) : CIb (newS S b) dr I ∧ LFc (newS S b) dr I := by
  obtain ⟨d1, d2, d3, d4, d5, d6, d7⟩ := db
  have w60 : 0 ≤ sNU b := w.2.2.2.2.2.1.1
  have w62 : b 13 (2 * (sNU b).toNat) = c.length := w.2.2.2.2.2.2.2.1
  have w64 : ∀ j : Nat, j < c.length → b 14 j = c.getD j 0 := w.2.2.2.2.2.2.2.2.2.1
  refine ⟨⟨d2, d3, fun l hl => (d4 l hl).2.1, d5, d6, d7.1, d7.2, fun j hj => ?_⟩, d1.2.1, fun l hl => ⟨(d4 l hl).1, (d4 l hl).2.2⟩⟩
  have hj' : (j : Int) < b 13 (2 * sNU b).toNat := hj
  rw [show (2 * sNU b).toNat = 2 * (sNU b).toNat by omega, w62] at hj'
  have lt : j < c.length := by omega
  show (I (dr + 14) j).toInt = stepOf (b 14 j)
  rw [w64 j lt]
  exact cc.2 j lt
theorem tp_of (hw : WF S) (h : CIt S I) : TP (tpS S) I := by
  obtain ⟨h1, h2, h3⟩ := hw.1
  have e : (((tpS S).2 : Nat) : Int) = sTp S := by show (((sTp S).toNat : Nat) : Int) = _; omega
  refine ⟨⟨by show (sTp S).toNat ≤ 1600; omega, fun j hj => h3 j (by omega)⟩, by rw [e]; exact h.1, fun j hj => h.2 j (by omega)⟩
theorem c_book (q : CInv S dr tl I J) : WP ((d + 43), 162, 0, [some (.ref 2)], [], (xSH L dr tl, I, J)) (fun v M => ∃ (z : Int32) (dr' tl' : Nat) (I1 : Nat → Nat → Int32), v = some (.int z) ∧ M = (xSH L dr' tl', I1, J) ∧ keepM I I1 J J ∧ z.toInt = bkZ S ∧ CInv (bkS S) dr' tl' I1 J) := by
  obtain ⟨q1, q2, q3, ⟨q41, q42, q43, q44⟩, q5, q6, q7, q8, q9, q10, q11, q12⟩ := q
  have hd : dr = 8 ∨ dr = 31 := by omega
  have tp := tp_of q1 q8
  have co : CIo dr I := by rcases hd with rfl | rfl; exact q41; exact q42
  have h15 : (I (dr + 15) 0).toInt = 0 := by rcases hd with rfl | rfl; exact q43; exact q44
  refine w162_0 (c_parse hd tp co h15 fun I1 f1 g1 => ?_)
  have tp1 := tp.fe hd f1
  refine w115_0 (Or.inl rfl) (sk (by decide) (sk (fun z => ?_) ⟨1, _, J, rfl, rfl, w45_0 ⟨_, _, J, rfl, rfl, ?_⟩⟩))
  · rw [lt0, tp1.2.1] at z
    omega
  have o : ∀ a : Nat, a ≠ 7 → a ≠ 3 → (a < dr ∨ dr + 21 < a) → xwI I1 3 1 0 a = I a := fun a h1 h2 h3 => by rw [xwI_ne h2, f1.1 a h1 h3]
  have o' : ∀ a : Nat, a ≠ 3 → xwI I1 3 1 0 a = I1 a := fun a h => xwI_ne h
  have z31 : (xwI I1 3 1 0 3 1).toInt = 0 := rfl
  have km : keepM I (xwI I1 3 1 0) J J := fun a ha => ⟨o a (by omega) (by omega) (by omega), rfl⟩
  have cio : CIo 8 (xwI I1 3 1 0) ∧ CIo 31 (xwI I1 3 1 0) ∧ ((xwI I1 3 1 0) 23 0).toInt = 0 ∧ ((xwI I1 3 1 0) 46 0).toInt = 0 := by
    obtain ⟨p1, p2, p3, p4, p5⟩ := f1.2.2
    unfold CIo at *
    rw [o' (8 + 1) (by decide), o' (8 + 4) (by decide), o' (8 + 7) (by decide), o' (8 + 10) (by decide), o' (31 + 1) (by decide), o' (31 + 4) (by decide), o' (31 + 7) (by decide), o' (31 + 10) (by decide), o' 23 (by decide), o' 46 (by decide)]
    rcases hd with rfl | rfl
    · rw [p1, p2, p3, p4, show I1 23 0 = I 23 0 from p5, f1.1 (31 + 1) (by decide) (by decide), f1.1 (31 + 4) (by decide) (by decide), f1.1 (31 + 7) (by decide) (by decide), f1.1 (31 + 10) (by decide) (by decide), f1.1 46 (by decide) (by decide)]
      exact ⟨q41, q42, q43, q44⟩
    · rw [p1, p2, p3, p4, show I1 46 0 = I 46 0 from p5, f1.1 (8 + 1) (by decide) (by decide), f1.1 (8 + 4) (by decide) (by decide), f1.1 (8 + 7) (by decide) (by decide), f1.1 (8 + 10) (by decide) (by decide), f1.1 23 (by decide) (by decide)]
      exact ⟨q41, q42, q43, q44⟩
  have hcp : CIp S (xwI I1 3 1 0) := by unfold CIp at *; rw [o 5 (by decide) (by decide) (by omega), o 6 (by decide) (by decide) (by omega)]; exact q9
  have hhc : HC (xwI I1 3 1 0) := by unfold HC at *; rw [o 64 (by decide) (by decide) (by omega), o 66 (by decide) (by decide) (by omega), o 62 (by decide) (by decide) (by omega)]; exact q12
  cases ht : told (tpS S) with
  | error e =>
    rw [ht] at g1
    obtain ⟨e0, e1, e2⟩ : e.1 ≠ 0 ∧ (I1 7 6).toInt = e.1 ∧ (I1 7 7).toInt = e.2 := g1
    have hS : bkS S = flS S e.1 e.2 := by unfold bkS; rw [ht]
    have hZ : bkZ S = -1 := by unfold bkZ; rw [ht]
    refine sk (fun z => e0 (by rw [← e1]; exact eq0.mp z)) ⟨-1, dr, tl, _, rfl, rfl, km, by rw [hZ]; rfl, ?_⟩
    rw [hS]
    refine ⟨q1.fl, q2, q3, cio, ?_, ?_, ?_, ⟨z31, fun j hj => by have : (j : Int) < 0 := hj; omega⟩, hcp, ⟨e1, e2⟩, q11, hhc⟩
    · have h : ∀ a : Nat, tl ≤ a → a ≤ tl + 21 → xwI I1 3 1 0 a = I a := fun a h1 h2 => o a (by omega) (by omega) (by omega)
      unfold CIb at *
      rw [h tl (by omega) (by omega), h (tl + 1) (by omega) (by omega), h (tl + 2) (by omega) (by omega), h (tl + 3) (by omega) (by omega), h (tl + 4) (by omega) (by omega), h (tl + 6) (by omega) (by omega), h (tl + 7) (by omega) (by omega), h (tl + 8) (by omega) (by omega), h (tl + 9) (by omega) (by omega), h (tl + 10) (by omega) (by omega), h (tl + 11) (by omega) (by omega), h (tl + 12) (by omega) (by omega), h (tl + 13) (by omega) (by omega), h (tl + 14) (by omega) (by omega), h (tl + 15) (by omega) (by omega), h (tl + 17) (by omega) (by omega), h (tl + 19) (by omega) (by omega), h (tl + 20) (by omega) (by omega), h (tl + 21) (by omega) (by omega)]
      exact q5
    · unfold CIw at *
      rw [o 30 (by decide) (by decide) (by omega), o 55 (by decide) (by decide) (by omega), o 56 (by decide) (by decide) (by omega), o 57 (by decide) (by decide) (by omega), o 58 (by decide) (by decide) (by omega), o 60 (by decide) (by decide) (by omega), o 61 (by decide) (by decide) (by omega)]
      exact q6
    · unfold CIc at *
      rw [o 53 (by decide) (by decide) (by omega), o 54 (by decide) (by decide) (by omega)]
      exact q7
  | ok y =>
    rw [ht] at g1
    obtain ⟨e1, e2, db, cc, wb, e8⟩ : (I1 7 6).toInt = 0 ∧ (I1 7 7).toInt = -1 ∧ DB y.1.1 dr I1 ∧ CC dr y.1.2 I1 ∧ WB y.1 ∧ (I1 7 8).toInt = y.2 := g1
    have hS : bkS S = newS S y.1.1 := by unfold bkS; rw [ht]
    have hZ : bkZ S = y.2 := by unfold bkZ; rw [ht]
    refine hit (eq0.mpr e1) (w162_28 q3 ?_)
    have wb' : WB (y.1.1, y.1.2) := wb
    obtain ⟨cb, lf⟩ := CIb.new (S := S) wb' db cc
    have hx : ∀ a : Nat, dr ≤ a → a ≤ dr + 21 → xwI I1 3 1 0 a = I1 a := fun a h1 h2 => xwI_ne (by omega)
    have cb' : CIb (newS S y.1.1) dr (xwI I1 3 1 0) := by
      unfold CIb at *
      rw [hx dr (by omega) (by omega), hx (dr + 1) (by omega) (by omega), hx (dr + 2) (by omega) (by omega), hx (dr + 3) (by omega) (by omega), hx (dr + 4) (by omega) (by omega), hx (dr + 6) (by omega) (by omega), hx (dr + 7) (by omega) (by omega), hx (dr + 8) (by omega) (by omega), hx (dr + 9) (by omega) (by omega), hx (dr + 10) (by omega) (by omega), hx (dr + 11) (by omega) (by omega), hx (dr + 12) (by omega) (by omega), hx (dr + 13) (by omega) (by omega), hx (dr + 14) (by omega) (by omega), hx (dr + 15) (by omega) (by omega), hx (dr + 17) (by omega) (by omega), hx (dr + 19) (by omega) (by omega), hx (dr + 20) (by omega) (by omega), hx (dr + 21) (by omega) (by omega)]
      exact cb
    have lf' : LFc (newS S y.1.1) dr (xwI I1 3 1 0) := by
      unfold LFc at *
      rw [hx (dr + 4) (by omega) (by omega), hx (dr + 5) (by omega) (by omega), hx (dr + 18) (by omega) (by omega)]
      exact lf
    have rg : ringOK (xwI I1 3 1 0) := by
      obtain ⟨c1, oo, c2, c3, -⟩ := q7
      have hn := q1.2.2.2.2.2.2.2.2.2.1
      unfold ringOK
      rw [o 53 (by decide) (by decide) (by omega)]
      omega
    have hw' := q1.new wb'
    refine c_tell (S := newS S y.1.1) (tl := dr) (dr := tl) hw' (RW.new wb') (NW.new wb') hd cb' lf' rg fun I2 k1 k2 k3 k4 k5 k6 k7 k8 k9 => ?_
    have k7' : I2 7 = I1 7 := by rw [k1 7 (by decide) (by omega) (by omega) (by decide), o' 7 (by decide)]
    have k3' : I2 3 = xwI I1 3 1 0 3 := k1 3 (by decide) (by omega) (by omega) (by decide)
    refine ⟨_, tl, dr, I2, rfl, rfl, fun a ha => ⟨by rw [k1 a (by omega) (by omega) (by omega) (by omega)]; exact (km a ha).1, rfl⟩, by rw [hZ, k7']; exact e8, ?_⟩
    rw [hS]
    refine ⟨hw', RW.new wb', by omega, ?_, k9, ⟨k3, fun l p hP => ?_, fun r hr => ?_⟩, ⟨k5, 0, by decide, k4, fun k hk => by have : (k : Int) < 0 := hk; omega⟩, ⟨by rw [k3']; exact z31, fun j hj => by have : (j : Int) < 0 := hj; omega⟩, ?_, ⟨by rw [k7']; exact e1, by rw [k7']; exact e2⟩, q11, ?_⟩
    · have e : ∀ a : Nat, a ≠ 30 → a ≠ dr + 13 → a ≠ dr + 16 → a < 53 → I2 a = xwI I1 3 1 0 a := fun a h1 h2 h3 h4 => k1 a h1 h2 h3 (Or.inl h4)
      unfold CIo at *
      rw [e (8 + 1) (by decide) (by omega) (by omega) (by decide), e (8 + 4) (by decide) (by omega) (by omega) (by decide), e (8 + 7) (by decide) (by omega) (by omega) (by decide), e (8 + 10) (by decide) (by omega) (by omega) (by decide), e (31 + 1) (by decide) (by omega) (by omega) (by decide), e (31 + 4) (by decide) (by omega) (by omega) (by decide), e (31 + 7) (by decide) (by omega) (by omega) (by decide), e (31 + 10) (by decide) (by omega) (by omega) (by decide), e 23 (by decide) (by omega) (by omega) (by decide), e 46 (by decide) (by omega) (by omega) (by decide)]
      exact cio
    · obtain ⟨y1, y2, y3⟩ := k8 l p hP
      have hb := isP_b hw' hP
      have hs : slot l p < 512 := by unfold slot; omega
      exact ⟨y1, y2, fun _ _ => y3, k6 _ hs⟩
    · have h4 : sNR (newS S y.1.1) ≤ 4 := hw'.2.2.2.1.2.1
      exact k7 r (by omega)
    · unfold CIp at *
      rw [k1 5 (by decide) (by omega) (by omega) (by decide), k1 6 (by decide) (by omega) (by omega) (by decide)]
      exact hcp
    · unfold HC at *
      rw [k1 64 (by decide) (by omega) (by omega) (by decide), k1 66 (by decide) (by omega) (by omega) (by decide), k1 62 (by decide) (by omega) (by omega) (by decide)]
      exact hhc
end BOOKC
