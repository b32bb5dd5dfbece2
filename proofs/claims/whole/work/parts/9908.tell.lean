/-! ===== book: the class tells the new book to its world ===== -/
def ringOK (I : Nat → Nat → Int32) : Prop := (0 ≤ (I 53 1).toInt ∧ (I 53 1).toInt < 400) ∧ 0 ≤ (I 53 2).toInt ∧ (I 53 2).toInt ≤ 400
/-- the state's leaves are just written -/
def NW (S : aS) : Prop := ∀ l p : Int, isP S l p → S 15 (slot l p) = S 25 (64 * l.toNat + p.toNat) ∧ (1 ≤ S 15 (slot l p) ∧ S 15 (slot l p) ≤ 26) ∧ (0 ≤ S 26 l.toNat ∧ S 26 l.toNat < sNI S) ∧ S 16 (slot l p) = eyesV S l p (S 15 (slot l p)) (S 2 (S 26 l.toNat).toNat)
/-- the leaves as the class's book tells them -/
def LFc (S : aS) (tl : Nat) (I : Nat → Nat → Int32) : Prop := (I (tl + 4) 0).toInt = 64 ∧ ∀ l : Nat, (l : Int) < sNL S → (I (tl + 18) l).toInt = S 26 l ∧ ∀ k : Nat, (k : Int) < S 5 l → (I (tl + 5) (64 * l + k)).toInt = S 25 (64 * l + k)
def frT (tl : Nat) (I I1 : Nat → Nat → Int32) : Prop := (∀ a : Nat, a ≠ tl + 13 → a ≠ tl + 16 → a ≠ 53 → a ≠ 54 → a ≠ 55 → a ≠ 56 → a ≠ 57 → I1 a = I a) ∧ I1 (tl + 13) 4 = I (tl + 13) 4
section TELL
variable {S : aS} {L d dr tl : Nat} {I I0 I1 I2 : Nat → Nat → Int32} {J : Nat → Nat → Int64} {a0 a1 a2 a3 a4 a5 a6 : Int32} {R : (Nat → Nat → Int32) → (Nat → Nat → Int64) → Prop} {Q : Option Value → xMem → Prop} {n : Nat}
theorem frT_refl : frT tl I I := ⟨fun _ _ _ _ _ _ _ _ => rfl, rfl⟩
theorem frT.tr (h : frT tl I I1) (h' : frT tl I1 I2) : frT tl I I2 := ⟨fun a g1 g2 g3 g4 g5 g6 g7 => (h'.1 a g1 g2 g3 g4 g5 g6 g7).trans (h.1 a g1 g2 g3 g4 g5 g6 g7), h'.2.trans h.2⟩
theorem CIb.ft (ht : tl = 8 ∨ tl = 31) (g : CIb S tl I) (f : frT tl I I1) : CIb S tl I1 := by
  have h : ∀ a : Nat, a ≠ tl + 13 → a ≠ tl + 16 → a < tl + 22 → tl ≤ a → I1 a = I a := fun a h1 h2 h3 h4 => f.1 a h1 h2 (by omega) (by omega) (by omega) (by omega) (by omega)
  unfold CIb at *
  rw [f.2, h tl (by omega) (by omega) (by omega) (by omega), h (tl + 1) (by omega) (by omega) (by omega) (by omega), h (tl + 2) (by omega) (by omega) (by omega) (by omega), h (tl + 3) (by omega) (by omega) (by omega) (by omega), h (tl + 4) (by omega) (by omega) (by omega) (by omega), h (tl + 6) (by omega) (by omega) (by omega) (by omega), h (tl + 7) (by omega) (by omega) (by omega) (by omega), h (tl + 8) (by omega) (by omega) (by omega) (by omega), h (tl + 9) (by omega) (by omega) (by omega) (by omega), h (tl + 10) (by omega) (by omega) (by omega) (by omega), h (tl + 11) (by omega) (by omega) (by omega) (by omega), h (tl + 12) (by omega) (by omega) (by omega) (by omega), h (tl + 14) (by omega) (by omega) (by omega) (by omega), h (tl + 15) (by omega) (by omega) (by omega) (by omega), h (tl + 17) (by omega) (by omega) (by omega) (by omega), h (tl + 19) (by omega) (by omega) (by omega) (by omega), h (tl + 20) (by omega) (by omega) (by omega) (by omega), h (tl + 21) (by omega) (by omega) (by omega) (by omega)]
  exact g
theorem LFc.ft (ht : tl = 8 ∨ tl = 31) (g : LFc S tl I) (f : frT tl I I1) : LFc S tl I1 := by
  have h : ∀ a : Nat, a ≠ tl + 13 → a ≠ tl + 16 → a < tl + 22 → tl ≤ a → I1 a = I a := fun a h1 h2 h3 h4 => f.1 a h1 h2 (by omega) (by omega) (by omega) (by omega) (by omega)
  unfold LFc at *
  rw [h (tl + 4) (by omega) (by omega) (by omega) (by omega), h (tl + 5) (by omega) (by omega) (by omega) (by omega), h (tl + 18) (by omega) (by omega) (by omega) (by omega)]
  exact g
theorem s_add0 (hr : ringOK I) (K : ∀ I1 : Nat → Nat → Int32, (∀ a : Nat, a ≠ 53 → a ≠ 54 → I1 a = I a) → ringOK I1 → R I1 J) :
    WP ((d + 1), 22, 0, [some (.ref 53), some (.int a1), some (.int a2), some (.int a3), some (.int a4), none], [], (xSH L dr tl, I, J)) (fun v M => ∃ (I2 : Nat → Nat → Int32) (J2 : Nat → Nat → Int64), v = none ∧ M = (xSH L dr tl, I2, J2) ∧ R I2 J2) := by
  obtain ⟨⟨r0, r1⟩, r2, r3⟩ := id hr
  obtain ⟨o, ho⟩ : ∃ o : Nat, (I 53 1).toInt = o := ⟨(I 53 1).toInt.toNat, by omega⟩
  have f1 : (I 53 1 + I 53 2).toInt = o + (I 53 2).toInt := by rw [add_ti (by omega) (by omega), ho]
  have f2 := ring_ix (x := I 53 1 + I 53 2) (k := (I 53 2).toInt) (o := o) (by omega) f1 r2 r3
  generalize hx : I 53 1 + I 53 2 - (I 53 1 + I 53 2) / 400 * 400 = x at f2
  have e0 : (x * 4).toInt = (((o + (I 53 2).toInt.toNat) % 400 * 4 : Nat) : Int) := by
    have z : (x * 4).toInt = x.toInt * 4 := mul_ti (by rw [f2]; show _ ≤ (((o + (I 53 2).toInt.toNat) % 400 : Nat) : Int) * 4; omega) (by rw [f2]; show (((o + (I 53 2).toInt.toNat) % 400 : Nat) : Int) * 4 < _; omega)
    rw [z, f2]; omega
  have lit : ∀ (y n : Int32) (c : Int), n.toInt = c → 0 ≤ c → c ≤ 3 → 0 ≤ y.toInt → y.toInt ≤ 2000 → (y + n).toInt = y.toInt + c := fun y n c hc h0 h3 hy hy2 => by rw [add_ti (by omega) (by omega), hc]
  have e1 := lit (x * 4) 1 1 rfl (by omega) (by omega) (by omega) (by omega)
  have e2 := lit (x * 4) 2 2 rfl (by omega) (by omega) (by omega) (by omega)
  have e3 := lit (x * 4) 3 3 rfl (by omega) (by omega) (by omega) (by omega)
  rw [e0] at e1 e2 e3
  refine w22_0 ?_
  rw [hx]
  refine ⟨by rw [xin_iff, e0]; omega, by rw [xin_iff, e1]; omega, by rw [xin_iff, e2]; omega, by rw [xin_iff, e3]; omega, fun h => ⟨_, _, rfl, rfl, K _ (fun a h5 h6 => ?_) ?_⟩, fun h => ⟨_, _, rfl, rfl, K _ (fun a h5 h6 => ?_) ?_⟩⟩
  · rw [xwI_ne h5, xwI_ne h6, xwI_ne h6, xwI_ne h6, xwI_ne h6]
  · have h' : (I 53 2).toInt < 400 := by
      have z : I 53 2 < 400 := h
      rw [lt_ti] at z; exact z
    refine ⟨⟨?_, ?_⟩, ?_, ?_⟩
    · show 0 ≤ (I 53 1).toInt; exact r0
    · show (I 53 1).toInt < 400; exact r1
    · show 0 ≤ (I 53 2 + 1).toInt; rw [add1 (by omega) (by omega)]; omega
    · show (I 53 2 + 1).toInt ≤ 400; rw [add1 (by omega) (by omega)]; omega
  · rw [xwI_ne h5, xwI_ne h6, xwI_ne h6, xwI_ne h6, xwI_ne h6]
  · have r1' : (I 53 1 + 1 - (I 53 1 + 1) / 400 * 400).toInt = ((I 53 1).toInt + 1) % 400 := by
      have z : (I 53 1 + 1).toInt = (I 53 1).toInt + 1 := add1 (by omega) (by omega)
      rw [rem_ti (by omega) (by decide), z]; rfl
    refine ⟨⟨?_, ?_⟩, ?_, ?_⟩
    · show 0 ≤ (I 53 1 + 1 - (I 53 1 + 1) / 400 * 400).toInt; rw [r1']; omega
    · show (I 53 1 + 1 - (I 53 1 + 1) / 400 * 400).toInt < 400; rw [r1']; omega
    · show 0 ≤ (I 53 2).toInt; exact r2
    · show (I 53 2).toInt ≤ 400; exact r3
theorem c_set0 (hw : WF S) (ht : tl = 8 ∨ tl = 31) (hb : CIb S tl I) (hr : ringOK I) (hP : isP S a1.toInt a2.toInt)
    (K : ∀ I1 : Nat → Nat → Int32, (∀ a : Nat, a ≠ 53 → a ≠ 54 → a ≠ 55 → a ≠ 56 → a ≠ 57 → I1 a = I a) → ringOK I1 → (∀ j : Nat, j ≠ slot a1.toInt a2.toInt → I1 55 j = I 55 j ∧ I1 56 j = I 56 j ∧ I1 57 j = I 57 j) → I1 55 (slot a1.toInt a2.toInt) = a3 → I1 56 (slot a1.toInt a2.toInt) = a4 → I1 57 (slot a1.toInt a2.toInt) = I 30 9 → R I1 J) :
    WP ((d + 3), 150, 0, [some (.ref 30), some (.int a1), some (.int a2), some (.int a3), some (.int a4), none], [], (xSH L dr tl, I, J)) (fun v M => ∃ (I2 : Nat → Nat → Int32) (J2 : Nat → Nat → Int64), v = none ∧ M = (xSH L dr tl, I2, J2) ∧ R I2 J2) := by
  obtain ⟨s1, s2, s3⟩ := slot_c hw hP
  have fin : ∀ I1 : Nat → Nat → Int32, (∀ a : Nat, a ≠ 53 → a ≠ 54 → I1 a = I a) → ringOK I1 → R (xwI (xwI (xwI I1 55 (slot a1.toInt a2.toInt) a3) 56 (slot a1.toInt a2.toInt) a4) 57 (slot a1.toInt a2.toInt) ((xwI (xwI I1 55 (slot a1.toInt a2.toInt) a3) 56 (slot a1.toInt a2.toInt) a4) 30 9)) J := by
    intro I1 o1 r1
    refine K _ (fun a g1 g2 g3 g4 g5 => by rw [xwI_ne g5, xwI_ne g4, xwI_ne g3]; exact o1 a g1 g2) r1 (fun j hj => ⟨?_, ?_, ?_⟩) ?_ ?_ ?_
    · rw [xwI_ne (by decide), xwI_ne (by decide), xgn hj, o1 55 (by decide) (by decide)]
    · rw [xwI_ne (by decide), xgn hj, xwI_ne (by decide), o1 56 (by decide) (by decide)]
    · rw [xgn hj, xwI_ne (by decide), xwI_ne (by decide), o1 57 (by decide) (by decide)]
    · rw [xwI_ne (by decide), xwI_ne (by decide), xg]
    · rw [xwI_ne (by decide), xg]
    · rw [xg, xwI_ne (by decide), xwI_ne (by decide), o1 30 (by decide) (by decide)]
  refine w150_0 ht ((s_hasPlace hw ht hb).u (fun _ => br1 (s_slot.i ?_)) (fun z => absurd hP z))
  rw [s2]
  exact ⟨s3, fun h => ⟨s3, s3, s3, _, _, rfl, rfl, fin I (fun _ _ _ => rfl) hr⟩, fun h => ⟨s3, s_add0 hr fun I1 y1 r1 => ⟨s3, s3, s3, _, _, rfl, rfl, fin I1 y1 r1⟩⟩⟩
theorem s_eyes0 {R : Int32 → (Nat → Nat → Int32) → (Nat → Nat → Int64) → Prop} (hw : WF S) (hRW : RW S) (ht : tl = 8 ∨ tl = 31) (hb : CIb S tl I) (m1 : mill a1.toInt) (m2 : mill a2.toInt) (m3 : mill a3.toInt) (m4 : mill a4.toInt) (K : ∀ (x : Int32) (I1 : Nat → Nat → Int32), x.toInt = eyesV S a1.toInt a2.toInt a3.toInt a4.toInt → (∀ a : Nat, a ≠ tl + 13 → a ≠ tl + 16 → I1 a = I a) → I1 (tl + 13) 4 = I (tl + 13) 4 → R x I1 J) : WP ((d + 5), 96, 0, [some (.ref (tl + 13)), some (.int a1), some (.int a2), some (.int a3), some (.int a4), none], [], (xSH L dr tl, I, J)) (fun v M => ∃ (r1 : Int32) (I1 : Nat → Nat → Int32) (J1 : Nat → Nat → Int64), v = some (.int r1) ∧ M = (xSH L dr tl, I1, J1) ∧ R r1 I1 J1) := by
  have hN := hw.2.2.2.2.2.2.2.2.2.2.2.2
  have hb := hb.2.2.2.2.2
  have hr : tl + 13 = 21 ∨ tl + 13 = 44 := by omega
  refine w96_0 hr (eyes_loop (g := givS a2.toInt a1.toInt a3.toInt a4.toInt) hr hRW hN (giv_m m2 m1 m3 m4) (sNU S).toNat 0 0 _ (by omega) rfl ⟨?_, ?_, ?_⟩ ⟨?_, ?_, ?_, ?_⟩ fun x I1 e f => ⟨x, I1, J, rfl, rfl, K x I1 e (fun a h1 h2 => ?_) ?_⟩)
  · rw [xgn (by decide), xgn (by decide), xgn (by decide), xgn (by decide)]; exact hb.1
  · intro j hj; rw [xwI_ne (by omega), xwI_ne (by omega), xwI_ne (by omega), xwI_ne (by omega)]; exact hb.2.1 j hj
  · intro j hj; rw [xwI_ne (by omega), xwI_ne (by omega), xwI_ne (by omega), xwI_ne (by omega)]; exact hb.2.2 j hj
  · rw [xgn (by decide), xgn (by decide), xg]; rfl
  · rw [xgn (by decide), xgn (by decide), xgn (by decide), xg]; rfl
  · rw [xgn (by decide), xg]; rfl
  · rw [xg]; rfl
  · rw [f.1 a h1 (by omega), xwI_ne h1, xwI_ne h1, xwI_ne h1, xwI_ne h1]
  · rw [f.2 4 (by decide), xgn (by decide), xgn (by decide), xgn (by decide), xgn (by decide)]
/-- how far the world is written -/
def TW (S : aS) (tl l p : Nat) (I : Nat → Nat → Int32) : Prop := CIb S tl I ∧ LFc S tl I ∧ ringOK I ∧ (I 30 9).toInt = 0 ∧ ∀ l' p' : Int, isP S l' p' → (l' < l ∨ (l' = l ∧ p' < p)) → (I 55 (slot l' p')).toInt = S 15 (slot l' p') ∧ (I 56 (slot l' p')).toInt = S 16 (slot l' p') ∧ (I 57 (slot l' p')).toInt = 0
theorem c_pen0 {l p : Nat} (hw : WF S) (hRW : RW S) (nw : NW S) (ht : tl = 8 ∨ tl = 31) (tw : TW S tl l p I) (e1 : a1.toInt = l) (e2 : a2.toInt = p) (hP : isP S (l : Int) (p : Int)) (e3 : a3.toInt = S 15 (slot l p)) (e4 : a4.toInt = S 26 l) (K : ∀ I1 : Nat → Nat → Int32, frT tl I I1 → TW S tl l (p + 1) I1 → R I1 J) :
    WP ((d + 6), 149, 0, [some (.ref 30), some (.int a1), some (.int a2), some (.int a3), some (.int a4), none], [], (xSH L dr tl, I, J)) (fun v M => ∃ (I2 : Nat → Nat → Int32) (J2 : Nat → Nat → Int64), v = none ∧ M = (xSH L dr tl, I2, J2) ∧ R I2 J2) := by
  obtain ⟨t1, t2, t3, t4, t5⟩ := tw
  obtain ⟨n1, n2, n3, n4⟩ := nw l p hP
  rw [Int.toNat_natCast] at n3 n4
  have hB := isP_b hw hP
  have hi := hw.2.1.2.2 (S 26 l).toNat (by omega)
  refine w149_0 ht ((s_eyesOf hw ht t1).u fun r1 g1 => ?_)
  rw [e4, if_pos n3] at g1
  refine s_eyes0 hw hRW ht t1 ⟨by omega, by omega⟩ ⟨by omega, by omega⟩ ⟨by omega, by omega⟩ ⟨by omega, by omega⟩ fun r2 I1 g2 o1 p1 => ?_
  rw [e1, e2, e3, g1, ← n4] at g2
  have f1 : frT tl I I1 := ⟨fun a h1 h2 _ _ _ _ _ => o1 a h1 h2, p1⟩
  have hP' : isP S a1.toInt a2.toInt := by rw [e1, e2]; exact hP
  have rg : ringOK I1 := by unfold ringOK at *; rw [o1 53 (by omega) (by omega)]; exact t3
  refine c_set0 hw ht (t1.ft ht f1) rg hP' fun I2 o2 r2' q2 z55 z56 z57 => ⟨I2, J, rfl, rfl, K I2 ?_ ?_⟩
  · exact ⟨fun a h1 h2 h3 h4 h5 h6 h7 => by rw [o2 a h3 h4 h5 h6 h7, o1 a h1 h2], by rw [o2 (tl + 13) (by omega) (by omega) (by omega) (by omega) (by omega), p1]⟩
  · have F : frT tl I I2 := ⟨fun a h1 h2 h3 h4 h5 h6 h7 => by rw [o2 a h3 h4 h5 h6 h7, o1 a h1 h2], by rw [o2 (tl + 13) (by omega) (by omega) (by omega) (by omega) (by omega), p1]⟩
    rw [e1, e2] at z55 z56 z57 q2
    refine ⟨t1.ft ht F, t2.ft ht F, r2', by rw [o2 30 (by decide) (by decide) (by decide) (by decide) (by decide), o1 30 (by omega) (by omega)]; exact t4, fun l' p' h' hlt => ?_⟩
    by_cases e : slot l' p' = slot l p
    · rw [e, z55, z56, z57, o1 30 (by omega) (by omega)]
      exact ⟨e3, g2, t4⟩
    · obtain ⟨y1, y2, y3⟩ := q2 _ e
      rw [y1, y2, y3, o1 55 (by omega) (by omega), o1 56 (by omega) (by omega), o1 57 (by omega) (by omega)]
      refine t5 l' p' h' ?_
      rcases hlt with h | ⟨h1, h2⟩
      · exact Or.inl h
      · refine Or.inr ⟨h1, ?_⟩
        have : p' ≠ p := fun z => e (by rw [h1, z])
        omega
theorem s_leafLet {l p : Nat} (hw : WF S) (ht : tl = 8 ∨ tl = 31) (hb : CIb S tl I) (lf : LFc S tl I) (e1 : a1.toInt = l) (e2 : a2.toInt = p) (hP : isP S (l : Int) (p : Int)) : PI ((d + 1), 110, 0, [some (.ref (tl + 4)), some (.int a1), some (.int a2)], [], (xSH L dr tl, I, J)) (S 25 (64 * l + p)) (xSH L dr tl, I, J) := by
  have hB := isP_b hw hP
  have hL := hP.1.2
  rw [Int.toNat_natCast] at hB
  have h3 : (I (tl + 4) 3).toInt = sNL S := hb.1.2.1
  have h6 : (I (tl + 4 + 2) l).toInt = S 5 l := hb.2.2.1 l hL
  have hs : tl + 4 = 9 ∨ tl + 4 = 12 ∨ tl + 4 = 15 ∨ tl + 4 = 18 ∨ tl + 4 = 32 ∨ tl + 4 = 35 ∨ tl + 4 = 38 ∨ tl + 4 = 41 := by omega
  have c2 : clen (tl + 4 + 2) = 8 ∧ clen (tl + 4 + 1) = 512 := by rcases ht with rfl | rfl <;> exact ⟨rfl, rfl⟩
  have x1 : xIx a1 = l := by rw [xIx_ti, e1]; exact Int.toNat_natCast _
  have em : (a1 * I (tl + 4) 0).toInt = 64 * (l : Int) := by rw [mul_ti (by rw [lf.1, e1]; omega) (by rw [lf.1, e1]; omega), lf.1, e1]; omega
  have ea : (a1 * I (tl + 4) 0 + a2).toInt = ((64 * l + p : Nat) : Int) := by rw [add_ti (by rw [em]; omega) (by rw [em]; omega), em, e2]; omega
  have x2 : xIx (a1 * I (tl + 4) 0 + a2) = 64 * l + p := by rw [xIx_ti, ea]; exact Int.toNat_natCast _
  refine w110_0 hs (sk (fun z => by rw [lt0] at z; omega) (hit (lt_ti.mpr (by rw [h3, e1]; exact hL)) (sk (fun z => by rw [lt0] at z; omega) ⟨by rw [xin_iff, c2.1]; omega, hit (lt_ti.mpr (by rw [x1, h6]; omega)) ⟨by rw [xin_iff, ea, c2.2]; omega, _, rfl, ?_, rfl⟩⟩)))
  rw [x2]
  exact (lf.2 l hL).2 p (by omega)
theorem s_leafInk {l : Nat} (hw : WF S) (ht : tl = 8 ∨ tl = 31) (hb : CIb S tl I) (lf : LFc S tl I) (e1 : a1.toInt = l) (hL : (l : Int) < sNL S) : PI ((d + 2), 13, 0, [some (.ref tl), some (.int a1)], [], (xSH L dr tl, I, J)) (S 26 l) (xSH L dr tl, I, J) := by
  have h8 := hw.2.2.1.2.1
  have x1 : xIx a1 = l := by rw [xIx_ti, e1]; exact Int.toNat_natCast _
  refine w13_0 ht ((s_hasLeaf ht hb).u (fun y => br1 ⟨by rw [xin_iff]; omega, _, rfl, ?_, rfl⟩) (fun y => absurd ⟨by omega, by rw [e1]; exact hL⟩ y))
  rw [x1]; exact (lf.2 l hL).1
theorem c_tplaces {l : Nat} (hw : WF S) (hRW : RW S) (nw : NW S) (ht : tl = 8 ∨ tl = 31) (hL : (l : Int) < sNL S) (e1 : a2.toInt = l) (K : ∀ I1 : Nat → Nat → Int32, frT tl I0 I1 → TW S tl l (S 5 l).toNat I1 → WP ((d + 7), 132, 36, [some (.ref 30), none, some (.int (a2 + 1)), none], [], (xSH L dr tl, I1, J)) Q) : ∀ (m p : Nat) (a3 : Int32) (I : Nat → Nat → Int32), ((p + m : Nat) : Int) = S 5 l → a3.toInt = p → frT tl I0 I → TW S tl l p I → WP ((d + 7), 132, 52, [some (.ref 30), none, some (.int a2), some (.int a3)], [], (xSH L dr tl, I, J)) Q := by
  have hl : isL S a2.toInt := ⟨by omega, by rw [e1]; exact hL⟩
  have pe : plc S a2.toInt = S 5 l := by unfold plc; rw [if_pos hl, e1, Int.toNat_natCast]
  have h5 := hw.2.2.1.2.2 l hL
  intro m
  induction m with
  | zero =>
    intro p a3 I hp e3 f0 tw
    refine w132_52 ht ((s_placesOf hw ht tw.1).u fun r1 g1 => sk (fun z => by rw [lt_ti, g1, pe] at z; omega) (K I f0 ?_))
    rw [show (S 5 l).toNat = p by omega]; exact tw
  | succ m ih =>
    intro p a3 I hp e3 f0 tw
    have hP : isP S (l : Int) (p : Int) := ⟨⟨by omega, hL⟩, by omega, by rw [Int.toNat_natCast]; omega⟩
    have n1 := (nw l p hP).1
    rw [Int.toNat_natCast, Int.toNat_natCast] at n1
    refine w132_52 ht ((s_placesOf hw ht tw.1).u fun r1 g1 => hit (lt_ti.mpr (by rw [g1, pe]; omega)) ((s_leafLet hw ht tw.1 tw.2.1 e1 e3 hP).u fun r3 g3 => (s_leafInk hw ht tw.1 tw.2.1 e1 hL).u fun r4 g4 => c_pen0 hw hRW nw ht tw e1 e3 hP (by rw [g3, n1]) g4 fun I1 f1 tw1 => ih (p + 1) (a3 + 1) I1 (by omega) (by rw [add1 (by omega) (by omega), e3]; rfl) (f0.tr f1) tw1))
theorem c_tleaves (hw : WF S) (hRW : RW S) (nw : NW S) (ht : tl = 8 ∨ tl = 31) (K : ∀ I1 : Nat → Nat → Int32, frT tl I0 I1 → TW S tl (sNL S).toNat 0 I1 → Q none (xSH L dr tl, xwI (xwI I1 53 1 0) 53 2 0, J)) : ∀ (m l : Nat) (a2 : Int32) (I : Nat → Nat → Int32), ((l + m : Nat) : Int) = sNL S → a2.toInt = l → frT tl I0 I → TW S tl l 0 I → WP ((d + 7), 132, 36, [some (.ref 30), none, some (.int a2), none], [], (xSH L dr tl, I, J)) Q := by
  have h8 := hw.2.2.1.2.1
  have hs : tl + 4 = 9 ∨ tl + 4 = 12 ∨ tl + 4 = 15 ∨ tl + 4 = 18 ∨ tl + 4 = 32 ∨ tl + 4 = 35 ∨ tl + 4 = 38 ∨ tl + 4 = 41 := by omega
  intro m
  induction m with
  | zero =>
    intro l a2 I hl e2 f0 tw
    have h3 : (I (tl + 4) 3).toInt = sNL S := tw.1.1.2.1
    refine w132_36 ht (w104_0 hs ⟨_, I, J, rfl, rfl, sk (fun z => by rw [lt_ti, h3] at z; omega) (w20_0 ⟨_, J, rfl, rfl, K I f0 ?_⟩)⟩)
    rw [show (sNL S).toNat = l by omega]; exact tw
  | succ m ih =>
    intro l a2 I hl e2 f0 tw
    have h3 : (I (tl + 4) 3).toInt = sNL S := tw.1.1.2.1
    have h5 := hw.2.2.1.2.2 l (by omega)
    refine w132_36 ht (w104_0 hs ⟨_, I, J, rfl, rfl, hit (lt_ti.mpr (by rw [h3]; omega)) (c_tplaces (I0 := I0) hw hRW nw ht (by omega) e2 (fun I1 f1 tw1 => ih (l + 1) (a2 + 1) I1 (by omega) (by rw [add1 (by omega) (by omega), e2]; rfl) f1 ?_) (S 5 l).toNat 0 0 I (by omega) rfl f0 tw)⟩)
    obtain ⟨t1, t2, t3, t4, t5⟩ := tw1
    refine ⟨t1, t2, t3, t4, fun l' p' h' hlt => t5 l' p' h' ?_⟩
    have hb := isP_b hw h'
    by_cases e : l' = (l : Int)
    · refine Or.inr ⟨e, ?_⟩
      have := hb.2.2.2.2
      rw [e, Int.toNat_natCast] at this
      omega
    · refine Or.inl ?_
      rcases hlt with h | ⟨h1, h2⟩
      · omega
      · omega
theorem c_fill {k n : Nat} (hk : k = 58 ∨ k = 60 ∨ k = 61) (hn : clen k = n) (hn2 : n ≤ 512) (K : ∀ I1 : Nat → Nat → Int32, (∀ a : Nat, a ≠ k → I1 a = I a) → (∀ j : Nat, j < n → I1 k j = a1) → R I1 J) : WP ((d + 1), 322, 0, [some (.ref k), some (.int a1), none, none], [], (xSH L dr tl, I, J)) (fun v M => ∃ (I2 : Nat → Nat → Int32) (J2 : Nat → Nat → Int64), v = none ∧ M = (xSH L dr tl, I2, J2) ∧ R I2 J2) := by
  have en : (Int32.ofNat (clen k)).toInt = n := by
    rw [hn, Int32.toInt_ofNat']
    exact bm_id (by omega) (by omega)
  have loop : ∀ (m i : Nat) (a2 : Int32) (I1 : Nat → Nat → Int32), i + m = n → a2.toInt = i → (∀ a : Nat, a ≠ k → I1 a = I a) → (∀ j : Nat, j < i → I1 k j = a1) → WP ((d + 1), 322, 5, [some (.ref k), some (.int a1), some (.int a2), some (.int (Int32.ofNat (clen k)))], [], (xSH L dr tl, I1, J)) (fun v M => ∃ (I2 : Nat → Nat → Int32) (J2 : Nat → Nat → Int64), v = none ∧ M = (xSH L dr tl, I2, J2) ∧ R I2 J2) := by
    intro m
    induction m with
    | zero =>
      intro i a2 I1 hi e2 o1 q1
      exact v322_5 hk (sk (fun z => by rw [lt_ti, en] at z; omega) ⟨I1, J, rfl, rfl, K I1 o1 (fun j hj => q1 j (by omega))⟩)
    | succ m ih =>
      intro i a2 I1 hi e2 o1 q1
      have x2 : xIx a2 = i := by rw [xIx_ti, e2]; exact Int.toNat_natCast _
      refine v322_5 hk (hit (lt_ti.mpr (by rw [en]; omega)) ⟨by rw [xin_iff, hn]; omega, ?_⟩)
      rw [x2]
      refine ih (i + 1) (a2 + 1) _ (by omega) (by rw [add1 (by omega) (by omega), e2]; rfl) (fun a h => by rw [xwI_ne h]; exact o1 a h) (fun j hj => ?_)
      by_cases e : j = i
      · rw [e, xg]
      · rw [xgn e]; exact q1 j (by omega)
  exact v322_0 hk (loop n 0 0 I (by omega) rfl (fun _ _ => rfl) (fun j hj => absurd hj (Nat.not_lt_zero _)))
theorem c_tell (hw : WF S) (hRW : RW S) (nw : NW S) (ht : tl = 8 ∨ tl = 31) (hb : CIb S tl I) (lf : LFc S tl I) (hr : ringOK I)
    (K : ∀ I1 : Nat → Nat → Int32, (∀ a : Nat, a ≠ 30 → a ≠ tl + 13 → a ≠ tl + 16 → (a < 53 ∨ 61 < a ∨ a = 59) → I1 a = I a) → I1 (tl + 13) 4 = I (tl + 13) 4 → (I1 30 9).toInt = 0 → (I1 53 1).toInt = 0 → (I1 53 2).toInt = 0 → (∀ j : Nat, j < 512 → (I1 58 j).toInt = 0) → (∀ j : Nat, j < 4 → (I1 60 j).toInt = -1 ∧ (I1 61 j).toInt = 0) → (∀ l' p' : Int, isP S l' p' → (I1 55 (slot l' p')).toInt = S 15 (slot l' p') ∧ (I1 56 (slot l' p')).toInt = S 16 (slot l' p') ∧ (I1 57 (slot l' p')).toInt = 0) → CIb S tl I1 → R I1 J) :
    WP ((d + 7), 132, 5, [some (.ref 30), some (.ref tl), none, none], [], (xSH L dr tl, I, J)) (fun v M => ∃ (I2 : Nat → Nat → Int32) (J2 : Nat → Nat → Int64), v = none ∧ M = (xSH L dr tl, I2, J2) ∧ R I2 J2) := by
  refine w132_5 ht (c_fill (n := 512) (by decide) rfl (by decide) fun I1 o1 q1 => c_fill (n := 4) (by decide) rfl (by decide) fun I2 o2 q2 => c_fill (n := 4) (by decide) rfl (by decide) fun I3 o3 q3 => ?_)
  have oo : ∀ a : Nat, a ≠ 30 → a ≠ 58 → a ≠ 60 → a ≠ 61 → I3 a = I a := fun a h1 h2 h3 h4 => by rw [o3 a h4, o2 a h3, o1 a h2, xwI_ne h1]
  have hb3 : CIb S tl I3 := by
    unfold CIb at *
    rw [oo tl (by omega) (by omega) (by omega) (by omega), oo (tl + 1) (by omega) (by omega) (by omega) (by omega), oo (tl + 2) (by omega) (by omega) (by omega) (by omega), oo (tl + 3) (by omega) (by omega) (by omega) (by omega), oo (tl + 4) (by omega) (by omega) (by omega) (by omega), oo (tl + 6) (by omega) (by omega) (by omega) (by omega), oo (tl + 7) (by omega) (by omega) (by omega) (by omega), oo (tl + 8) (by omega) (by omega) (by omega) (by omega), oo (tl + 9) (by omega) (by omega) (by omega) (by omega), oo (tl + 10) (by omega) (by omega) (by omega) (by omega), oo (tl + 11) (by omega) (by omega) (by omega) (by omega), oo (tl + 12) (by omega) (by omega) (by omega) (by omega), oo (tl + 13) (by omega) (by omega) (by omega) (by omega), oo (tl + 14) (by omega) (by omega) (by omega) (by omega), oo (tl + 15) (by omega) (by omega) (by omega) (by omega), oo (tl + 17) (by omega) (by omega) (by omega) (by omega), oo (tl + 19) (by omega) (by omega) (by omega) (by omega), oo (tl + 20) (by omega) (by omega) (by omega) (by omega), oo (tl + 21) (by omega) (by omega) (by omega) (by omega)]
    exact hb
  have lf3 : LFc S tl I3 := by
    unfold LFc at *
    rw [oo (tl + 4) (by omega) (by omega) (by omega) (by omega), oo (tl + 5) (by omega) (by omega) (by omega) (by omega), oo (tl + 18) (by omega) (by omega) (by omega) (by omega)]
    exact lf
  have r3 : ringOK I3 := by unfold ringOK at *; rw [oo 53 (by omega) (by omega) (by omega) (by omega)]; exact hr
  have z3 : (I3 30 9).toInt = 0 := by rw [o3 30 (by decide), o2 30 (by decide), o1 30 (by decide), xg]; rfl
  have n8 := hw.2.2.1.1
  have tw0 : TW S tl 0 0 I3 := by
    refine ⟨hb3, lf3, r3, z3, fun l' p' h' hlt => ?_⟩
    exfalso
    have := h'.1.1
    have := h'.2.1
    omega
  refine c_tleaves (I0 := I3) hw hRW nw ht (fun I4 f4 tw => ⟨_, J, rfl, rfl, K _ (fun a h1 h2 h3 h4 => ?_) ?_ ?_ ?_ ?_ (fun j hj => ?_) (fun j hj => ⟨?_, ?_⟩) (fun l' p' h' => ?_) ?_⟩) (sNL S).toNat 0 0 I3 (by omega) rfl frT_refl tw0
  · rw [xwI_ne (by omega), xwI_ne (by omega), f4.1 a h2 h3 (by omega) (by omega) (by omega) (by omega) (by omega), oo a h1 (by omega) (by omega) (by omega)]
  · rw [xwI_ne (by omega), xwI_ne (by omega), f4.2, oo (tl + 13) (by omega) (by omega) (by omega) (by omega)]
  · rw [xwI_ne (by decide), xwI_ne (by decide)]; exact tw.2.2.2.1
  · rw [xgn (by decide), xg]; rfl
  · rw [xg]; rfl
  · rw [xwI_ne (by decide), xwI_ne (by decide), f4.1 58 (by omega) (by omega) (by decide) (by decide) (by decide) (by decide) (by decide), o3 58 (by decide), o2 58 (by decide), q1 j hj]; rfl
  · rw [xwI_ne (by decide), xwI_ne (by decide), f4.1 60 (by omega) (by omega) (by decide) (by decide) (by decide) (by decide) (by decide), o3 60 (by decide), q2 j hj]; rfl
  · rw [xwI_ne (by decide), xwI_ne (by decide), f4.1 61 (by omega) (by omega) (by decide) (by decide) (by decide) (by decide) (by decide), q3 j hj]; rfl
  · rw [xwI_ne (by decide), xwI_ne (by decide), xwI_ne (by decide), xwI_ne (by decide), xwI_ne (by decide), xwI_ne (by decide)]
    refine tw.2.2.2.2 l' p' h' (Or.inl ?_)
    have := h'.1.2
    omega
  · refine tw.1.ft ht ⟨fun a h1 h2 h3 _ _ _ _ => by rw [xwI_ne h3, xwI_ne h3], by rw [xwI_ne (by omega), xwI_ne (by omega)]⟩
end TELL
