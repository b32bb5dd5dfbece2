/-! ===== a letter is set: class and reference ===== -/
section SETL
variable {S : aS} {L d dr tl : Nat} {I : Nat → Nat → Int32} {J : Nat → Nat → Int64} {a1 a2 a3 a4 : Int32} {x old : Int}
/-- the class's part when only the row of changes moves -/
theorem CInv.chA {l p : Int} {I1 : Nat → Nat → Int32} (q : CInv S dr tl I J) (hP : isP S l p) (hx : x = 64 * l + p) (ho : 0 ≤ old ∧ old ≤ 26) (e : ∀ a : Nat, a ≠ 53 → a ≠ 54 → I1 a = I a) (hc : CIc (chAdd S x old) I1) : CInv (chAdd S x old) dr tl I1 J := by
  obtain ⟨h0, h1, h2, h3, h4, h5, h6, h7, h8, h9, h10, h11⟩ := q
  refine ⟨h0.chA hP hx ho, h1, h2, ?_, ?_, ?_, hc, ?_, ?_, ?_, h10, ?_⟩
  · unfold CIo at *
    rw [e (8 + 1) (by decide) (by decide), e (8 + 4) (by decide) (by decide), e (8 + 7) (by decide) (by decide), e (8 + 10) (by decide) (by decide), e (31 + 1) (by decide) (by decide), e (31 + 4) (by decide) (by decide), e (31 + 7) (by decide) (by decide), e (31 + 10) (by decide) (by decide), e 23 (by decide) (by decide), e 46 (by decide) (by decide)]
    exact h3
  · have g : CIb S tl I1 := by
      unfold CIb at *
      rw [e tl (by omega) (by omega), e (tl + 1) (by omega) (by omega), e (tl + 2) (by omega) (by omega), e (tl + 3) (by omega) (by omega), e (tl + 4) (by omega) (by omega), e (tl + 6) (by omega) (by omega), e (tl + 7) (by omega) (by omega), e (tl + 8) (by omega) (by omega), e (tl + 9) (by omega) (by omega), e (tl + 10) (by omega) (by omega), e (tl + 11) (by omega) (by omega), e (tl + 12) (by omega) (by omega), e (tl + 13) (by omega) (by omega), e (tl + 14) (by omega) (by omega), e (tl + 15) (by omega) (by omega), e (tl + 17) (by omega) (by omega), e (tl + 19) (by omega) (by omega), e (tl + 20) (by omega) (by omega), e (tl + 21) (by omega) (by omega)]
      exact h4
    exact g
  · have g : CIw S I1 := by unfold CIw at *; rw [e 30 (by decide) (by decide), e 55 (by decide) (by decide), e 56 (by decide) (by decide), e 57 (by decide) (by decide), e 58 (by decide) (by decide), e 60 (by decide) (by decide), e 61 (by decide) (by decide)]; exact h5
    exact g
  · have g : CIt S I1 := by unfold CIt at *; rw [e 3 (by decide) (by decide), e 4 (by decide) (by decide)]; exact h7
    exact g
  · have g : CIp S I1 := by unfold CIp at *; rw [e 5 (by decide) (by decide), e 6 (by decide) (by decide)]; exact h8
    exact g
  · have g : CIf S I1 := by unfold CIf at *; rw [e 7 (by decide) (by decide)]; exact h9
    exact g
  · unfold HC at *; rw [e 64 (by decide) (by decide), e 66 (by decide) (by decide), e 62 (by decide) (by decide)]; exact h11
theorem s_add {R : (Nat → Nat → Int32) → (Nat → Nat → Int64) → Prop} (q : CInv S dr tl I J) (hP : isP S a2.toInt a3.toInt) (h1 : a1.toInt = sHr S) (h4 : 0 ≤ a4.toInt ∧ a4.toInt ≤ 26)
    (K : ∀ I1 : Nat → Nat → Int32, keepM I I1 J J → (∀ a : Nat, a ≠ 53 → a ≠ 54 → I1 a = I a) → CInv (chAdd S (64 * a2.toInt + a3.toInt) a4.toInt) dr tl I1 J → R I1 J) :
    WP ((d + 1), 22, 0, [some (.ref 53), some (.int a1), some (.int a2), some (.int a3), some (.int a4), none], [], (xSH L dr tl, I, J)) (fun v M => ∃ (I2 : Nat → Nat → Int32) (J2 : Nat → Nat → Int64), v = none ∧ M = (xSH L dr tl, I2, J2) ∧ R I2 J2) := by
  have hw := q.1
  have hn := hw.2.2.2.2.2.2.2.2.2.1
  have hcc := q.2.2.2.2.2.2.1
  obtain ⟨c1, o, c2, c3, c4⟩ := id hcc
  have hB := isP_b hw hP
  have f1 : (I 53 1 + I 53 2).toInt = o + sNC S := by rw [add_ti (by omega) (by omega), c3, c1]
  have f2 := ring_ix (x := I 53 1 + I 53 2) (k := sNC S) c2 f1 hn.1 (by omega)
  have e0 : ((I 53 1 + I 53 2 - (I 53 1 + I 53 2) / 400 * 400) * 4).toInt = (((o + (sNC S).toNat) % 400 * 4 : Nat) : Int) := by
    have z : ((I 53 1 + I 53 2 - (I 53 1 + I 53 2) / 400 * 400) * 4).toInt = (I 53 1 + I 53 2 - (I 53 1 + I 53 2) / 400 * 400).toInt * 4 := mul_ti (by rw [f2]; show _ ≤ (((o + (sNC S).toNat) % 400 : Nat) : Int) * 4; omega) (by rw [f2]; show (((o + (sNC S).toNat) % 400 : Nat) : Int) * 4 < _; omega)
    rw [z, f2]; omega
  have lit : ∀ (y n : Int32) (c : Int), n.toInt = c → 0 ≤ c → c ≤ 3 → 0 ≤ y.toInt → y.toInt ≤ 2000 → (y + n).toInt = y.toInt + c := fun y n c hc h0 h3 hy hy2 => by rw [add_ti (by omega) (by omega), hc]
  have e1 := lit ((I 53 1 + I 53 2 - (I 53 1 + I 53 2) / 400 * 400) * 4) 1 1 rfl (by omega) (by omega) (by omega) (by omega)
  have e2 := lit ((I 53 1 + I 53 2 - (I 53 1 + I 53 2) / 400 * 400) * 4) 2 2 rfl (by omega) (by omega) (by omega) (by omega)
  have e3 := lit ((I 53 1 + I 53 2 - (I 53 1 + I 53 2) / 400 * 400) * 4) 3 3 rfl (by omega) (by omega) (by omega) (by omega)
  rw [e0] at e1 e2 e3
  have x0 : xIx ((I 53 1 + I 53 2 - (I 53 1 + I 53 2) / 400 * 400) * 4) = (o + (sNC S).toNat) % 400 * 4 := by rw [xIx_ti, e0]; omega
  have x1 : xIx ((I 53 1 + I 53 2 - (I 53 1 + I 53 2) / 400 * 400) * 4 + 1) = (o + (sNC S).toNat) % 400 * 4 + 1 := by rw [xIx_ti, e1]; omega
  have x2 : xIx ((I 53 1 + I 53 2 - (I 53 1 + I 53 2) / 400 * 400) * 4 + 2) = (o + (sNC S).toNat) % 400 * 4 + 2 := by rw [xIx_ti, e2]; omega
  have x3 : xIx ((I 53 1 + I 53 2 - (I 53 1 + I 53 2) / 400 * 400) * 4 + 3) = (o + (sNC S).toNat) % 400 * 4 + 3 := by rw [xIx_ti, e3]; omega
  have hb : ((o + (sNC S).toNat : Nat) : Int) = (I 53 1).toInt + (I 53 2).toInt := by rw [c3, c1]; omega
  refine w22_0 ?_
  rw [x0, x1, x2, x3]
  refine ⟨by rw [xin_iff, e0]; omega, by rw [xin_iff, e1]; omega, by rw [xin_iff, e2]; omega, by rw [xin_iff, e3]; omega, fun h => ⟨_, _, rfl, rfl, ?_⟩, fun h => ⟨_, _, rfl, rfl, ?_⟩⟩
  · have h' : sNC S < 400 := by
      have z : I 53 2 < 400 := h
      rw [lt_ti, c1] at z; exact z
    have oth : ∀ a : Nat, a ≠ 53 → a ≠ 54 → (xwI (row4 I ((o + (sNC S).toNat) % 400 * 4) a1 a2 a3 a4) 53 2 (I 53 2 + 1)) a = I a := fun a h5 h6 => by rw [xwI_ne h5, row4_c h6]
    refine K _ (fun a ha => ⟨oth a (by omega) (by omega), rfl⟩) oth (q.chA hP rfl h4 oth (CIc.chA (a1 := a1) (a2 := a2) (a3 := a3) (a4 := a4) hw hcc hb h1 ⟨hB.2.2.1, hB.2.2.2.1⟩ rfl rfl (xwI_ne (by decide)) ⟨fun _ => ⟨rfl, rfl⟩, fun z => absurd h' z⟩))
  · have h' : ¬ sNC S < 400 := fun z => h (by
      show I 53 2 < 400
      rw [lt_ti, c1]; exact z)
    have oth : ∀ a : Nat, a ≠ 53 → a ≠ 54 → (xwI (row4 I ((o + (sNC S).toNat) % 400 * 4) a1 a2 a3 a4) 53 1 (I 53 1 + 1 - (I 53 1 + 1) / 400 * 400)) a = I a := fun a h5 h6 => by rw [xwI_ne h5, row4_c h6]
    have r1 : (I 53 1 + 1 - (I 53 1 + 1) / 400 * 400).toInt = ((I 53 1).toInt + 1) % 400 := by
      have z : (I 53 1 + 1).toInt = (I 53 1).toInt + 1 := add1 (by omega) (by omega)
      rw [rem_ti (by omega) (by decide), z]; rfl
    refine K _ (fun a ha => ⟨oth a (by omega) (by omega), rfl⟩) oth (q.chA hP rfl h4 oth (CIc.chA (a1 := a1) (a2 := a2) (a3 := a3) (a4 := a4) hw hcc hb h1 ⟨hB.2.2.1, hB.2.2.2.1⟩ rfl rfl (xwI_ne (by decide)) ⟨fun z => absurd z h', fun _ => ⟨rfl, r1⟩⟩))
end SETL
