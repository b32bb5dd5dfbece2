section NAME3
variable {S : aS} {L d dr tl : Nat} {I : Nat → Nat → Int32} {J : Nat → Nat → Int64} {a1 a2 a3 : Int32}
theorem m_letter (q : MInv S I J) : PI ((d + 2), 260, 0, [some (.ref 71), some (.int a1), some (.int a2), some (.int a3), none, none, none, none, none], [], (xSH L dr tl, I, J)) (ansLetter S a1.toInt a2.toInt a3.toInt) (xSH L dr tl, I, J) := by
  have hm := q.mb
  have hw := q.1
  have hb := hm.2.1
  have hN := q.2.2.1
  have w2 := hw.2.1
  have w4 := hw.2.2.2.1
  have w5 := hw.2.2.2.2.1
  have e3 : xIx (5 + 3) = 8 := by decide
  have n8 : (I 93 8 - 1).toInt = sNW S - 1 := by rw [sub1 (by rw [hb.1.2.2.2.1]; omega), hb.1.2.2.2.1]
  have n5 : (I 93 5 - 1).toInt = sNI S - 1 := by rw [sub1 (by rw [hb.1.1]; omega), hb.1.1]
  have n6 : (I 93 6 - 1).toInt = sNR S - 1 := by rw [sub1 (by rw [hb.1.2.2.1]; omega), hb.1.2.2.1]
  refine w260_0 (m_isIn.u (fun g => br1 (m_isIn.u (fun g3 => br1 ?_) (fun g3 => br0 ⟨-1, rfl, ?_, rfl⟩))) (fun g => br0 ⟨-1, rfl, ?_, rfl⟩))
  · rw [t64] at g g3
    have g' : (0 : Int) ≤ a1.toInt ∧ a1.toInt ≤ 2 := g
    have k' : (0 : Int) ≤ a3.toInt ∧ a3.toInt ≤ 11 := g3
    have kk : 0 ≤ a3.toInt ∧ a3.toInt < 12 := by omega
    refine ⟨fun e => ⟨by decide, ?_⟩, fun e => ?_⟩
    · rw [e3]
      have ew : ansLetter S a1.toInt a2.toInt a3.toInt = spl (sNW S) (S 11) (S 12) 12 a2.toInt a3.toInt := by
        rw [ansLetter, if_pos kk, eq2.mp e]; rfl
      rw [ew]
      refine m_isIn.u (fun y => br1 ⟨fun _ => ?_, fun z => absurd e z⟩) (fun y => br0 ⟨-1, rfl, ?_, rfl⟩)
      · rw [t64, t64, n8] at y
        have y' : (0 : Int) ≤ a2.toInt ∧ a2.toInt ≤ sNW S - 1 := y
        obtain ⟨z1, z2⟩ := hb.2.2.2.2.1 a2.toInt.toNat (by omega)
        have zl := (w5.2.2 a2.toInt.toNat (by omega)).2.1
        have x1 : (16 + a2).toInt = 16 + a2.toInt := add_ti (by show _ ≤ 16 + a2.toInt; omega) (by show 16 + a2.toInt < _; omega)
        have x2 : (12 * a2).toInt = 12 * a2.toInt := mul_ti (by show _ ≤ 12 * a2.toInt; omega) (by show 12 * a2.toInt < _; omega)
        have x3 : (192 + 12 * a2).toInt = 192 + 12 * a2.toInt := by
          have z : (192 + 12 * a2).toInt = 192 + (12 * a2).toInt := add_ti (by show _ ≤ 192 + (12 * a2).toInt; omega) (by show 192 + (12 * a2).toInt < _; omega)
          rw [z, x2]
        have x4 : (192 + 12 * a2 + a3).toInt = 192 + 12 * a2.toInt + a3.toInt := by rw [add_ti (by omega) (by omega), x3]
        have i1 : xIx (16 + a2) = 16 + a2.toInt.toNat := by rw [xIx_ti, x1]; omega
        have i2 : xIx (192 + 12 * a2 + a3) = 192 + 12 * a2.toInt.toNat + a3.toInt.toNat := by rw [xIx_ti, x4]; omega
        rw [i1, i2]
        refine ⟨by rw [xin_iff, x1]; omega, brz lt_ti (fun r => ⟨by rw [xin_iff, x4]; omega, _, rfl, ?_, rfl⟩) (fun r => ⟨0, rfl, ?_, rfl⟩)⟩
        · rw [z1] at r
          rw [z2 _ (by omega), spl, if_pos ⟨by omega, by omega⟩, if_pos r]
        · rw [z1] at r
          rw [spl, if_pos ⟨by omega, by omega⟩, if_neg r]; rfl
      · rw [t64, t64, n8] at y
        have y' : ¬ ((0 : Int) ≤ a2.toInt ∧ a2.toInt ≤ sNW S - 1) := y
        rw [spl, if_neg (by omega)]; rfl
    · have e' : ¬ a1.toInt = 2 := fun z => e (eq2.mpr z)
      rcases (show a1 = 0 ∨ a1 = 1 from (show a1.toInt = 0 ∨ a1.toInt = 1 by omega).imp eq0.mpr eq1.mpr) with rfl | rfl
      · have ew : ansLetter S (0 : Int32).toInt a2.toInt a3.toInt = spl (sNI S) (S 3) (S 4) 6 a2.toInt a3.toInt := by
          rw [ansLetter, if_pos kk]; rfl
        rw [ew, show xIx (5 + 0) = 5 by decide, show ((10 : Int32) + 6 * 0) = 10 by decide]
        refine ⟨by decide, m_isIn.u (fun y => br1 ⟨fun z => absurd z e, fun _ => ?_⟩) (fun y => br0 ⟨-1, rfl, ?_, rfl⟩)⟩
        · rw [t64, t64, n5] at y
          have y' : (0 : Int) ≤ a2.toInt ∧ a2.toInt ≤ sNI S - 1 := y
          have x1 : (10 + a2).toInt = 10 + a2.toInt := add_ti (by show _ ≤ 10 + a2.toInt; omega) (by show 10 + a2.toInt < _; omega)
          have i1 : xIx (10 + a2) = 10 + a2.toInt.toNat := by rw [xIx_ti, x1]; omega
          rw [i1]
          have z1 := hN.1 a2.toInt.toNat (by omega)
          obtain ⟨-, -, u1, u2, u3⟩ := w2.2.2 a2.toInt.toNat (by omega)
          refine ⟨by rw [xin_iff, x1]; omega, ?_⟩
          have ee : spl (sNI S) (S 3) (S 4) 6 a2.toInt a3.toInt = if a3.toInt < (((S 3 a2.toInt.toNat).toNat : Nat) : Int) then (fun k => S 4 (6 * a2.toInt.toNat + k)) a3.toInt.toNat else 0 := by
            rw [spl, if_pos ⟨by omega, by omega⟩, Int.toNat_of_nonneg (by omega)]
          rw [ee]
          exact name_up (by omega) (fun k hk => u3 k (by omega)) kk.1 z1 _ _ 0 (Nat.le_refl _) z1 (by show (0 : Int) = _; omega)
        · rw [t64, t64, n5] at y
          have y' : ¬ ((0 : Int) ≤ a2.toInt ∧ a2.toInt ≤ sNI S - 1) := y
          rw [spl, if_neg (by omega)]; rfl
      · have ew : ansLetter S (1 : Int32).toInt a2.toInt a3.toInt = spl (sNR S) (S 9) (S 10) 6 a2.toInt a3.toInt := by
          rw [ansLetter, if_pos kk]; rfl
        rw [ew, show xIx (5 + 1) = 6 by decide, show ((10 : Int32) + 6 * 1) = 16 by decide]
        refine ⟨by decide, m_isIn.u (fun y => br1 ⟨fun z => absurd z e, fun _ => ?_⟩) (fun y => br0 ⟨-1, rfl, ?_, rfl⟩)⟩
        · rw [t64, t64, n6] at y
          have y' : (0 : Int) ≤ a2.toInt ∧ a2.toInt ≤ sNR S - 1 := y
          have x1 : (16 + a2).toInt = 16 + a2.toInt := add_ti (by show _ ≤ 16 + a2.toInt; omega) (by show 16 + a2.toInt < _; omega)
          have i1 : xIx (16 + a2) = 16 + a2.toInt.toNat := by rw [xIx_ti, x1]; omega
          rw [i1]
          have z1 := hN.2 a2.toInt.toNat (by omega)
          obtain ⟨-, -, -, -, -, -, -, u1, u2, u3⟩ := w4.2.2 a2.toInt.toNat (by omega)
          refine ⟨by rw [xin_iff, x1]; omega, ?_⟩
          have ee : spl (sNR S) (S 9) (S 10) 6 a2.toInt a3.toInt = if a3.toInt < (((S 9 a2.toInt.toNat).toNat : Nat) : Int) then (fun k => S 10 (6 * a2.toInt.toNat + k)) a3.toInt.toNat else 0 := by
            rw [spl, if_pos ⟨by omega, by omega⟩, Int.toNat_of_nonneg (by omega)]
          rw [ee]
          exact name_up (by omega) (fun k hk => u3 k (by omega)) kk.1 z1 _ _ 0 (Nat.le_refl _) z1 (by show (0 : Int) = _; omega)
        · rw [t64, t64, n6] at y
          have y' : ¬ ((0 : Int) ≤ a2.toInt ∧ a2.toInt ≤ sNR S - 1) := y
          rw [spl, if_neg (by omega)]; rfl
  · rw [t64] at g3
    have k' : ¬ ((0 : Int) ≤ a3.toInt ∧ a3.toInt ≤ 11) := g3
    rw [ansLetter, if_neg (by omega)]; rfl
  · rw [t64] at g
    have k' : ¬ ((0 : Int) ≤ a1.toInt ∧ a1.toInt ≤ 2) := g
    unfold ansLetter
    split
    · rw [if_neg (by omega), if_neg (by omega), if_neg (by omega)]; rfl
    · rfl
theorem call_letter : Call L (d + 6) 165 260 [.int a1, .int a2, .int a3] [.int a1, .int a2, .int a3] S := Call.ro (fun _ _ _ _ h => c_letter h) (fun _ _ _ _ h => m_letter h)
end NAME3
