/-! ===== letter: the names ===== -/
/-- a letter of a row of names: how many, lengths, letters, width -/
def spl (n : Int) (len let_ : Nat → Int) (w : Nat) (i k : Int) : Int := if 0 ≤ i ∧ i < n then (if k < len i.toNat then let_ (w * i.toNat + k.toNat) else 0) else -1
def ansLetter (S : aS) (w i k : Int) : Int := if 0 ≤ k ∧ k < 12 then (if w = 0 then spl (sNI S) (S 3) (S 4) 6 i k else if w = 1 then spl (sNR S) (S 9) (S 10) 6 i k else if w = 2 then spl (sNW S) (S 11) (S 12) 12 i k else -1) else -1
section NAME
variable {S : aS} {L d dr tl : Nat} {I : Nat → Nat → Int32} {J : Nat → Nat → Int64} {a1 a2 a3 a4 : Int32}
theorem s_spell {s w : Nat} {n : Int} {len let_ : Nat → Int} (hs : s = 9 ∨ s = 12 ∨ s = 15 ∨ s = 18 ∨ s = 32 ∨ s = 35 ∨ s = 38 ∨ s = 41) (hn : (I s 3).toInt = n) (hw : (I s 0).toInt = w) (h16 : n ≤ 16) (hw2 : w ≤ 12) (hl : ∀ i : Nat, (i : Int) < n → (I (s + 2) i).toInt = len i ∧ len i ≤ w ∧ ∀ k : Nat, (k : Int) < len i → (I (s + 1) (w * i + k)).toInt = let_ (w * i + k)) (c2 : n ≤ clen (s + 2)) (c1 : n * w ≤ clen (s + 1)) (hk : 0 ≤ a2.toInt ∧ a2.toInt < 12) :
    PI ((d + 1), 110, 0, [some (.ref s), some (.int a1), some (.int a2)], [], (xSH L dr tl, I, J)) (spl n len let_ w a1.toInt a2.toInt) (xSH L dr tl, I, J) := by
  refine w110_0 hs (brz lt0 (fun h => ⟨-1, rfl, ?_, rfl⟩) (fun h => brz lt_ti (fun g => brz lt0 (fun z => by omega) (fun z => ⟨?_, brz lt_ti (fun y => ?_) (fun y => ⟨0, rfl, ?_, rfl⟩)⟩)) (fun g => ⟨-1, rfl, ?_, rfl⟩)))
  · rw [spl, if_neg (by omega)]; rfl
  · rw [hn] at g; rw [xin_iff]; omega
  · rw [hn] at g
    obtain ⟨y1, y2, y3⟩ := hl a1.toInt.toNat (by omega)
    rw [xIx_ti, y1] at y
    have e1 : (a1 * I s 0).toInt = a1.toInt * w := by
      have b1 : a1.toInt * (w : Int) ≤ 16 * 12 := Int.mul_le_mul (by omega) (by omega) (by omega) (by omega)
      have b0 : 0 ≤ a1.toInt * (w : Int) := Int.mul_nonneg (by omega) (by omega)
      rw [mul_ti (by rw [hw]; omega) (by rw [hw]; omega), hw]
    have b1 : a1.toInt * (w : Int) ≤ 16 * 12 := Int.mul_le_mul (by omega) (by omega) (by omega) (by omega)
    have b0 : 0 ≤ a1.toInt * (w : Int) := Int.mul_nonneg (by omega) (by omega)
    have e2 : (a1 * I s 0 + a2).toInt = a1.toInt * w + a2.toInt := by rw [add_ti (by rw [e1]; omega) (by rw [e1]; omega), e1]
    have b3 : (a1.toInt + 1) * (w : Int) ≤ n * w := Int.mul_le_mul_of_nonneg_right (by omega) (by omega)
    have b4 : (a1.toInt + 1) * (w : Int) = a1.toInt * w + w := by rw [Int.add_mul, Int.one_mul]
    have e3 : xIx (a1 * I s 0 + a2) = w * a1.toInt.toNat + a2.toInt.toNat := by
      have z1 : ((w * a1.toInt.toNat : Nat) : Int) = a1.toInt * w := by rw [Int.natCast_mul, Int.toNat_of_nonneg (by omega), Int.mul_comm]
      rw [xIx_ti, e2]; omega
    refine ⟨by rw [xin_iff, e2]; omega, _, rfl, ?_, rfl⟩
    rw [e3, y3 _ (by omega), spl, if_pos ⟨by omega, g⟩, if_pos y]
  · rw [hn] at g
    obtain ⟨y1, y2, y3⟩ := hl a1.toInt.toNat (by omega)
    rw [xIx_ti, y1] at y
    rw [spl, if_pos ⟨by omega, g⟩, if_neg y]; rfl
  · rw [hn] at g
    rw [spl, if_neg (by omega)]; rfl
theorem lt12 {a : Int32} : a < 12 ↔ a.toInt < 12 := lt_ti
theorem c_letter (q : CInv S dr tl I J) : PI ((d + 3), 165, 0, [some (.ref 2), some (.int a1), some (.int a2), some (.int a3)], [], (xSH L dr tl, I, J)) (ansLetter S a1.toInt a2.toInt a3.toInt) (xSH L dr tl, I, J) := by
  have hc := q.cb
  have hw := hc.1
  have hb := hc.2.2.1
  have co : CIo tl I := by rcases hc.2.1 with rfl | rfl; exact q.2.2.2.1.1; exact q.2.2.2.1.2.1
  have c2 : clen (tl + 1 + 2) = 6 ∧ clen (tl + 1 + 1) = 36 ∧ clen (tl + 7 + 2) = 4 ∧ clen (tl + 7 + 1) = 24 ∧ clen (tl + 10 + 2) = 16 ∧ clen (tl + 10 + 1) = 192 := by rcases hc.2.1 with rfl | rfl <;> exact ⟨rfl, rfl, rfl, rfl, rfl, rfl⟩
  have w2 := hw.2.1
  have w4 := hw.2.2.2.1
  have w5 := hw.2.2.2.2.1
  refine w165_0 hc.2.1 (brz lt0 (fun h => ⟨-1, rfl, ?_, rfl⟩) (fun h => brz lt12 (fun h1 => brz eq0 (fun g => (s_told hc.2.1).v ((s_spell (w := 6) (n := sNI S) (len := S 3) (let_ := S 4) (sp1 hc.2.1) hb.1.1 co.1 (by omega) (by decide) (fun i hi => ?_) (by omega) (by omega) ⟨by omega, h1⟩).u fun r e => ⟨r, rfl, ?_, rfl⟩)) (fun g0 => brz eq1 (fun g => (s_told hc.2.1).v ((s_spell (w := 6) (n := sNR S) (len := S 9) (let_ := S 10) (sp7 hc.2.1) hb.1.2.2.1 co.2.2.1 (by omega) (by decide) (fun i hi => ?_) (by omega) (by omega) ⟨by omega, h1⟩).u fun r e => ⟨r, rfl, ?_, rfl⟩)) (fun g1 => brz eq2 (fun g => (s_told hc.2.1).v ((s_spell (w := 12) (n := sNW S) (len := S 11) (let_ := S 12) (sp10 hc.2.1) hb.1.2.2.2.1 co.2.2.2 (by omega) (by decide) (fun i hi => ?_) (by omega) (by omega) ⟨by omega, h1⟩).u fun r e => ⟨r, rfl, ?_, rfl⟩)) (fun g2 => ⟨-1, rfl, ?_, rfl⟩)))) (fun h1 => ⟨-1, rfl, ?_, rfl⟩)))
  · rw [ansLetter, if_neg (by omega)]; rfl
  · exact ⟨(hb.2.1 i hi).2.1, (w2.2.2 i hi).2.2.2.1, (hb.2.1 i hi).2.2⟩
  · rw [e, ansLetter, if_pos ⟨by omega, h1⟩, if_pos g]
  · exact ⟨(hb.2.2.2.1 i hi).2.2.2.1, (w4.2.2 i hi).2.2.2.2.2.2.2.2.1, (hb.2.2.2.1 i hi).2.2.2.2⟩
  · rw [e, ansLetter, if_pos ⟨by omega, h1⟩, if_neg g0, if_pos g]
  · exact ⟨(hb.2.2.2.2.1 i hi).1, (w5.2.2 i hi).2.1, (hb.2.2.2.2.1 i hi).2⟩
  · rw [e, ansLetter, if_pos ⟨by omega, h1⟩, if_neg g0, if_neg g1, if_pos g]
  · rw [ansLetter, if_pos ⟨by omega, h1⟩, if_neg g0, if_neg g1, if_neg g2]; rfl
  · rw [ansLetter, if_neg (by omega)]; rfl
end NAME
