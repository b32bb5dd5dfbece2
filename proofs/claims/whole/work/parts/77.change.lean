/-! ===== a letter changes: the row of changes ===== -/
/-- a change more; the oldest of 400 goes -/
def chAdd (S : aS) (x old : Int) : aS := fun f k =>
  if f = 21 ∨ f = 22 ∨ f = 23 then
    (if sNC S < 400 then (if (k : Int) = sNC S then (if f = 21 then sHr S else if f = 22 then x else old) else S f k)
     else (if k = 399 then (if f = 21 then sHr S else if f = 22 then x else old) else S f (k + 1)))
  else if f = 0 ∧ k = 9 then (if sNC S < 400 then sNC S + 1 else 400) else S f k
section CHANGE
variable {S : aS} {L d dr tl : Nat} {I : Nat → Nat → Int32} {J : Nat → Nat → Int64} {a1 a2 a3 a4 : Int32} {x old : Int} {f k : Nat}
theorem chA_n : sNC (chAdd S x old) = if sNC S < 400 then sNC S + 1 else 400 := rfl
theorem chA_l (hf : f = 21 ∨ f = 22 ∨ f = 23) (h : sNC S < 400) (e : (k : Int) = sNC S) : chAdd S x old f k = if f = 21 then sHr S else if f = 22 then x else old := by
  unfold chAdd; rw [if_pos hf, if_pos h, if_pos e]
theorem chA_o (hf : f = 21 ∨ f = 22 ∨ f = 23) (h : sNC S < 400) (e : (k : Int) ≠ sNC S) : chAdd S x old f k = S f k := by
  unfold chAdd; rw [if_pos hf, if_pos h, if_neg e]
theorem chA_fl (hf : f = 21 ∨ f = 22 ∨ f = 23) (h : ¬ sNC S < 400) (e : k = 399) : chAdd S x old f k = if f = 21 then sHr S else if f = 22 then x else old := by
  unfold chAdd; rw [if_pos hf, if_neg h, if_pos e]
theorem chA_fo (hf : f = 21 ∨ f = 22 ∨ f = 23) (h : ¬ sNC S < 400) (e : k ≠ 399) : chAdd S x old f k = S f (k + 1) := by
  unfold chAdd; rw [if_pos hf, if_neg h, if_neg e]
theorem i21 : (21 = 21 ∨ 21 = 22 ∨ 21 = 23) := Or.inl rfl
theorem i22 : (22 = 21 ∨ 22 = 22 ∨ 22 = 23) := Or.inr (Or.inl rfl)
theorem i23 : (23 = 21 ∨ 23 = 22 ∨ 23 = 23) := Or.inr (Or.inr rfl)
theorem WF.chA {l p : Int} (h : WF S) (hP : isP S l p) (hx : x = 64 * l + p) (ho : 0 ≤ old ∧ old ≤ 26) : WF (chAdd S x old) := by
  obtain ⟨g1, g2, g3, g4, g5, g6, g7, g8, g9, g10, g11, g12, g13⟩ := h
  refine ⟨g1, g2, g3, g4, g5, g6, g7, g8, g9, ?_, g11, g12, g13⟩
  by_cases hn : sNC S < 400
  · have e0 : sNC (chAdd S x old) = sNC S + 1 := if_pos hn
    rw [e0]
    refine ⟨by omega, by omega, fun k hk => ?_⟩
    show 0 ≤ chAdd S x old 21 k ∧ chAdd S x old 21 k ≤ sHr S ∧ (∃ l p : Int, isP S l p ∧ chAdd S x old 22 k = 64 * l + p) ∧ 0 ≤ chAdd S x old 23 k ∧ chAdd S x old 23 k ≤ 26 ∧ ∀ k' : Nat, k' < k → chAdd S x old 21 k' ≤ chAdd S x old 21 k
    by_cases e : (k : Int) = sNC S
    · rw [chA_l i21 hn e, chA_l i22 hn e, chA_l i23 hn e]
      refine ⟨g7.1, Int.le_refl _, ⟨l, p, hP, hx⟩, ho.1, ho.2, fun k' hk' => ?_⟩
      rw [chA_o i21 hn (by omega)]
      exact (g10.2.2 k' (by omega)).2.1
    · rw [chA_o i21 hn e, chA_o i22 hn e, chA_o i23 hn e]
      obtain ⟨z1, z2, z3, z4, z5, z6⟩ := g10.2.2 k (by omega)
      refine ⟨z1, z2, z3, z4, z5, fun k' hk' => ?_⟩
      rw [chA_o i21 hn (by omega)]
      exact z6 k' hk'
  · have e0 : sNC (chAdd S x old) = 400 := if_neg hn
    have en : sNC S = 400 := by omega
    rw [e0]
    refine ⟨by omega, by omega, fun k hk => ?_⟩
    show 0 ≤ chAdd S x old 21 k ∧ chAdd S x old 21 k ≤ sHr S ∧ (∃ l p : Int, isP S l p ∧ chAdd S x old 22 k = 64 * l + p) ∧ 0 ≤ chAdd S x old 23 k ∧ chAdd S x old 23 k ≤ 26 ∧ ∀ k' : Nat, k' < k → chAdd S x old 21 k' ≤ chAdd S x old 21 k
    by_cases e : k = 399
    · rw [chA_fl i21 hn e, chA_fl i22 hn e, chA_fl i23 hn e]
      refine ⟨g7.1, Int.le_refl _, ⟨l, p, hP, hx⟩, ho.1, ho.2, fun k' hk' => ?_⟩
      rw [chA_fo i21 hn (by omega)]
      exact (g10.2.2 (k' + 1) (by omega)).2.1
    · rw [chA_fo i21 hn e, chA_fo i22 hn e, chA_fo i23 hn e]
      obtain ⟨z1, z2, z3, z4, z5, z6⟩ := g10.2.2 (k + 1) (by omega)
      refine ⟨z1, z2, z3, z4, z5, fun k' hk' => ?_⟩
      rw [chA_fo i21 hn (by omega)]
      exact z6 (k' + 1) (by omega)
/-- four numbers of a row set -/
def row4 (I : Nat → Nat → Int32) (b : Nat) (v1 v2 v3 v4 : Int32) : Nat → Nat → Int32 := xwI (xwI (xwI (xwI I 54 b v1) 54 (b + 1) v2) 54 (b + 2) v3) 54 (b + 3) v4
theorem row4_s {b : Nat} {v1 v2 v3 v4 : Int32} : row4 I b v1 v2 v3 v4 54 b = v1 ∧ row4 I b v1 v2 v3 v4 54 (b + 1) = v2 ∧ row4 I b v1 v2 v3 v4 54 (b + 2) = v3 ∧ row4 I b v1 v2 v3 v4 54 (b + 3) = v4 := by
  unfold row4
  refine ⟨?_, ?_, ?_, ?_⟩
  · rw [xgn (by omega), xgn (by omega), xgn (by omega), xg]
  · rw [xgn (by omega), xgn (by omega), xg]
  · rw [xgn (by omega), xg]
  · rw [xg]
theorem row4_o {b j : Nat} {v1 v2 v3 v4 : Int32} (h : j < b ∨ b + 3 < j) : row4 I b v1 v2 v3 v4 54 j = I 54 j := by
  unfold row4
  rw [xgn (by omega), xgn (by omega), xgn (by omega), xgn (by omega)]
theorem row4_c {b j : Nat} {v1 v2 v3 v4 : Int32} (h : j ≠ 54) : row4 I b v1 v2 v3 v4 j = I j := by
  unfold row4
  rw [xwI_ne h, xwI_ne h, xwI_ne h, xwI_ne h]
/-- the row of changes of the class, one more -/
theorem CIc.chA {b : Nat} (hw : WF S) (hc : CIc S I) (hb : (b : Int) = (I 53 1).toInt + (I 53 2).toInt) (h1 : a1.toInt = sHr S) (h2 : 0 ≤ a3.toInt ∧ a3.toInt < 64) (h4 : a4.toInt = old) (hx : x = 64 * a2.toInt + a3.toInt) {I1 : Nat → Nat → Int32}
    (e54 : I1 54 = row4 I (b % 400 * 4) a1 a2 a3 a4 54) (e53 : (sNC S < 400 → I1 53 2 = I 53 2 + 1 ∧ I1 53 1 = I 53 1) ∧ (¬ sNC S < 400 → I1 53 2 = I 53 2 ∧ (I1 53 1).toInt = ((I 53 1).toInt + 1) % 400)) : CIc (chAdd S x old) I1 := by
  have hn := hw.2.2.2.2.2.2.2.2.2.1
  obtain ⟨c1, o, c2, c3, c4⟩ := hc
  rw [c3, c1] at hb
  by_cases hl : sNC S < 400
  · obtain ⟨f1, f2⟩ := e53.1 hl
    refine ⟨?_, o, c2, by rw [f2]; exact c3, fun k hk => ?_⟩
    · rw [f1, add1 (by omega) (by omega), c1]; exact (if_pos hl).symm
    · have hk' : (k : Int) < sNC S + 1 := by rw [chA_n, if_pos hl] at hk; exact hk
      rw [e54]
      by_cases e : (k : Int) = sNC S
      · obtain ⟨r0, r1, r2, r3⟩ := row4_s (I := I) (b := b % 400 * 4) (v1 := a1) (v2 := a2) (v3 := a3) (v4 := a4)
        rw [show (o + k) % 400 = b % 400 by rw [show o + k = b by omega], r0, r1, r2, r3, chA_l i21 hl e, chA_l i22 hl e, chA_l i23 hl e]
        refine ⟨h1, ?_, ?_, h4⟩
        · show a2.toInt = x / 64; omega
        · show a3.toInt = x % 64; omega
      · have hb2 : ((o + k) % 400 * 4 + 3 < b % 400 * 4) ∨ (b % 400 * 4 + 3 < (o + k) % 400 * 4) := by omega
        rw [row4_o (by omega), row4_o (by omega), row4_o (by omega), row4_o (by omega), chA_o i21 hl e, chA_o i22 hl e, chA_o i23 hl e]
        exact c4 k (by omega)
  · obtain ⟨f1, f2⟩ := e53.2 hl
    have en : sNC S = 400 := by omega
    refine ⟨?_, (o + 1) % 400, by omega, ?_, fun k hk => ?_⟩
    · rw [f1, c1, en]; exact (if_neg hl).symm
    · rw [f2, c3]; omega
    · have hk' : (k : Int) < 400 := by rw [chA_n, if_neg hl] at hk; exact hk
      rw [e54]
      by_cases e : k = 399
      · obtain ⟨r0, r1, r2, r3⟩ := row4_s (I := I) (b := b % 400 * 4) (v1 := a1) (v2 := a2) (v3 := a3) (v4 := a4)
        rw [show ((o + 1) % 400 + k) % 400 = b % 400 by omega, r0, r1, r2, r3, chA_fl i21 hl e, chA_fl i22 hl e, chA_fl i23 hl e]
        refine ⟨h1, ?_, ?_, h4⟩
        · show a2.toInt = x / 64; omega
        · show a3.toInt = x % 64; omega
      · have hb2 : (((o + 1) % 400 + k) % 400 * 4 + 3 < b % 400 * 4) ∨ (b % 400 * 4 + 3 < ((o + 1) % 400 + k) % 400 * 4) := by omega
        rw [row4_o (by omega), row4_o (by omega), row4_o (by omega), row4_o (by omega), chA_fo i21 hl e, chA_fo i22 hl e, chA_fo i23 hl e]
        rw [show ((o + 1) % 400 + k) % 400 = (o + (k + 1)) % 400 by omega]
        exact c4 (k + 1) (by omega)
end CHANGE
