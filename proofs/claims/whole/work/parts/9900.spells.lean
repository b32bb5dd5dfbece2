/-! ===== book: names in the class's rows ===== -/
def tb (t : Tp) (z : Int) : Int := if 0 ≤ z ∧ z < t.2 then t.1 z.toNat else -1
/-- a row of letters is what the tape spells from a to b -/
def spE (t : Tp) (a b n : Int) (f : Nat → Int) : Prop := n = b - a ∧ ∀ k : Nat, (k : Int) < n → f k = tb t (a + k) - 96
noncomputable def fdI (t : Tp) (a b : Int) (ln : Nat → Int) (lt : Nat → Nat → Int) : Nat → Nat → Int
  | 0, _ => -1
  | m + 1, i => @ite Int (spE t a b (ln i) (lt i)) (Classical.propDecidable _) (i : Int) (fdI t a b ln lt m (i + 1))
/-- rows of names: cell, width, how many there may be -/
def SK (s w M : Nat) : Prop := (s = 9 ∨ s = 12 ∨ s = 15 ∨ s = 18 ∨ s = 32 ∨ s = 35 ∨ s = 38 ∨ s = 41) ∧ clen (s + 2) = M ∧ clen (s + 1) = M * w ∧ M ≤ 16 ∧ w ≤ 64
def SP (s w N : Nat) (ln : Nat → Int) (lt : Nat → Nat → Int) (I : Nat → Nat → Int32) : Prop := (I s 0).toInt = w ∧ (I s 3).toInt = N ∧ ∀ i : Nat, i < N → (0 ≤ ln i ∧ ln i ≤ w) ∧ (I (s + 2) i).toInt = ln i ∧ ∀ k : Nat, (k : Int) < ln i → (I (s + 1) (i * w + k)).toInt = lt i k
section SPELLS
variable {t : Tp} {L d dr tl : Nat} {I I0 I1 : Nat → Nat → Int32} {J : Nat → Nat → Int64} {a0 a1 a2 a3 a4 a5 : Int32} {s w M N i : Nat} {ln : Nat → Int} {lt : Nat → Nat → Int} {R : (Nat → Nat → Int32) → (Nat → Nat → Int64) → Prop}
theorem tb_b (tp : TP t I) (z : Int) : -1 ≤ tb t z ∧ tb t z ≤ 255 := by
  unfold tb
  split
  · rename_i h
    have := tp.1.2 z.toNat (by omega)
    omega
  · omega
theorem tb_in {q : Nat} (h : q < t.2) : tb t (q : Int) = t.1 q := by
  unfold tb
  rw [if_pos (by omega), Int.toNat_natCast]
theorem sk1 (hd : dr = 8 ∨ dr = 31) : SK (dr + 1) 6 6 := by rcases hd with rfl | rfl <;> exact ⟨by decide, rfl, rfl, by decide, by decide⟩
theorem sk4 (hd : dr = 8 ∨ dr = 31) : SK (dr + 4) 64 8 := by rcases hd with rfl | rfl <;> exact ⟨by decide, rfl, rfl, by decide, by decide⟩
theorem sk7 (hd : dr = 8 ∨ dr = 31) : SK (dr + 7) 6 4 := by rcases hd with rfl | rfl <;> exact ⟨by decide, rfl, rfl, by decide, by decide⟩
theorem sk10 (hd : dr = 8 ∨ dr = 31) : SK (dr + 10) 12 16 := by rcases hd with rfl | rfl <;> exact ⟨by decide, rfl, rfl, by decide, by decide⟩
theorem s_bt (tp : TP t I) : PI ((d + 1), 117, 0, [some (.ref 3), some (.int a1)], [], (xSH L dr tl, I, J)) (tb t a1.toInt) (xSH L dr tl, I, J) := s_tbyte tp
theorem sub_in {n : Int} (h : (a4 - a3).toInt = n) (h0 : 0 ≤ n) (h4 : 0 ≤ a4.toInt ∧ a4.toInt ≤ 1600) : a3.toInt = a4.toInt - n := by
  rw [Int32.toInt_sub] at h
  have l := ti_lo a3
  have u := ti_hi a3
  by_cases z : a4.toInt - a3.toInt < 2147483648
  · have e : (a4.toInt - a3.toInt).bmod 4294967296 = a4.toInt - a3.toInt := bm_id (by omega) z
    have h' : (a4.toInt - a3.toInt).bmod 4294967296 = n := h
    omega
  · exfalso
    have h' : (a4.toInt - a3.toInt).bmod 4294967296 = n := h
    unfold Int.bmod at h'
    dsimp only at h'
    split at h' <;> omega
theorem let_ti {r : Int32} (h : -1 ≤ r.toInt ∧ r.toInt ≤ 255) : (r - 97 + 1).toInt = r.toInt - 96 := by
  have e97 : (97 : Int32).toInt = 97 := rfl
  have e1 : (1 : Int32).toInt = 1 := rfl
  have e : (r - 97).toInt = r.toInt - 97 := by rw [sub_ti (by rw [e97]; omega) (by rw [e97]; omega), e97]
  rw [add_ti (by rw [e, e1]; omega) (by rw [e, e1]; omega), e, e1]
  omega
theorem s_spelled (tp : TP t I) (sk0 : SK s w M) (sp : SP s w N ln lt I) (hN : N ≤ M) (hi : i < N) (e1 : a1.toInt = i) (h4 : 0 ≤ a4.toInt ∧ a4.toInt ≤ 1600) : PB ((d + 2), 108, 0, [some (.ref s), some (.int a1), some (.ref 3), some (.int a3), some (.int a4), none], [], (xSH L dr tl, I, J)) (spE t a3.toInt a4.toInt (ln i) (lt i)) (xSH L dr tl, I, J) := by
  obtain ⟨hs, c2, c1, hM, hw⟩ := sk0
  obtain ⟨l0, l2, l3⟩ := sp.2.2 i hi
  have xi : xIx a1 = i := by rw [xIx_ti, e1]; exact Int.toNat_natCast _
  have hb : i * w ≤ 16 * 64 := Nat.mul_le_mul (by omega) (by omega)
  have hb2 : (i + 1) * w ≤ M * w := Nat.mul_le_mul_right w (by omega)
  have hb3 : (i + 1) * w = i * w + w := by rw [Nat.add_mul, Nat.one_mul]
  have ep : (a1 * I s 0).toInt = ((i * w : Nat) : Int) := by
    have e0 : a1.toInt * (I s 0).toInt = ((i * w : Nat) : Int) := by rw [e1, sp.1, Int.natCast_mul]
    rw [mul_ti (by rw [e0]; omega) (by rw [e0]; omega), e0]
  refine w108_0 hs (Or.inl rfl) ⟨by rw [xin_iff, e1, c2]; omega, brz eq_ti (fun y => ?_) (fun y => ⟨0, rfl, Or.inr ⟨rfl, fun z => y ?_⟩, rfl⟩)⟩
  · rw [xi, l2] at y
    have e3 := sub_in (a3 := a3) (a4 := a4) y.symm l0.1 h4
    have loop : ∀ (m k : Nat) (a5 : Int32), ((k + m : Nat) : Int) = ln i → a5.toInt = a3.toInt + k → (∀ j : Nat, j < k → lt i j = tb t (a3.toInt + j) - 96) → PB ((d + 2), 108, 18, [some (.ref s), some (.int a1), some (.ref 3), some (.int a3), some (.int a4), some (.int a5)], [], (xSH L dr tl, I, J)) (spE t a3.toInt a4.toInt (ln i) (lt i)) (xSH L dr tl, I, J) := by
      intro m
      induction m with
      | zero =>
        intro k a5 hk h5 hj
        exact w108_18 hs (Or.inl rfl) (sk (fun z => by rw [lt_ti] at z; omega) ⟨1, rfl, Or.inl ⟨rfl, by omega, fun j hj' => hj j (by omega)⟩, rfl⟩)
      | succ m ih =>
        intro k a5 hk h5 hj
        have e2 : (a1 * I s 0 + a5).toInt = ((i * w : Nat) : Int) + a5.toInt := by rw [add_ti (by rw [ep]; omega) (by rw [ep]; omega), ep]
        have e4 : (a1 * I s 0 + a5 - a3).toInt = ((i * w + k : Nat) : Int) := by rw [sub_ti (by rw [e2]; omega) (by rw [e2]; omega), e2]; omega
        have x4 : xIx (a1 * I s 0 + a5 - a3) = i * w + k := by rw [xIx_ti, e4]; exact Int.toNat_natCast _
        have l4 := l3 k (by omega)
        refine w108_18 hs (Or.inl rfl) (hit (lt_ti.mpr (by omega)) ⟨by rw [xin_iff, e4, c1]; omega, (s_bt tp).u fun r2 g2 => ?_⟩)
        have lt2 := let_ti (r := r2) (by rw [g2]; exact tb_b tp _)
        rw [x4]
        refine brz eq_ti (fun z => ih (k + 1) (a5 + 1) (by omega) ?_ (fun j hj' => ?_)) (fun z => ⟨0, rfl, Or.inr ⟨rfl, fun u => z ?_⟩, rfl⟩)
        · rw [add_ti (by show _ ≤ a5.toInt + 1; omega) (by show a5.toInt + 1 < _; omega)]
          show a5.toInt + 1 = _
          omega
        · by_cases e : j = k
          · rw [e, ← l4, z, lt2, g2, h5]
          · exact hj j (by omega)
        · rw [l4, lt2, g2, h5]
          exact u.2 k (by omega)
    exact loop (ln i).toNat 0 a3 (by omega) (by omega) (fun j hj => by omega)
  · rw [xi, l2, sub_ti (by have := z.1; omega) (by have := z.1; omega)]
    exact z.1
theorem s_find (tp : TP t I) (sk0 : SK s w M) (sp : SP s w N ln lt I) (hN : N ≤ M) (h3 : 0 ≤ a3.toInt ∧ a3.toInt ≤ 1600) : PI ((d + 3), 107, 0, [some (.ref s), some (.ref 3), some (.int a2), some (.int a3), none], [], (xSH L dr tl, I, J)) (fdI t a2.toInt a3.toInt ln lt N 0) (xSH L dr tl, I, J) := by
  have hM := sk0.2.2.2.1
  have loop : ∀ (m i : Nat) (a4 : Int32), i + m = N → a4.toInt = i → PI ((d + 3), 107, 3, [some (.ref s), some (.ref 3), some (.int a2), some (.int a3), some (.int a4)], [], (xSH L dr tl, I, J)) (fdI t a2.toInt a3.toInt ln lt m i) (xSH L dr tl, I, J) := by
    intro m
    induction m with
    | zero =>
      intro i a4 hi h4
      exact w107_3 sk0.1 (Or.inl rfl) (sk (fun z => by rw [lt_ti, sp.2.1] at z; omega) ⟨-1, rfl, rfl, rfl⟩)
    | succ m ih =>
      intro i a4 hi h4
      have E : fdI t a2.toInt a3.toInt ln lt (m + 1) i = @ite Int (spE t a2.toInt a3.toInt (ln i) (lt i)) (Classical.propDecidable _) (i : Int) (fdI t a2.toInt a3.toInt ln lt m (i + 1)) := rfl
      rw [E]
      refine w107_3 sk0.1 (Or.inl rfl) (hit (lt_ti.mpr (by rw [sp.2.1]; omega)) ((s_spelled (i := i) tp sk0 sp hN (by omega) h4 h3).u (fun y => br1 ⟨a4, rfl, ?_, rfl⟩) (fun y => br0 ?_)))
      · rw [if_pos y]; exact h4
      · rw [if_neg y]
        exact ih (i + 1) (a4 + 1) (by omega) (by rw [add1 (by omega) (by omega), h4]; rfl)
  exact w107_0 sk0.1 (Or.inl rfl) (loop N 0 0 (by omega) rfl)
theorem fdI_b : ∀ m i : Nat, fdI t a2.toInt a3.toInt ln lt m i = -1 ∨ ((i : Int) ≤ fdI t a2.toInt a3.toInt ln lt m i ∧ fdI t a2.toInt a3.toInt ln lt m i < ((i + m : Nat) : Int)) := by
  intro m
  induction m with
  | zero => intro i; exact Or.inl rfl
  | succ m ih =>
    intro i
    have E : fdI t a2.toInt a3.toInt ln lt (m + 1) i = @ite Int (spE t a2.toInt a3.toInt (ln i) (lt i)) (Classical.propDecidable _) (i : Int) (fdI t a2.toInt a3.toInt ln lt m (i + 1)) := rfl
    rw [E]
    by_cases y : spE t a2.toInt a3.toInt (ln i) (lt i)
    · rw [if_pos y]; omega
    · rw [if_neg y]
      rcases ih (i + 1) with h | h
      · exact Or.inl h
      · omega
theorem s_full (sk0 : SK s w M) (h3 : (I s 3).toInt = N) : PB ((d + 1), 105, 0, [some (.ref s)], [], (xSH L dr tl, I, J)) (M ≤ N) (xSH L dr tl, I, J) := by
  have hM := sk0.2.2.2.1
  have e : (Int32.ofNat (clen (s + 2))).toInt = M := by rw [sk0.2.1]; exact ofN94 M (by omega)
  exact w105_0 sk0.1 (brz lt_ti (fun y => ⟨0, rfl, Or.inr ⟨rfl, by omega⟩, rfl⟩) (fun y => ⟨1, rfl, Or.inl ⟨rfl, by omega⟩, rfl⟩))
/-- a name comes into the rows -/
theorem s_addS {q r : Nat} (tp : TP t I) (sk0 : SK s w M) (hw0 : (I s 0).toInt = w) (h3 : (I s 3).toInt = N) (hN : N < M) (e2 : a2.toInt = q) (e3 : a3.toInt = r) (hqr : q ≤ r) (hr : r ≤ t.2) (hl : r - q ≤ w)
    (K : ∀ I1 : Nat → Nat → Int32, (∀ a : Nat, a ≠ s → a ≠ s + 1 → a ≠ s + 2 → I1 a = I a) → (∀ j : Nat, j ≠ 3 → I1 s j = I s j) → (I1 s 3).toInt = ((N + 1 : Nat) : Int) → (∀ j : Nat, j ≠ N → I1 (s + 2) j = I (s + 2) j) → (I1 (s + 2) N).toInt = (r : Int) - q → (∀ j : Nat, j < N * w → I1 (s + 1) j = I (s + 1) j) → (∀ k : Nat, k < r - q → (I1 (s + 1) (N * w + k)).toInt = t.1 (q + k) - 96) → R I1 J) :
    WP ((d + 2), 106, 0, [some (.ref s), some (.ref 3), some (.int a2), some (.int a3), none], [], (xSH L dr tl, I, J)) (fun v M => ∃ (I2 : Nat → Nat → Int32) (J2 : Nat → Nat → Int64), v = none ∧ M = (xSH L dr tl, I2, J2) ∧ R I2 J2) := by
  have sk1 := sk0
  obtain ⟨hs, c2, c1, hM, hw⟩ := sk0
  have n1600 := tp.1.1
  have hb : N * w ≤ 16 * 64 := Nat.mul_le_mul (by omega) (by omega)
  have hb2 : (N + 1) * w ≤ M * w := Nat.mul_le_mul_right w (by omega)
  have hb3 : (N + 1) * w = N * w + w := by rw [Nat.add_mul, Nat.one_mul]
  have s3 : s ≠ 3 ∧ s ≠ 4 ∧ s + 1 ≠ 3 ∧ s + 1 ≠ 4 ∧ s + 2 ≠ 3 ∧ s + 2 ≠ 4 := by omega
  have loop : ∀ (m k : Nat) (a4 : Int32) (I1 : Nat → Nat → Int32), k + m = r - q → a4.toInt = ((q + k : Nat) : Int) → (∀ a : Nat, a ≠ s + 1 → I1 a = I a) → (∀ j : Nat, j < N * w → I1 (s + 1) j = I (s + 1) j) → (∀ j : Nat, j < k → (I1 (s + 1) (N * w + j)).toInt = t.1 (q + j) - 96) →
      WP ((d + 2), 106, 21, [some (.ref s), some (.ref 3), some (.int a2), some (.int a3), some (.int a4)], [], (xSH L dr tl, I1, J)) (fun v M => ∃ (I2 : Nat → Nat → Int32) (J2 : Nat → Nat → Int64), v = none ∧ M = (xSH L dr tl, I2, J2) ∧ R I2 J2) := by
    intro m
    induction m with
    | zero =>
      intro k a4 I1 hk h4 f1 f2 f3
      have g3 : (I1 s 3).toInt = N := by rw [f1 s (by omega)]; exact h3
      have x3 : xIx (I1 s 3) = N := by rw [xIx_ti, g3]; exact Int.toNat_natCast _
      refine w106_21 hs (Or.inl rfl) (sk (fun z => by rw [lt_ti] at z; omega) ⟨by rw [xin_iff, g3, c2]; omega, _, J, rfl, rfl, K _ (fun a y1 y2 y3 => ?_) (fun j hj => ?_) ?_ (fun j hj => ?_) ?_ (fun j hj => ?_) (fun j hj => ?_)⟩)
      · rw [xwI_ne y1, xwI_ne y3]; exact f1 a y2
      · rw [xgn hj, xwI_ne (by omega), f1 s (by omega)]
      · rw [xg, xwI_ne (by omega), add1 (by omega) (by omega), g3]; rfl
      · rw [xwI_ne (by omega), x3, xgn hj, f1 (s + 2) (by omega)]
      · rw [xwI_ne (by omega), x3, xg, sub_ti (by omega) (by omega)]; omega
      · rw [xwI_ne (by omega), xwI_ne (by omega)]; exact f2 j hj
      · rw [xwI_ne (by omega), xwI_ne (by omega)]; exact f3 j (by omega)
    | succ m ih =>
      intro k a4 I1 hk h4 f1 f2 f3
      have g3 : (I1 s 3).toInt = N := by rw [f1 s (by omega)]; exact h3
      have g0 : (I1 s 0).toInt = w := by rw [f1 s (by omega)]; exact hw0
      have ep : (I1 s 3 * I1 s 0).toInt = ((N * w : Nat) : Int) := by
        have e0 : (I1 s 3).toInt * (I1 s 0).toInt = ((N * w : Nat) : Int) := by rw [g3, g0, Int.natCast_mul]
        rw [mul_ti (by rw [e0]; omega) (by rw [e0]; omega), e0]
      have ea : (I1 s 3 * I1 s 0 + a4).toInt = ((N * w : Nat) : Int) + a4.toInt := by rw [add_ti (by rw [ep]; omega) (by rw [ep]; omega), ep]
      have e4 : (I1 s 3 * I1 s 0 + a4 - a2).toInt = ((N * w + k : Nat) : Int) := by rw [sub_ti (by rw [ea]; omega) (by rw [ea]; omega), ea]; omega
      have x4 : xIx (I1 s 3 * I1 s 0 + a4 - a2) = N * w + k := by rw [xIx_ti, e4]; exact Int.toNat_natCast _
      have tp1 : TP t I1 := by
        unfold TP at *
        rw [f1 3 (by omega), f1 4 (by omega)]; exact tp
      refine w106_21 hs (Or.inl rfl) (hit (lt_ti.mpr (by omega)) ((s_bt tp1).u fun r2 g2 => ⟨by rw [xin_iff, e4, c1]; omega, ?_⟩))
      have lt2 := let_ti (r := r2) (by rw [g2]; exact tb_b tp1 _)
      rw [h4, tb_in (by omega)] at g2
      rw [x4]
      refine ih (k + 1) (a4 + 1) _ (by omega) (by rw [add1 (by omega) (by omega), h4]; rfl) (fun a y => ?_) (fun j hj => ?_) (fun j hj => ?_)
      · rw [xwI_ne y]; exact f1 a y
      · rw [xgn (by omega)]; exact f2 j hj
      · by_cases e : j = k
        · rw [e, xg, lt2, g2]
        · rw [xgn (by omega)]; exact f3 j (by omega)
  refine w106_0 hs (Or.inl rfl) ((s_full sk1 h3).u (fun y => by omega) (fun _ => br0 (sk (fun z => ?_) (loop (r - q) 0 a2 I (by omega) (by rw [e2]; rfl) (fun _ _ => rfl) (fun _ _ => rfl) (fun j hj => by omega)))))
  rw [lt_ti, hw0, sub_ti (by omega) (by omega)] at z
  omega
end SPELLS
