/-! ===== span: the longest row of like places ===== -/
def spanS (f : Nat → Bool) : Nat → Int × Int × Int
  | 0 => (0, -1, 0)
  | k + 1 => if f k = true then (if (spanS f k).1 < (spanS f k).2.2 + 1 then ((spanS f k).2.2 + 1, (k : Int) - ((spanS f k).2.2 + 1) + 1, (spanS f k).2.2 + 1) else ((spanS f k).1, (spanS f k).2.1, (spanS f k).2.2 + 1)) else ((spanS f k).1, (spanS f k).2.1, 0)
theorem spanS_y {f : Nat → Bool} {k : Nat} (h : f k = true) (g : (spanS f k).1 < (spanS f k).2.2 + 1) : spanS f (k + 1) = ((spanS f k).2.2 + 1, (k : Int) - ((spanS f k).2.2 + 1) + 1, (spanS f k).2.2 + 1) := by
  show (if f k = true then _ else _) = _
  rw [if_pos h, if_pos g]
theorem spanS_m {f : Nat → Bool} {k : Nat} (h : f k = true) (g : ¬ (spanS f k).1 < (spanS f k).2.2 + 1) : spanS f (k + 1) = ((spanS f k).1, (spanS f k).2.1, (spanS f k).2.2 + 1) := by
  show (if f k = true then _ else _) = _
  rw [if_pos h, if_neg g]
theorem spanS_n {f : Nat → Bool} {k : Nat} (h : ¬ f k = true) : spanS f (k + 1) = ((spanS f k).1, (spanS f k).2.1, 0) := by
  show (if f k = true then _ else _) = _
  rw [if_neg h]
theorem spanS_b (f : Nat → Bool) : ∀ k : Nat, 0 ≤ (spanS f k).1 ∧ (spanS f k).1 ≤ k ∧ 0 ≤ (spanS f k).2.2 ∧ (spanS f k).2.2 ≤ k := by
  intro k
  induction k with
  | zero => exact ⟨(by decide : (0 : Int) ≤ 0), (by decide : (0 : Int) ≤ 0), (by decide : (0 : Int) ≤ 0), (by decide : (0 : Int) ≤ 0)⟩
  | succ k ih =>
    by_cases h : f k = true
    · by_cases g : (spanS f k).1 < (spanS f k).2.2 + 1
      · rw [spanS_y h g]; dsimp only; omega
      · rw [spanS_m h g]; dsimp only; omega
    · rw [spanS_n h]; dsimp only; omega
def spanA (S : aS) (l κ w : Int) : Int := if w = 0 then (spanS (fun p => such S (slot l p) κ) (plc S l).toNat).2.1 else (spanS (fun p => such S (slot l p) κ) (plc S l).toNat).1
def ansSpan (S : aS) (l y w : Int) : Int := if isL S l ∧ 0 ≤ w ∧ w ≤ 1 then spanA S l (if y = 0 then 1 else 0) w else -1
section SPAN
variable {S : aS} {L d dr tl : Nat} {I : Nat → Nat → Int32} {J : Nat → Nat → Int64} {a1 a2 a3 a4 : Int32}
theorem c_span_loop (hc : CB S tl I) (κ : Int) (e4 : a4.toInt = κ) : ∀ (m k : Nat) (b s r p : Int32), (k + m : Nat) = (plc S a1.toInt).toNat → p.toInt = k → b.toInt = (spanS (fun p => such S (slot a1.toInt p) κ) k).1 → s.toInt = (spanS (fun p => such S (slot a1.toInt p) κ) k).2.1 → r.toInt = (spanS (fun p => such S (slot a1.toInt p) κ) k).2.2 → PI ((d + 4), 181, 48, [some (.ref 2), some (.int a1), none, some (.int a3), some (.int a4), some (.int b), some (.int s), some (.int r), some (.int p)], [], (xSH L dr tl, I, J)) (spanA S a1.toInt κ a3.toInt) (xSH L dr tl, I, J) := by
  have hpl := plc_le hc.1 a1.toInt
  intro m
  induction m with
  | zero =>
    intro k b s r p hk hp hb hs hr
    have hk' : (plc S a1.toInt).toNat = k := by omega
    refine w181_48 hc.2.1 ((s_told hc.2.1).v ((s_placesOf hc.1 hc.2.1 hc.2.2.1).u fun r2 h2 => brz lt_ti (fun h => ?_) (fun h => brz eq0 (fun g => ⟨s, rfl, ?_, rfl⟩) (fun g => ⟨b, rfl, ?_, rfl⟩))))
    · rw [h2, hp] at h; omega
    · rw [hs, spanA, if_pos g, hk']
    · rw [hb, spanA, if_neg g, hk']
  | succ m ih =>
    intro k b s r p hk hp hb hs hr
    have B := spanS_b (fun p => such S (slot a1.toInt p) κ) k
    have e1 : (p + 1).toInt = ((k + 1 : Nat) : Int) := by rw [add1 (by omega) (by omega), hp]; rfl
    have hP : isP S a1.toInt k := plc_lt (by omega)
    have er : (r + 1).toInt = (spanS (fun p => such S (slot a1.toInt p) κ) k).2.2 + 1 := by rw [add1 (by omega) (by omega), hr]
    have es : (p - (r + 1) + 1).toInt = (k : Int) - ((spanS (fun p => such S (slot a1.toInt p) κ) k).2.2 + 1) + 1 := by
      have k1 : (p - (r + 1)).toInt = p.toInt - (r + 1).toInt := sub_ti (by omega) (by omega)
      have k2 : (p - (r + 1) + 1).toInt = (p - (r + 1)).toInt + 1 := add_ti (by show _ ≤ (p - (r + 1)).toInt + 1; omega) (by show (p - (r + 1)).toInt + 1 < _; omega)
      rw [k2, k1, er, hp]
    refine w181_48 hc.2.1 ((s_told hc.2.1).v ((s_placesOf hc.1 hc.2.1 hc.2.2.1).u fun r2 h2 => brz lt_ti (fun h => (s_isSuch hc).u (fun q => br1 (brz lt_ti (fun g => ?_) (fun g => ?_))) (fun q => br0 (brz lt0 (fun g => ?_) (fun g => ?_)))) (fun h => ?_)))
    · rw [er, hb] at g
      rw [hp, e4] at q
      have E := spanS_y (f := fun p => such S (slot a1.toInt p) κ) q.2 g
      exact ih (k + 1) _ _ _ _ (by omega) e1 (by rw [E]; exact er) (by rw [E]; exact es) (by rw [E]; exact er)
    · rw [er, hb] at g
      rw [hp, e4] at q
      have E := spanS_m (f := fun p => such S (slot a1.toInt p) κ) q.2 g
      exact ih (k + 1) _ _ _ _ (by omega) e1 (by rw [E]; exact hb) (by rw [E]; exact hs) (by rw [E]; exact er)
    · omega
    · rw [hp, e4] at q
      have E := spanS_n (f := fun p => such S (slot a1.toInt p) κ) (fun z => q ⟨hP, z⟩)
      exact ih (k + 1) _ _ _ _ (by omega) e1 (by rw [E]; exact hb) (by rw [E]; exact hs) (by rw [E]; rfl)
    · rw [h2, hp] at h; omega
theorem gt1 {a : Int32} : 1 < a ↔ 1 < a.toInt := lt_ti
theorem c_span (hc : CB S tl I) : PI ((d + 4), 181, 0, [some (.ref 2), some (.int a1), some (.int a2), some (.int a3), none, none, none, none, none], [], (xSH L dr tl, I, J)) (ansSpan S a1.toInt a2.toInt a3.toInt) (xSH L dr tl, I, J) := by
  refine w181_0 hc.2.1 ((s_told hc.2.1).v ((s_hasLeaf hc.2.1 hc.2.2.1).u (fun q => br1 (brz lt0 (fun h => ⟨-1, rfl, ?_, rfl⟩) (fun h => brz gt1 (fun h1 => ⟨-1, rfl, ?_, rfl⟩) (fun h1 => brz eq0 (fun h2 => ?_) (fun h2 => ?_))))) (fun q => br0 ⟨-1, rfl, ?_, rfl⟩)))
  · rw [ansSpan, if_neg (by omega)]; rfl
  · rw [ansSpan, if_neg (by omega)]; rfl
  · rw [ansSpan, if_pos ⟨q, by omega, by omega⟩, if_pos h2]
    exact c_span_loop hc 1 rfl (plc S a1.toInt).toNat 0 0 (-1) 0 0 (by omega) rfl rfl rfl rfl
  · rw [ansSpan, if_pos ⟨q, by omega, by omega⟩, if_neg h2]
    exact c_span_loop hc 0 rfl (plc S a1.toInt).toNat 0 0 (-1) 0 0 (by omega) rfl rfl rfl rfl
  · rw [ansSpan, if_neg (fun z => q z.1)]; rfl
theorem m_span_loop (hm : MB S I J) (hl : isL S a1.toInt) (κ : Int) (e4 : κ = if a2.toInt = 0 then 1 else 0) : ∀ (m k : Nat) (b s r p : Int32), (k + m : Nat) = (plc S a1.toInt).toNat → p.toInt = k → b.toInt = (spanS (fun p => such S (slot a1.toInt p) κ) k).1 → s.toInt = (spanS (fun p => such S (slot a1.toInt p) κ) k).2.1 → r.toInt = (spanS (fun p => such S (slot a1.toInt p) κ) k).2.2 → PI ((d + 2), 283, 32, [some (.ref 71), some (.int a1), some (.int a2), some (.int a3), some (.int s), some (.int b), some (.int r), some (.int p), none], [], (xSH L dr tl, I, J)) (spanA S a1.toInt κ a3.toInt) (xSH L dr tl, I, J) := by
  have hpl := plc_le hm.1 a1.toInt
  have hnl := hm.1.2.2.1.2.1
  have hl1 := hl.1
  have hl2 := hl.2
  have ep : plc S a1.toInt = S 5 a1.toInt.toNat := by rw [plc, if_pos hl]
  have e64 : (64 * a1).toInt = 64 * a1.toInt := mul_ti (by show _ ≤ 64 * a1.toInt; omega) (by show 64 * a1.toInt < _; omega)
  intro m
  induction m with
  | zero =>
    intro k b s r p hk hp hb hs hr
    have hk' : (plc S a1.toInt).toNat = k := by omega
    refine w283_32 ((m_length hm.1 hm.2.1 hl).u fun r2 h2 => brz lt_ti (fun h => ?_) (fun h => brz eq0 (fun g => ⟨s, rfl, ?_, rfl⟩) (fun g => ⟨b, rfl, ?_, rfl⟩)))
    · rw [h2, hp] at h; omega
    · rw [hs, spanA, if_pos g, hk']
    · rw [hb, spanA, if_neg g, hk']
  | succ m ih =>
    intro k b s r p hk hp hb hs hr
    have B := spanS_b (fun p => such S (slot a1.toInt p) κ) k
    have e1 : (p + 1).toInt = ((k + 1 : Nat) : Int) := by rw [add1 (by omega) (by omega), hp]; rfl
    have hP : isP S a1.toInt k := plc_lt (by omega)
    have ex : (64 * a1 + p).toInt = 64 * a1.toInt + k := by rw [add_ti (by rw [e64]; omega) (by rw [e64]; omega), e64, hp]
    have er : (r + 1).toInt = (spanS (fun p => such S (slot a1.toInt p) κ) k).2.2 + 1 := by rw [add1 (by omega) (by omega), hr]
    have es : (p - (r + 1) + 1).toInt = (k : Int) - ((spanS (fun p => such S (slot a1.toInt p) κ) k).2.2 + 1) + 1 := by
      have k1 : (p - (r + 1)).toInt = p.toInt - (r + 1).toInt := sub_ti (by omega) (by omega)
      have k2 : (p - (r + 1) + 1).toInt = (p - (r + 1)).toInt + 1 := add_ti (by show _ ≤ (p - (r + 1)).toInt + 1; omega) (by show (p - (r + 1)).toInt + 1 < _; omega)
      rw [k2, k1, er, hp]
    have Y : such S (slot a1.toInt k) κ = true → (spanS (fun p => such S (slot a1.toInt p) κ) k).1 < (spanS (fun p => such S (slot a1.toInt p) κ) k).2.2 + 1 → PI ((d + 2), 283, 32, [some (.ref 71), some (.int a1), some (.int a2), some (.int a3), some (.int (p - (r + 1) + 1)), some (.int (r + 1)), some (.int (r + 1)), some (.int (p + 1)), none], [], (xSH L dr tl, I, J)) (spanA S a1.toInt κ a3.toInt) (xSH L dr tl, I, J) := fun q g => by
      have E := spanS_y (f := fun p => such S (slot a1.toInt p) κ) q g
      exact ih (k + 1) _ _ _ _ (by omega) e1 (by rw [E]; exact er) (by rw [E]; exact es) (by rw [E]; exact er)
    have Z : such S (slot a1.toInt k) κ = true → ¬ (spanS (fun p => such S (slot a1.toInt p) κ) k).1 < (spanS (fun p => such S (slot a1.toInt p) κ) k).2.2 + 1 → PI ((d + 2), 283, 32, [some (.ref 71), some (.int a1), some (.int a2), some (.int a3), some (.int s), some (.int b), some (.int (r + 1)), some (.int (p + 1)), none], [], (xSH L dr tl, I, J)) (spanA S a1.toInt κ a3.toInt) (xSH L dr tl, I, J) := fun q g => by
      have E := spanS_m (f := fun p => such S (slot a1.toInt p) κ) q g
      exact ih (k + 1) _ _ _ _ (by omega) e1 (by rw [E]; exact hb) (by rw [E]; exact hs) (by rw [E]; exact er)
    have N : ¬ such S (slot a1.toInt k) κ = true → PI ((d + 2), 283, 32, [some (.ref 71), some (.int a1), some (.int a2), some (.int a3), some (.int s), some (.int b), some (.int 0), some (.int (p + 1)), none], [], (xSH L dr tl, I, J)) (spanA S a1.toInt κ a3.toInt) (xSH L dr tl, I, J) := fun q => by
      have E := spanS_n (f := fun p => such S (slot a1.toInt p) κ) q
      exact ih (k + 1) _ _ _ _ (by omega) e1 (by rw [E]; exact hb) (by rw [E]; exact hs) (by rw [E]; rfl)
    refine w283_32 ((m_length hm.1 hm.2.1 hl).u fun r2 h2 => brz lt_ti (fun h => brz eq0 (fun y => (m_isDry hm.1 hm.2.2 hP ex).u (fun q => br1 (brz lt_ti (fun g => Y ?_ ?_) (fun g => Z ?_ ?_))) (fun q => br0 (brz lt0 (fun g => ?_) (fun g => N ?_)))) (fun y => (m_isWet hm.1 hm.2.2 hP ex).u (fun q => br1 (brz lt_ti (fun g => Y ?_ ?_) (fun g => Z ?_ ?_))) (fun q => br0 (brz lt0 (fun g => ?_) (fun g => N ?_))))) (fun h => ?_))
    · rw [e4, if_pos y]; exact q
    · rw [er, hb] at g; exact g
    · rw [e4, if_pos y]; exact q
    · rw [er, hb] at g; exact g
    · omega
    · rw [e4, if_pos y]; exact q
    · rw [e4, if_neg y]; exact q
    · rw [er, hb] at g; exact g
    · rw [e4, if_neg y]; exact q
    · rw [er, hb] at g; exact g
    · omega
    · rw [e4, if_neg y]; exact q
    · rw [h2, hp] at h; omega
theorem m_span (hm : MB S I J) : PI ((d + 3), 283, 0, [some (.ref 71), some (.int a1), some (.int a2), some (.int a3), none, none, none, none, none], [], (xSH L dr tl, I, J)) (ansSpan S a1.toInt a2.toInt a3.toInt) (xSH L dr tl, I, J) := by
  refine w283_0 ((m_isLeaf hm.1 hm.2.1).u (fun q => br1 (m_isIn.u (fun g => br1 ?_) (fun g => br0 ⟨-1, rfl, ?_, rfl⟩))) (fun q => br0 ⟨-1, rfl, ?_, rfl⟩))
  · rw [t64] at g
    have g1 : (0 : Int) ≤ a3.toInt := g.1
    have g2 : a3.toInt ≤ (1 : Int) := g.2
    rw [ansSpan, if_pos ⟨q, g1, g2⟩]
    exact m_span_loop hm q _ rfl (plc S a1.toInt).toNat 0 0 (-1) 0 0 (by omega) rfl rfl rfl rfl
  · rw [t64] at g
    rw [ansSpan, if_neg (fun z => g z.2)]; rfl
  · rw [ansSpan, if_neg (fun z => q z.1)]; rfl
theorem call_span : Call L (d + 6) 181 283 [.int a1, .int a2, .int a3] [.int a1, .int a2, .int a3] S := Call.ro (fun _ _ _ _ h => c_span h.cb) (fun _ _ _ _ h => m_span h.mb)
end SPAN
