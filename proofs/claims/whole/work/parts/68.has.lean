/-! ===== has, leaf, change ===== -/
theorem eqL {a : Int32} (n : Int32) (k : Int) (h : n.toInt = k) : a = n ↔ a.toInt = k := by rw [eq_ti, h]
def ansHas (S : aS) (a : Int) : Int := if a = 0 then sNI S else if a = 1 then sNL S else if a = 2 then sNR S else if a = 3 then sNU S else if a = 4 then sNW S else if a = 5 then sHr S else if a = 6 ∨ a = 7 ∨ a = 8 ∨ a = 9 then talA S (a - 6) else if a = 10 then sNC S else -1
def ansLeaf (S : aS) (l w : Int) : Int := if isL S l then (if w = 0 then plc S l else if w = 1 ∨ w = 2 ∨ w = 3 ∨ w = 4 then tal S l (w - 1) else if w = 5 then maxI (fun p => S 16 (slot l p)) (plc S l).toNat else if w = 6 then sumI (fun p => S 16 (slot l p)) (plc S l).toNat else -1) else -1
section HAS
variable {S : aS} {L d dr tl : Nat} {I : Nat → Nat → Int32} {J : Nat → Nat → Int64} {a1 a2 a3 : Int32}
theorem sub_l {a : Int32} (n : Int32) (k z : Int) (hn : n.toInt = k) (h : a.toInt = z) (hz : -1000 ≤ z ∧ z ≤ 1000) (hk : -1000 ≤ k ∧ k ≤ 1000) : (a - n).toInt = z - k := by rw [sub_ti (by rw [hn, h]; omega) (by rw [hn, h]; omega), hn, h]
theorem c_has (hc : CB S tl I) (hcc : CIc S I) : PI ((d + 6), 164, 0, [some (.ref 2), some (.int a1), none], [], (xSH L dr tl, I, J)) (ansHas S a1.toInt) (xSH L dr tl, I, J) := by
  have hb := hc.2.2.1
  have hr : ∀ {d : Nat}, PI ((d + 1), 89, 0, [some (.ref (tl + 13))], [], (xSH L dr tl, I, J)) (sNU S) (xSH L dr tl, I, J) := by
    intro d
    have hu := hc.1.2.2.2.2.2.2.2.2.2.2.2.2
    refine w89_0 (r := tl + 13) (by have := hc.2.1; omega) ⟨_, rfl, ?_, rfl⟩
    rw [div_ti (by rw [hb.2.2.2.2.2.1]; omega) (by decide), hb.2.2.2.2.2.1]
    show 2 * sNU S / 2 = sNU S
    omega
  have h21 : ∀ {d : Nat}, PI ((d + 1), 21, 0, [some (.ref 53)], [], (xSH L dr tl, I, J)) (sNC S) (xSH L dr tl, I, J) := w21_0 ⟨_, rfl, hcc.1, rfl⟩
  refine w164_0 hc.2.1 ((s_told hc.2.1).v (brz (eqL 0 0 rfl) (fun h => (s_size (sp1 hc.2.1) hb.1.1).u fun r e => ⟨r, rfl, ?_, rfl⟩) (fun h0 => brz (eqL 1 1 rfl) (fun h => (s_size (sp4 hc.2.1) hb.1.2.1).u fun r e => ⟨r, rfl, ?_, rfl⟩) (fun h1 => brz (eqL 2 2 rfl) (fun h => (s_size (sp7 hc.2.1) hb.1.2.2.1).u fun r e => ⟨r, rfl, ?_, rfl⟩) (fun h2 => brz (eqL 3 3 rfl) (fun h => hr.u fun r e => ⟨r, rfl, ?_, rfl⟩) (fun h3 => brz (eqL 4 4 rfl) (fun h => (s_size (sp10 hc.2.1) hb.1.2.2.2.1).u fun r e => ⟨r, rfl, ?_, rfl⟩) (fun h4 => brz (eqL 5 5 rfl) (fun h => (s_hour hc.2.2.2).u fun r e => ⟨r, rfl, ?_, rfl⟩) (fun h5 => brz (eqL 6 6 rfl) (fun h => (s_tallyAll hc).u fun r e => ⟨r, rfl, ?_, rfl⟩) (fun h6 => brz (eqL 7 7 rfl) (fun h => (s_tallyAll hc).u fun r e => ⟨r, rfl, ?_, rfl⟩) (fun h7 => brz (eqL 8 8 rfl) (fun h => (s_tallyAll hc).u fun r e => ⟨r, rfl, ?_, rfl⟩) (fun h8 => brz (eqL 9 9 rfl) (fun h => (s_tallyAll hc).u fun r e => ⟨r, rfl, ?_, rfl⟩) (fun h9 => brz (eqL 10 10 rfl) (fun h => s_changes.v (h21.u fun r e => ⟨r, rfl, ?_, rfl⟩)) (fun h10 => ⟨-1, rfl, ?_, rfl⟩)))))))))))))
  all_goals unfold ansHas
  · rw [e, if_pos h]
  · rw [e, if_neg h0, if_pos h]
  · rw [e, if_neg h0, if_neg h1, if_pos h]
  · rw [e, if_neg h0, if_neg h1, if_neg h2, if_pos h]
  · rw [e, if_neg h0, if_neg h1, if_neg h2, if_neg h3, if_pos h]
  · rw [e, if_neg h0, if_neg h1, if_neg h2, if_neg h3, if_neg h4, if_pos h]
  · rw [e, sub_l 6 6 6 rfl h (by decide) (by decide), h]; rfl
  · rw [e, sub_l 6 6 7 rfl h (by decide) (by decide), h]; rfl
  · rw [e, sub_l 6 6 8 rfl h (by decide) (by decide), h]; rfl
  · rw [e, sub_l 6 6 9 rfl h (by decide) (by decide), h]; rfl
  · rw [e, h]; rfl
  · rw [if_neg h0, if_neg h1, if_neg h2, if_neg h3, if_neg h4, if_neg h5, if_neg (by omega), if_neg h10]; rfl
theorem m_has (hm : MB S I J) (hcc : MIc S I) : PI ((d + 4), 258, 0, [some (.ref 71), some (.int a1)], [], (xSH L dr tl, I, J)) (ansHas S a1.toInt) (xSH L dr tl, I, J) := by
  have hb := hm.2.1
  refine w258_0 (brz (eqL 0 0 rfl) (fun h => ⟨_, rfl, ?_, rfl⟩) (fun h0 => brz (eqL 1 1 rfl) (fun h => (m_leaves hb).u fun r e => ⟨r, rfl, ?_, rfl⟩) (fun h1 => brz (eqL 2 2 rfl) (fun h => (m_people hb).u fun r e => ⟨r, rfl, ?_, rfl⟩) (fun h2 => brz (eqL 3 3 rfl) (fun h => ⟨_, rfl, ?_, rfl⟩) (fun h3 => brz (eqL 4 4 rfl) (fun h => (m_wordMany hb).u fun r e => ⟨r, rfl, ?_, rfl⟩) (fun h4 => brz (eqL 5 5 rfl) (fun h => ⟨_, rfl, ?_, rfl⟩) (fun h5 => brz (eqL 6 6 rfl) (fun h => (m_countAll hm).u fun r e => ⟨r, rfl, ?_, rfl⟩) (fun h6 => brz (eqL 7 7 rfl) (fun h => (m_countAll hm).u fun r e => ⟨r, rfl, ?_, rfl⟩) (fun h7 => brz (eqL 8 8 rfl) (fun h => (m_countAll hm).u fun r e => ⟨r, rfl, ?_, rfl⟩) (fun h8 => brz (eqL 9 9 rfl) (fun h => (m_countAll hm).u fun r e => ⟨r, rfl, ?_, rfl⟩) (fun h9 => brz (eqL 10 10 rfl) (fun h => ⟨_, rfl, ?_, rfl⟩) (fun h10 => ⟨-1, rfl, ?_, rfl⟩))))))))))))
  all_goals unfold ansHas
  · rw [hb.1.1, if_pos h]
  · rw [e, if_neg h0, if_pos h]
  · rw [e, if_neg h0, if_neg h1, if_pos h]
  · rw [hb.1.2.2.2.2.1, if_neg h0, if_neg h1, if_neg h2, if_pos h]
  · rw [e, if_neg h0, if_neg h1, if_neg h2, if_neg h3, if_pos h]
  · rw [hm.2.2.1, if_neg h0, if_neg h1, if_neg h2, if_neg h3, if_neg h4, if_pos h]
  · rw [e, sub_l 6 6 6 rfl h (by decide) (by decide), h]; rfl
  · rw [e, sub_l 6 6 7 rfl h (by decide) (by decide), h]; rfl
  · rw [e, sub_l 6 6 8 rfl h (by decide) (by decide), h]; rfl
  · rw [e, sub_l 6 6 9 rfl h (by decide) (by decide), h]; rfl
  · rw [hcc.1, h]; rfl
  · rw [if_neg h0, if_neg h1, if_neg h2, if_neg h3, if_neg h4, if_neg h5, if_neg (by omega), if_neg h10]; rfl
theorem c_leaf (hc : CB S tl I) : PI ((d + 5), 166, 0, [some (.ref 2), some (.int a1), some (.int a2)], [], (xSH L dr tl, I, J)) (ansLeaf S a1.toInt a2.toInt) (xSH L dr tl, I, J) := by
  refine w166_0 hc.2.1 ((s_told hc.2.1).v ((s_hasLeaf hc.2.1 hc.2.2.1).u (fun q => br1 (brz (eqL 0 0 rfl) (fun h => (s_told hc.2.1).v ((s_placesOf hc.1 hc.2.1 hc.2.2.1).u fun r e => ⟨r, rfl, ?_, rfl⟩)) (fun h0 => brz (eqL 1 1 rfl) (fun h => (s_tally hc).u fun r e => ⟨r, rfl, ?_, rfl⟩) (fun h1 => brz (eqL 2 2 rfl) (fun h => (s_tally hc).u fun r e => ⟨r, rfl, ?_, rfl⟩) (fun h2 => brz (eqL 3 3 rfl) (fun h => (s_tally hc).u fun r e => ⟨r, rfl, ?_, rfl⟩) (fun h3 => brz (eqL 4 4 rfl) (fun h => (s_tally hc).u fun r e => ⟨r, rfl, ?_, rfl⟩) (fun h4 => brz (eqL 5 5 rfl) (fun h => (s_mostEyes hc).u fun r e => ⟨r, rfl, ?_, rfl⟩) (fun h5 => brz (eqL 6 6 rfl) (fun h => (s_allEyes hc).u fun r e => ⟨r, rfl, ?_, rfl⟩) (fun h6 => ⟨-1, rfl, ?_, rfl⟩)))))))))
    (fun q => br0 ⟨-1, rfl, by rw [ansLeaf, if_neg q]; rfl, rfl⟩)))
  all_goals (unfold ansLeaf; rw [if_pos q])
  · rw [e, if_pos h]
  · rw [e, sub_l 1 1 1 rfl h (by decide) (by decide), h]; rfl
  · rw [e, sub_l 1 1 2 rfl h (by decide) (by decide), h]; rfl
  · rw [e, sub_l 1 1 3 rfl h (by decide) (by decide), h]; rfl
  · rw [e, sub_l 1 1 4 rfl h (by decide) (by decide), h]; rfl
  · rw [e, h]; rfl
  · rw [e, h]; rfl
  · rw [if_neg h0, if_neg (by omega), if_neg h5, if_neg h6]; rfl
theorem ring_ix {o : Nat} {x : Int32} {k : Int} (ho : o < 400) (hx : x.toInt = o + k) (h0 : 0 ≤ k) (h1 : k ≤ 400) : (x - x / 400 * 400).toInt = ((o + k.toNat) % 400 : Nat) := by
  have e := rem_ti (a := x) (b := 400) (by rw [hx]; omega) (by decide)
  rw [e, hx]
  show ((o : Int) + k) % 400 = _
  omega
theorem s_tell (hw : WF S) (hcc : CIc S I) : PI ((d + 1), 23, 0, [some (.ref 53), some (.int a1), some (.int a2)], [], (xSH L dr tl, I, J)) (ansChange S a1.toInt a2.toInt) (xSH L dr tl, I, J) := by
  have hn := hw.2.2.2.2.2.2.2.2.2.1
  obtain ⟨hc1, o, ho, hc2, hc3⟩ := hcc
  refine w23_0 (brz lt0 (fun h => ⟨-1, rfl, ?_, rfl⟩) (fun h => brz lt_ti (fun h1 => brz lt0 (fun h2 => ⟨-1, rfl, ?_, rfl⟩) (fun h2 => brz (lt_ti (b := 4)) (fun h3 => ?_) (fun h3 => ⟨-1, rfl, ?_, rfl⟩))) (fun h1 => ⟨-1, rfl, ?_, rfl⟩)))
  · rw [ansChange, if_neg (by omega)]; rfl
  · rw [hc1] at h1
    rw [ansChange, if_pos ⟨by omega, h1⟩, if_neg (by omega), if_neg (by omega), if_neg (by omega), if_neg (by omega)]; rfl
  · rw [hc1] at h1
    have h3' : a2.toInt < 4 := h3
    obtain ⟨g0, g1, g2, g3⟩ := hc3 a1.toInt.toNat (by omega)
    have e1 : (I 53 1 + a1).toInt = o + a1.toInt := by rw [add_ti (by rw [hc2]; omega) (by rw [hc2]; omega), hc2]
    have e2 := ring_ix (x := I 53 1 + a1) (k := a1.toInt) ho e1 (by omega) (by omega)
    have e3 : ((I 53 1 + a1 - (I 53 1 + a1) / 400 * 400) * 4).toInt = (((o + a1.toInt.toNat) % 400 * 4 : Nat) : Int) := by
      rw [mul_ti (by rw [e2]; show _ ≤ (((o + a1.toInt.toNat) % 400 : Nat) : Int) * 4; omega) (by rw [e2]; show (((o + a1.toInt.toNat) % 400 : Nat) : Int) * 4 < _; omega), e2]
      show (((o + a1.toInt.toNat) % 400 : Nat) : Int) * 4 = _
      omega
    have e4 : ((I 53 1 + a1 - (I 53 1 + a1) / 400 * 400) * 4 + a2).toInt = (((o + a1.toInt.toNat) % 400 * 4 + a2.toInt.toNat : Nat) : Int) := by rw [add_ti (by rw [e3]; omega) (by rw [e3]; omega), e3]; omega
    refine ⟨by rw [xin_iff, e4]; omega, _, rfl, ?_, rfl⟩
    rw [xIx_ti, e4, Int.toNat_natCast, ansChange, if_pos ⟨by omega, h1⟩]
    rcases (show a2.toInt = 0 ∨ a2.toInt = 1 ∨ a2.toInt = 2 ∨ a2.toInt = 3 by omega) with z | z | z | z
    · rw [z, if_pos rfl]; exact g0
    · rw [z, if_neg (by decide), if_pos rfl]; exact g1
    · rw [z, if_neg (by decide), if_neg (by decide), if_pos rfl]; exact g2
    · rw [z, if_neg (by decide), if_neg (by decide), if_neg (by decide), if_pos rfl]; exact g3
  · rw [hc1] at h1
    have h3' : ¬ a2.toInt < 4 := h3
    rw [ansChange, if_pos ⟨by omega, h1⟩, if_neg (by omega), if_neg (by omega), if_neg (by omega), if_neg (by omega)]; rfl
  · rw [hc1] at h1; rw [ansChange, if_neg (by omega)]; rfl
theorem c_change (hw : WF S) (hcc : CIc S I) : PI ((d + 2), 179, 0, [some (.ref 2), some (.int a1), some (.int a2)], [], (xSH L dr tl, I, J)) (ansChange S a1.toInt a2.toInt) (xSH L dr tl, I, J) := w179_0 (s_changes.v ((s_tell hw hcc).u fun r e => ⟨r, rfl, e, rfl⟩))
theorem m_change (hw : WF S) (hcc : MIc S I) : PI ((d + 2), 281, 0, [some (.ref 71), some (.int a1), some (.int a2), none], [], (xSH L dr tl, I, J)) (ansChange S a1.toInt a2.toInt) (xSH L dr tl, I, J) := by
  have hn := hw.2.2.2.2.2.2.2.2.2.1
  obtain ⟨hc1, o, ho, hc2, hc3⟩ := hcc
  refine w281_0 (m_isIn.u (fun g => br1 ?_) (fun g => br0 ⟨-1, rfl, ?_, rfl⟩))
  · rw [t64, t64, sub1 (by omega), hc1] at g
    have g1 : (0 : Int) ≤ a1.toInt := g.1
    have g2 := g.2
    have hk : 0 ≤ a1.toInt ∧ a1.toInt < sNC S := ⟨g1, by omega⟩
    obtain ⟨k0, k1, k2⟩ := hc3 a1.toInt.toNat (by omega)
    have hs := (hn.2.2 a1.toInt.toNat (by omega)).2.2.1
    have hs0 : 0 ≤ S 22 a1.toInt.toNat := by obtain ⟨l, p, h1, h2⟩ := hs; have := isP_b hw h1; omega
    have e1 : (I 71 66 + a1).toInt = o + a1.toInt := by rw [add_ti (by rw [hc2]; omega) (by rw [hc2]; omega), hc2]
    have e2 := ring_ix (x := I 71 66 + a1) (k := a1.toInt) ho e1 (by omega) (by omega)
    have hx : xin (I 71 66 + a1 - (I 71 66 + a1) / 400 * 400) 400 = true := by rw [xin_iff, e2]; omega
    have hi : xIx (I 71 66 + a1 - (I 71 66 + a1) / 400 * 400) = (o + a1.toInt.toNat) % 400 := by rw [xIx_ti, e2, Int.toNat_natCast]
    rw [hi]
    refine brz (eqL 0 0 rfl) (fun h => ⟨hx, _, rfl, ?_, rfl⟩) (fun h0 => brz (eqL 1 1 rfl) (fun h => ⟨hx, _, rfl, ?_, rfl⟩) (fun h1 => brz (eqL 2 2 rfl) (fun h => ⟨hx, _, rfl, ?_, rfl⟩) (fun h2 => brz (eqL 3 3 rfl) (fun h => ⟨hx, _, rfl, ?_, rfl⟩) (fun h3 => ⟨-1, rfl, ?_, rfl⟩))))
    all_goals (unfold ansChange; rw [if_pos hk])
    · rw [k0, if_pos h]
    · rw [div_ti (by rw [k1]; exact hs0) (by decide), k1, if_neg h0, if_pos h]; rfl
    · rw [rem_ti (by rw [k1]; exact hs0) (by decide), k1, if_neg h0, if_neg h1, if_pos h]; rfl
    · rw [k2, if_neg h0, if_neg h1, if_neg h2, if_pos h]
    · rw [if_neg h0, if_neg h1, if_neg h2, if_neg h3]; rfl
  · rw [t64, t64, sub1 (by omega), hc1] at g
    have g' : ¬ ((0 : Int) ≤ a1.toInt ∧ a1.toInt ≤ sNC S - 1) := g
    rw [ansChange, if_neg (by omega)]; rfl
end HAS
section DONE2
variable {L d : Nat} {S : aS} {a1 a2 a3 : Int32}
theorem call_has : Call L (d + 6) 164 258 [.int a1] [.int a1] S := Call.ro (fun _ _ _ _ h => c_has h.cb h.2.2.2.2.2.2.1) (fun _ _ _ _ h => m_has h.mb h.2.2.2.2.1)
theorem call_change : Call L (d + 6) 179 281 [.int a1, .int a2] [.int a1, .int a2] S := Call.ro (fun _ _ _ _ h => c_change h.1 h.2.2.2.2.2.2.1) (fun _ _ _ _ h => m_change h.1 h.2.2.2.2.1)
end DONE2
