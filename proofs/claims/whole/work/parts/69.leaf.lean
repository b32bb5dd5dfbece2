/-! ===== leaf: the reference's side ===== -/
section LEAF
variable {S : aS} {L d dr tl : Nat} {I : Nat → Nat → Int32} {J : Nat → Nat → Int64} {a1 a2 a3 : Int32}
theorem leaf_loop (hm : MB S I J) (hl : isL S a1.toInt) : ∀ (m k : Nat) (c s p : Int32), (k + m : Nat) = (plc S a1.toInt).toNat → p.toInt = 64 * a1.toInt + k → c.toInt = maxI (fun p => S 16 (slot a1.toInt p)) k → s.toInt = sumI (fun p => S 16 (slot a1.toInt p)) k → PI ((d + 3), 261, 21, [some (.ref 71), some (.int a1), some (.int a2), some (.int c), some (.int s), some (.int p)], [], (xSH L dr tl, I, J)) (ansLeaf S a1.toInt a2.toInt) (xSH L dr tl, I, J) := by
  have hpl := plc_le hm.1 a1.toInt
  have hnl := hm.1.2.2.1.2.1
  have hl1 := hl.1
  have hl2 := hl.2
  have ep : plc S a1.toInt = S 5 a1.toInt.toNat := by rw [plc, if_pos hl]
  have e64 : (64 * a1).toInt = 64 * a1.toInt := mul_ti (by show _ ≤ 64 * a1.toInt; omega) (by show 64 * a1.toInt < _; omega)
  have bound : ∀ r : Int32, r.toInt = S 5 a1.toInt.toNat → (64 * a1 + r).toInt = 64 * a1.toInt + plc S a1.toInt := fun r hr => by rw [add_ti (by rw [e64]; omega) (by rw [e64]; omega), e64, hr, ep]
  intro m
  induction m with
  | zero =>
    intro k c s p hk hp hcn hsn
    have hk' : (plc S a1.toInt).toNat = k := by omega
    refine w261_21 ((m_length hm.1 hm.2.1 hl).u fun r hr => ⟨fun h => ?_, fun h => brz (eqL 0 0 rfl) (fun h => (m_length hm.1 hm.2.1 hl).u fun r e => ⟨r, rfl, ?_, rfl⟩) (fun h0 => brz (eqL 1 1 rfl) (fun h => (m_count hm hl).u fun r e => ⟨r, rfl, ?_, rfl⟩) (fun h1 => brz (eqL 2 2 rfl) (fun h => (m_count hm hl).u fun r e => ⟨r, rfl, ?_, rfl⟩) (fun h2 => brz (eqL 3 3 rfl) (fun h => (m_count hm hl).u fun r e => ⟨r, rfl, ?_, rfl⟩) (fun h3 => brz (eqL 4 4 rfl) (fun h => (m_count hm hl).u fun r e => ⟨r, rfl, ?_, rfl⟩) (fun h4 => brz (eqL 5 5 rfl) (fun h => ⟨c, rfl, ?_, rfl⟩) (fun h5 => brz (eqL 6 6 rfl) (fun h => ⟨s, rfl, ?_, rfl⟩) (fun h6 => ⟨-1, rfl, ?_, rfl⟩)))))))⟩)
    · rw [lt_ti, bound r hr, hp] at h; omega
    all_goals (unfold ansLeaf; rw [if_pos hl])
    · rw [e, if_pos h, ep]
    · rw [e, sub_l 1 1 1 rfl h (by decide) (by decide), h]; rfl
    · rw [e, sub_l 1 1 2 rfl h (by decide) (by decide), h]; rfl
    · rw [e, sub_l 1 1 3 rfl h (by decide) (by decide), h]; rfl
    · rw [e, sub_l 1 1 4 rfl h (by decide) (by decide), h]; rfl
    · rw [hcn, hk', h]; rfl
    · rw [hsn, hk', h]; rfl
    · rw [if_neg h0, if_neg (by omega), if_neg h5, if_neg h6]; rfl
  | succ m ih =>
    intro k c s p hk hp hcn hsn
    have hb := sumI_b (f := fun p => S 16 (slot a1.toInt p)) (B := 99) k (fun i hi => eyes_b hm.1 (by omega))
    have e1 : (p + 1).toInt = 64 * a1.toInt + ((k + 1 : Nat) : Int) := by rw [add1 (by omega) (by omega), hp]; omega
    have hkl : (k : Int) < plc S a1.toInt := by omega
    have hP : isP S a1.toInt k := plc_lt hkl
    have hx : xin p 512 = true := by rw [xin_iff, hp]; omega
    have hs : xIx p = slot a1.toInt k := by rw [xIx_ti, hp]; rfl
    have g2 : (I 111 (xIx p)).toInt = S 16 (slot a1.toInt k) := by rw [hs]; exact (hm.2.2.2.1 a1.toInt k hP).2.1
    have he := eyes_b hm.1 hkl
    have es : (s + I 111 (xIx p)).toInt = sumI (fun p => S 16 (slot a1.toInt p)) (k + 1) := by rw [add_ti (by omega) (by omega), hsn, g2]; rfl
    refine w261_21 ((m_length hm.1 hm.2.1 hl).u fun r hr => ⟨fun h => ⟨hx, brz lt_ti (fun q => ⟨hx, hx, ih (k + 1) _ _ _ (by omega) e1 ?_ es⟩) (fun q => ⟨hx, ih (k + 1) _ _ _ (by omega) e1 ?_ es⟩)⟩, fun h => ?_⟩)
    · rw [g2, hcn] at q; rw [g2]; show _ = max (maxI _ k) (S 16 (slot a1.toInt k)); rw [Int.max_def, if_pos (by omega)]
    · rw [g2, hcn] at q; rw [hcn]; show _ = max (maxI _ k) (S 16 (slot a1.toInt k)); rw [Int.max_def]; split <;> omega
    · rw [lt_ti, bound r hr, hp] at h; omega
theorem m_leaf (hm : MB S I J) : PI ((d + 3), 261, 0, [some (.ref 71), some (.int a1), some (.int a2), none, none, none], [], (xSH L dr tl, I, J)) (ansLeaf S a1.toInt a2.toInt) (xSH L dr tl, I, J) := by
  have hnl := hm.1.2.2.1.2.1
  refine w261_0 ((m_isLeaf hm.1 hm.2.1).u (fun hl => br1 ?_) (fun q => br0 ⟨-1, rfl, by rw [ansLeaf, if_neg q]; rfl, rfl⟩))
  have hl1 := hl.1
  have hl2 := hl.2
  have e64 : (64 * a1).toInt = 64 * a1.toInt := mul_ti (by show _ ≤ 64 * a1.toInt; omega) (by show 64 * a1.toInt < _; omega)
  exact leaf_loop hm hl (plc S a1.toInt).toNat 0 0 0 (64 * a1) (by omega) (by rw [e64]; omega) rfl rfl
end LEAF
section DONE3
variable {L d : Nat} {S : aS} {a1 a2 a3 : Int32}
theorem call_leaf : Call L (d + 6) 166 261 [.int a1, .int a2] [.int a1, .int a2] S := Call.ro (fun _ _ _ _ h => c_leaf h.cb) (fun _ _ _ _ h => m_leaf h.mb)
end DONE3
