/-! ===== feed: twenty bytes more on the tape ===== -/
theorem by24 (a : Int32) : ((Int32.toUInt32 a >>> (Int32.toUInt32 24 &&& Int32.toUInt32 31)).toInt32 &&& (255 : Int32)) = ((a >>> (24 : Int32)) &&& (255 : Int32)) := by
  apply Int32.toBitVec_inj.mp
  show (a.toBitVec >>> ((24#32 &&& 31#32) % 32#32)) &&& 255#32 = (a.toBitVec.sshiftRight' ((24#32).smod 32#32)) &&& 255#32
  have e1 : (24#32 &&& 31#32) % 32#32 = 24#32 := by decide
  have e2 : (24#32).smod 32#32 = 24#32 := by decide
  rw [e1, e2]
  apply BitVec.eq_of_getLsbD_eq
  intro i hi
  simp only [BitVec.getLsbD_and]
  by_cases h : i < 8
  · congr 1
    simp [BitVec.sshiftRight', BitVec.getLsbD_sshiftRight]
    rw [if_pos (by omega), decide_eq_false (by omega)]; rfl
  · have : (255#32).getLsbD i = false := by
      have : ∀ i, i < 32 → ¬ i < 8 → (255#32).getLsbD i = false := by decide
      exact this i hi h
    rw [this, Bool.and_false, Bool.and_false]
theorem by16 (a : Int32) : ((Int32.toUInt32 a >>> (Int32.toUInt32 16 &&& Int32.toUInt32 31)).toInt32 &&& (255 : Int32)) = ((a >>> (16 : Int32)) &&& (255 : Int32)) := by
  apply Int32.toBitVec_inj.mp
  show (a.toBitVec >>> ((16#32 &&& 31#32) % 32#32)) &&& 255#32 = (a.toBitVec.sshiftRight' ((16#32).smod 32#32)) &&& 255#32
  have e1 : (16#32 &&& 31#32) % 32#32 = 16#32 := by decide
  have e2 : (16#32).smod 32#32 = 16#32 := by decide
  rw [e1, e2]
  apply BitVec.eq_of_getLsbD_eq
  intro i hi
  simp only [BitVec.getLsbD_and]
  by_cases h : i < 8
  · congr 1
    simp [BitVec.sshiftRight', BitVec.getLsbD_sshiftRight]
    rw [if_pos (by omega), decide_eq_false (by omega)]; rfl
  · have : (255#32).getLsbD i = false := by
      have : ∀ i, i < 32 → ¬ i < 8 → (255#32).getLsbD i = false := by decide
      exact this i hi h
    rw [this, Bool.and_false, Bool.and_false]
theorem by8 (a : Int32) : ((Int32.toUInt32 a >>> (Int32.toUInt32 8 &&& Int32.toUInt32 31)).toInt32 &&& (255 : Int32)) = ((a >>> (8 : Int32)) &&& (255 : Int32)) := by
  apply Int32.toBitVec_inj.mp
  show (a.toBitVec >>> ((8#32 &&& 31#32) % 32#32)) &&& 255#32 = (a.toBitVec.sshiftRight' ((8#32).smod 32#32)) &&& 255#32
  have e1 : (8#32 &&& 31#32) % 32#32 = 8#32 := by decide
  have e2 : (8#32).smod 32#32 = 8#32 := by decide
  rw [e1, e2]
  apply BitVec.eq_of_getLsbD_eq
  intro i hi
  simp only [BitVec.getLsbD_and]
  by_cases h : i < 8
  · congr 1
    simp [BitVec.sshiftRight', BitVec.getLsbD_sshiftRight]
    rw [if_pos (by omega), decide_eq_false (by omega)]; rfl
  · have : (255#32).getLsbD i = false := by
      have : ∀ i, i < 32 → ¬ i < 8 → (255#32).getLsbD i = false := by decide
      exact this i hi h
    rw [this, Bool.and_false, Bool.and_false]
theorem by0 (a : Int32) : ((Int32.toUInt32 a >>> (Int32.toUInt32 0 &&& Int32.toUInt32 31)).toInt32 &&& (255 : Int32)) = ((a >>> (0 : Int32)) &&& (255 : Int32)) := by
  apply Int32.toBitVec_inj.mp
  show (a.toBitVec >>> ((0#32 &&& 31#32) % 32#32)) &&& 255#32 = (a.toBitVec.sshiftRight' ((0#32).smod 32#32)) &&& 255#32
  have e1 : (0#32 &&& 31#32) % 32#32 = 0#32 := by decide
  have e2 : (0#32).smod 32#32 = 0#32 := by decide
  rw [e1, e2]
  apply BitVec.eq_of_getLsbD_eq
  intro i hi
  simp only [BitVec.getLsbD_and]
  by_cases h : i < 8
  · congr 1
    simp [BitVec.sshiftRight', BitVec.getLsbD_sshiftRight]
    
  · have : (255#32).getLsbD i = false := by
      have : ∀ i, i < 32 → ¬ i < 8 → (255#32).getLsbD i = false := by decide
      exact this i hi h
    rw [this, Bool.and_false, Bool.and_false]
theorem and255 (a : Int32) : 0 ≤ (a &&& (255 : Int32)).toInt ∧ (a &&& (255 : Int32)).toInt ≤ 255 := by
  have h : (a &&& (255 : Int32)).toInt = ((a.toBitVec &&& 255#32).toNat : Int) := by
    show (a.toBitVec &&& 255#32).toInt = _
    rw [BitVec.toInt_eq_toNat_of_lt]
    have : (a.toBitVec &&& 255#32).toNat ≤ 255 := by rw [BitVec.toNat_and]; exact Nat.and_le_right
    omega
  have h2 : (a.toBitVec &&& 255#32).toNat ≤ 255 := by rw [BitVec.toNat_and]; exact Nat.and_le_right
  rw [h]; omega
theorem shk : ∀ k : Nat, k < 20 → (8 * (3 - (Int32.ofNat k - Int32.ofNat k / 4 * 4)) &&& 31 : Int32) = (if k % 4 = 0 then 24 else if k % 4 = 1 then 16 else if k % 4 = 2 then 8 else 0 : Int32) := by decide
def tpush (S : aS) (v : Int) : aS := sset (sset S 1 (sTp S).toNat v) 0 0 (sTp S + 1)
def shOf (k : Nat) : Int32 := if k % 4 = 0 then 24 else if k % 4 = 1 then 16 else if k % 4 = 2 then 8 else 0
def byt (a : Int32) (k : Nat) : Int32 := (a >>> shOf k) &&& 255
def wd (a1 a2 a3 a4 a5 : Int32) (k : Nat) : Int32 := if k < 4 then a1 else if k < 8 then a2 else if k < 12 then a3 else if k < 16 then a4 else a5
def fS (S : aS) (w : Nat → Int32) : Nat → aS
  | 0 => S
  | k + 1 => tpush (fS S w k) (byt (w k) k).toInt
section FEED
variable {S : aS} {L d dr tl : Nat} {I : Nat → Nat → Int32} {J : Nat → Nat → Int64} {a1 a2 a3 a4 a5 : Int32}
theorem byt_b (a : Int32) (k : Nat) : 0 ≤ (byt a k).toInt ∧ (byt a k).toInt ≤ 255 := and255 _
theorem fS_n {w : Nat → Int32} : ∀ k : Nat, sTp (fS S w k) = sTp S + k := by
  intro k
  induction k with
  | zero => show sTp S = sTp S + ((0 : Nat) : Int); omega
  | succ k ih => show sTp (fS S w k) + 1 = _; rw [ih]; omega
theorem WF.tpushed {v : Int} (h : WF S) (hr : sTp S < 1600) (hv : 0 ≤ v ∧ v ≤ 255) : WF (tpush S v) := by
  obtain ⟨g1, g2, g3, g4, g5, g6, g7, g8, g9, g10, g11, g12, g13⟩ := h
  refine ⟨⟨?_, ?_, fun j hj => ?_⟩, g2, g3, g4, g5, g6, g7, g8, g9, g10, g11, g12, g13⟩
  · show 0 ≤ sTp S + 1; omega
  · show sTp S + 1 ≤ 1600; omega
  · have hj' : (j : Int) < sTp S + 1 := hj
    show 0 ≤ sset S 1 (sTp S).toNat v 1 j ∧ sset S 1 (sTp S).toNat v 1 j ≤ 255
    by_cases e : j = (sTp S).toNat
    · rw [e, sg]; exact hv
    · rw [sgn e]; exact g1.2.2 j (by omega)
theorem CInv.tpushed {x : Int32} (h : CInv S dr tl I J) (hr : sTp S < 1600) (hv : 0 ≤ x.toInt ∧ x.toInt ≤ 255) : CInv (tpush S x.toInt) dr tl (xwI (xwI I 4 (xIx (I 3 1)) x) 3 1 (I 3 1 + 1)) J := by
  obtain ⟨g1, g2, g3, g4, g5, g6, g7, g8, g9, g10, g11, g12⟩ := h
  have t0 := g1.1.1
  have g8' : CIt (tpush S x.toInt) (xwI (xwI I 4 (xIx (I 3 1)) x) 3 1 (I 3 1 + 1)) := by
    refine ⟨?_, fun j hj => ?_⟩
    · show (I 3 1 + 1).toInt = sTp S + 1
      rw [add1 (by rw [g8.1]; omega) (by rw [g8.1]; omega), g8.1]
    · have hj' : (j : Int) < sTp S + 1 := hj
      show (xwI I 4 (xIx (I 3 1)) x 4 j).toInt = sset S 1 (sTp S).toNat x.toInt 1 j
      rw [xIx_ti, g8.1]
      by_cases e : j = (sTp S).toNat
      · rw [e, sg, xg]
      · rw [sgn e, xgn e]; exact g8.2 j (by omega)
  rcases g3 with ⟨rfl, rfl⟩ | ⟨rfl, rfl⟩
  · exact ⟨g1.tpushed hr hv, g2, Or.inl ⟨rfl, rfl⟩, g4, g5, g6, g7, g8', g9, g10, g11, g12⟩
  · exact ⟨g1.tpushed hr hv, g2, Or.inr ⟨rfl, rfl⟩, g4, g5, g6, g7, g8', g9, g10, g11, g12⟩
theorem MInv.tpushed {x : Int32} (h : MInv S I J) (hr : sTp S < 1600) (hv : 0 ≤ x.toInt ∧ x.toInt ≤ 255) : MInv (tpush S x.toInt) (xwI (xwI I 72 (xIx (I 71 1)) x) 71 1 (I 71 1 + 1)) J := by
  obtain ⟨g1, g2, g3, g4, g5, g6, g7, g8, g9, g10⟩ := h
  have t0 := g1.1.1
  have g6' : MIt (tpush S x.toInt) (xwI (xwI I 72 (xIx (I 71 1)) x) 71 1 (I 71 1 + 1)) := by
    refine ⟨?_, fun j hj => ?_⟩
    · show (I 71 1 + 1).toInt = sTp S + 1
      rw [add1 (by rw [g6.1]; omega) (by rw [g6.1]; omega), g6.1]
    · have hj' : (j : Int) < sTp S + 1 := hj
      show (xwI I 72 (xIx (I 71 1)) x 72 j).toInt = sset S 1 (sTp S).toNat x.toInt 1 j
      rw [xIx_ti, g6.1]
      by_cases e : j = (sTp S).toNat
      · rw [e, sg, xg]
      · rw [sgn e, xgn e]; exact g6.2 j (by omega)
  exact ⟨g1.tpushed hr hv, g2, g3, g4, g5, g6', g7, g8, g9, wordsAt_I (wordsAt_I g10 (by decide)) (by decide)⟩
theorem c_push {x v : Int32} {R : (Nat → Nat → Int32) → (Nat → Nat → Int64) → Prop} (q : CInv S dr tl I J) (hr : sTp S < 1600) (e : (x &&& 255) = v) (hv : 0 ≤ v.toInt ∧ v.toInt ≤ 255) (K : ∀ I1 : Nat → Nat → Int32, keepM I I1 J J → CInv (tpush S v.toInt) dr tl I1 J → R I1 J) : WP ((d + 1), 114, 0, [some (.ref 3), some (.int x)], [], (xSH L dr tl, I, J)) (fun v M => ∃ (I2 : Nat → Nat → Int32) (J2 : Nat → Nat → Int64), v = none ∧ M = (xSH L dr tl, I2, J2) ∧ R I2 J2) := by
  have h8 := q.2.2.2.2.2.2.2.1.1
  have t0 := q.1.1.1
  refine w114_0 (Or.inl rfl) (brz lt_ti (fun h => ⟨?_, _, _, rfl, rfl, ?_⟩) (fun h => ?_))
  · rw [xin_iff, h8]; omega
  · rw [e]; exact K _ ((keepM_I (by decide)).tr (keepM_I (by decide))) (q.tpushed hr hv)
  · exact absurd (show (I 3 1).toInt < 1600 by rw [h8]; exact hr) h
theorem c_word (a : Int32) {R : Option Value → xMem → Prop} (q : CInv S dr tl I J) (hr : sTp S + 4 ≤ 1600) (K : ∀ I1 : Nat → Nat → Int32, keepM I I1 J J → CInv (tpush (tpush (tpush (tpush S (byt a 0).toInt) (byt a 1).toInt) (byt a 2).toInt) (byt a 3).toInt) dr tl I1 J → R none (xSH L dr tl, I1, J)) : WP ((d + 2), 113, 0, [some (.ref 3), some (.int a), none], [], (xSH L dr tl, I, J)) R := by
  have n1 : sTp (tpush S (byt a 0).toInt) = sTp S + 1 := rfl
  have n2 : sTp (tpush (tpush S (byt a 0).toInt) (byt a 1).toInt) = sTp S + 1 + 1 := rfl
  have n3 : sTp (tpush (tpush (tpush S (byt a 0).toInt) (byt a 1).toInt) (byt a 2).toInt) = sTp S + 1 + 1 + 1 := rfl
  refine w113_0 (Or.inl rfl) (w113_3 (Or.inl rfl) ⟨fun h => absurd h (by decide), fun _ => c_push (v := byt a 0) q (by omega) (by24 a) (byt_b a 0) fun I1 k1 q1 => ?_⟩)
  rw [show ((24 : Int32) + (-8)) = 16 by decide]
  refine w113_3 (Or.inl rfl) ⟨fun h => absurd h (by decide), fun _ => c_push (v := byt a 1) q1 (by omega) (by16 a) (byt_b a 1) fun I2 k2 q2 => ?_⟩
  rw [show ((16 : Int32) + (-8)) = 8 by decide]
  refine w113_3 (Or.inl rfl) ⟨fun h => absurd h (by decide), fun _ => c_push (v := byt a 2) q2 (by omega) (by8 a) (byt_b a 2) fun I3 k3 q3 => ?_⟩
  rw [show ((8 : Int32) + (-8)) = 0 by decide]
  refine w113_3 (Or.inl rfl) ⟨fun h => absurd h (by decide), fun _ => c_push (v := byt a 3) q3 (by omega) (by0 a) (byt_b a 3) fun I4 k4 q4 => ?_⟩
  rw [show ((0 : Int32) + (-8)) = -8 by decide]
  exact w113_3 (Or.inl rfl) ⟨fun _ => K I4 (((k1.tr k2).tr k3).tr k4) q4, fun h => absurd (by decide) h⟩
theorem lit20 : ∀ k : Nat, k < 20 → ((Int32.ofNat k < 20 ↔ k < 20) ∧ (Int32.ofNat k < 4 ↔ k < 4) ∧ (Int32.ofNat k < 8 ↔ k < 8) ∧ (Int32.ofNat k < 12 ↔ k < 12) ∧ (Int32.ofNat k < 16 ↔ k < 16) ∧ Int32.ofNat k + 1 = Int32.ofNat (k + 1)) := by decide
theorem m_feed_loop (h20 : sTp S + 20 ≤ 1600) : ∀ (m k : Nat) (I : Nat → Nat → Int32), k + m = 20 → MInv (fS S (wd a1 a2 a3 a4 a5) k) I J → WP ((d + 1), 197, 18, [some (.ref 71), some (.int a1), some (.int a2), some (.int a3), some (.int a4), some (.int a5), some (.int (Int32.ofNat k)), none], [], (xSH L dr tl, I, J)) (fun v M => ∃ (r : Int32) (I1 : Nat → Nat → Int32) (J1 : Nat → Nat → Int64), v = some (.int r) ∧ r.toInt = sTp S + 20 ∧ M = (xSH L dr tl, I1, J1) ∧ keepC I I1 J J1 ∧ MInv (fS S (wd a1 a2 a3 a4 a5) 20) I1 J1) := by
  intro m
  induction m with
  | zero =>
    intro k I hk q
    have hk' : k = 20 := by omega
    subst hk'
    refine w197_18 ⟨fun h => absurd h (by decide), fun _ => ⟨_, I, J, rfl, ?_, rfl, keepC_refl, q⟩⟩
    rw [q.2.2.2.2.2.1.1, fS_n]; rfl
  | succ m ih =>
    intro k I hk q
    have hk' : k < 20 := by omega
    obtain ⟨l1, l2, l3, l4, l5, l6⟩ := lit20 k hk'
    have h6 := q.2.2.2.2.2.1.1
    have hn := fS_n (S := S) (w := wd a1 a2 a3 a4 a5) k
    have t0 := q.1.1.1
    have one : ∀ a : Int32, wd a1 a2 a3 a4 a5 k = a → (xin (I 71 1) 1600 = true ∧ WP ((d + 1), 197, 18, [some (.ref 71), some (.int a1), some (.int a2), some (.int a3), some (.int a4), some (.int a5), some (.int (Int32.ofNat k + 1)), none], [], (xSH L dr tl, (xwI (xwI I 72 (xIx (I 71 1)) ((a >>> (8 * (3 - (Int32.ofNat k - Int32.ofNat k / 4 * 4)) &&& 31)) &&& 255)) 71 1 (I 71 1 + 1)), J)) (fun v M => ∃ (r : Int32) (I1 : Nat → Nat → Int32) (J1 : Nat → Nat → Int64), v = some (.int r) ∧ r.toInt = sTp S + 20 ∧ M = (xSH L dr tl, I1, J1) ∧ keepC I I1 J J1 ∧ MInv (fS S (wd a1 a2 a3 a4 a5) 20) I1 J1)) := fun a ea => by
      refine ⟨by rw [xin_iff, h6, hn]; omega, ?_⟩
      rw [l6, shk k hk']
      have q' : MInv (fS S (wd a1 a2 a3 a4 a5) (k + 1)) (xwI (xwI I 72 (xIx (I 71 1)) (byt a k)) 71 1 (I 71 1 + 1)) J := by
        rw [← ea]; exact q.tpushed (by omega) (byt_b _ _)
      refine WP.mono (ih (k + 1) _ (by omega) q') (fun v M z => ?_)
      obtain ⟨r, I1, J1, z1, z2, z3, z4, z5⟩ := z
      exact ⟨r, I1, J1, z1, z2, z3, ((keepC_I (by decide)).tr (keepC_I (by decide))).tr z4, z5⟩
    refine w197_18 (brz l1 (fun _ => brz l2 (fun g => one a1 ?_) (fun g => brz l3 (fun g1 => one a2 ?_) (fun g1 => brz l4 (fun g2 => one a3 ?_) (fun g2 => brz l5 (fun g3 => one a4 ?_) (fun g3 => one a5 ?_))))) (fun h => absurd hk' h))
    · rw [wd, if_pos g]
    · rw [wd, if_neg g, if_pos g1]
    · rw [wd, if_neg g, if_neg g1, if_pos g2]
    · rw [wd, if_neg g, if_neg g1, if_neg g2, if_pos g3]
    · rw [wd, if_neg g, if_neg g1, if_neg g2, if_neg g3]
theorem call_feed : Call L (d + 6) 160 197 [.int a1, .int a2, .int a3, .int a4, .int a5] [.int a1, .int a2, .int a3, .int a4, .int a5] S := by
  have e20 : ∀ x : Int32, x.toInt = sTp S → 0 ≤ sTp S → sTp S ≤ 1600 → (1600 < x + 20 ↔ 1600 < sTp S + 20) := fun x h h0 h1 => by
    have z : (x + 20).toInt = x.toInt + 20 := add_ti (by show _ ≤ x.toInt + 20; omega) (by show x.toInt + 20 < _; omega)
    rw [lt_ti, z, h]; exact Iff.rfl
  by_cases h : sTp S + 20 ≤ 1600
  · refine Call.st (fS S (wd a1 a2 a3 a4 a5) 20) (sTp S + 20) (fun dr tl I J q => ?_) (fun dr tl I J q => ?_)
    · have t0 := q.1.1.1
      refine w160_0 (w112_0 (Or.inl rfl) (brz (e20 _ q.2.2.2.2.2.2.2.1.1 t0 (by omega)) (fun z => by omega) (fun _ => ⟨1, I, J, rfl, rfl, br1 (c_word a1 q (by omega) fun I1 k1 q1 => ⟨I1, J, rfl, rfl, c_word a2 (S := fS S (wd a1 a2 a3 a4 a5) 4) q1 ?_ fun I2 k2 q2 => ⟨I2, J, rfl, rfl, c_word a3 (S := fS S (wd a1 a2 a3 a4 a5) 8) q2 ?_ fun I3 k3 q3 => ⟨I3, J, rfl, rfl, c_word a4 (S := fS S (wd a1 a2 a3 a4 a5) 12) q3 ?_ fun I4 k4 q4 => ⟨I4, J, rfl, rfl, c_word a5 (S := fS S (wd a1 a2 a3 a4 a5) 16) q4 ?_ fun I5 k5 q5 => ⟨I5, J, rfl, rfl, w116_0 (Or.inl rfl) ⟨_, I5, J, rfl, rfl, _, I5, J, rfl, ?_, rfl, (((k1.tr k2).tr k3).tr k4).tr k5, q5⟩⟩⟩⟩⟩⟩)⟩)))
      · rw [fS_n]; omega
      · rw [fS_n]; omega
      · rw [fS_n]; omega
      · rw [fS_n]; omega
      · have := q5.2.2.2.2.2.2.2.1.1
        rw [this]
        exact fS_n (S := S) (w := wd a1 a2 a3 a4 a5) 20
    · have t0 := q.1.1.1
      exact w197_0 (brz (e20 _ q.2.2.2.2.2.1.1 t0 (by omega)) (fun z => by omega) (fun _ => m_feed_loop h 20 0 I rfl q))
  · refine Call.st S (-1) (fun dr tl I J q => ?_) (fun dr tl I J q => ?_)
    · have t0 := q.1.1.1
      have t1 := q.1.1.2.1
      exact w160_0 (w112_0 (Or.inl rfl) (brz (e20 _ q.2.2.2.2.2.2.2.1.1 t0 t1) (fun _ => ⟨0, I, J, rfl, rfl, br0 ⟨-1, I, J, rfl, rfl, rfl, keepM_refl, q⟩⟩) (fun z => by omega)))
    · have t0 := q.1.1.1
      have t1 := q.1.1.2.1
      exact w197_0 (brz (e20 _ q.2.2.2.2.2.1.1 t0 t1) (fun _ => ⟨-1, I, J, rfl, rfl, rfl, keepC_refl, q⟩) (fun z => by omega))
end FEED
