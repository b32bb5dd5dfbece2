/-! ===== dries: the class ===== -/
section DRIES
variable {S T : aS} {L d dr tl : Nat} {I : Nat → Nat → Int32} {J : Nat → Nat → Int64} {a1 a2 a3 a4 a5 x : Int32} {r k q p m : Nat} {l : Int} {Q : Option Value → xMem → Prop}
theorem nv_ti : (2147483647 : Int32).toInt = 2147483647 := by decide
theorem s_seenHour (hc : CB S tl I) (h9 : sHr S ≤ 10000) (hr : (r : Int) < sNR S) (e1 : a1.toInt = r) (e2 : a2.toInt = l) (e3 : a3.toInt = q) (hP : isP S l q) : PI ((d + 3), 81, 0, [some (.ref 67), some (.int a1), some (.int a2), some (.int a3), none], [], (xSH L dr tl, I, J)) (seenH S l q r) (xSH L dr tl, I, J) := by
  have hb := isP_b hc.1 hP
  have sb := seat_b hc.1 hr
  have hp := hc.1.2.2.2.1.2.2 r hr
  have hh := hc.1.2.2.2.2.2.2.1.1
  have hrd : isRd S a1.toInt := by rw [e1]; exact ⟨by omega, hr⟩
  have en : a1.toInt.toNat = r := by omega
  refine w81_0 hc.2.1 ((s_seatPlace hc).u fun r1 g1 => (s_seatLeaf hc).u fun r2 g2 => ?_)
  rw [if_pos hrd, en] at g1 g2
  have e4 : (a3 - r1).toInt = q - S 20 r := by rw [sub_ti (by omega) (by omega), e3, g1]
  refine brz eq_ti (fun y => brz lt0 (fun z => ⟨_, rfl, ?_, rfl⟩) (fun z => (s_told hc.2.1).v ((s_looksAt hc.1 hc.2.1 hc.2.2.1 (by omega) (by omega)).u (fun u => br1 ((s_hour hc.2.2.2).u fun r8 g8 => (s_told hc.2.1).v ((s_paceOf hc.1 hc.2.1 hc.2.2.1).u fun r10 g10 => ?_))) (fun u => br0 ⟨_, rfl, ?_, rfl⟩)))) (fun y => ⟨_, rfl, ?_, rfl⟩)
  · rw [seenH_n (fun w => by have := w.2.1; omega)]; exact nv_ti
  · rw [if_pos hrd, en] at g10
    rw [e1, e3] at u
    have c : pT S l q r := ⟨by omega, by omega, u⟩
    have hx := hIx_b hc.1 hr (by omega) c (by omega)
    have e5 : ((a3 - r1) / r10).toInt = hIx S q r := by rw [div_ti (by omega) (by omega), e4, g10]; rfl
    refine ⟨fun w => by rw [eq0] at w; omega, _, rfl, ?_, rfl⟩
    rw [seenH_y c, add1 (by rw [addn (by omega) (by omega) (by omega) (by omega)]; omega) (by rw [addn (by omega) (by omega) (by omega) (by omega)]; omega), addn (by omega) (by omega) (by omega) (by omega), g8, e5]
  · rw [e1, e3] at u
    rw [seenH_n (fun w => u w.2.2)]; exact nv_ti
  · rw [seenH_n (fun w => by have := w.1; omega)]; exact nv_ti
theorem s_eyesBy (hc : CB S tl I) (h9 : sHr S ≤ 10000) (e1 : a1.toInt = l) (e2 : a2.toInt = q) (hP : isP S l q) : ∀ (m k : Nat) (c i : Int32), ((k + m : Nat) : Int) = sNR S → i.toInt = k → c.toInt = cntB (fun r => decide (seenH S l q r ≤ a3.toInt)) k → PI ((d + 4), 80, 6, [some (.ref 67), some (.int a1), some (.int a2), some (.int a3), some (.int c), some (.int i)], [], (xSH L dr tl, I, J)) (cntH S l q a3.toInt) (xSH L dr tl, I, J) := by
  have hN := hc.1.2.2.2.1
  intro m
  induction m with
  | zero =>
    intro k c i hk hi hcn
    refine w80_6 hc.2.1 ((s_told hc.2.1).v ((s_size (sp7 hc.2.1) hc.2.2.1.1.2.2.1).u fun r2 g2 => brz lt_ti (fun z => by omega) (fun _ => ⟨c, rfl, ?_, rfl⟩)))
    rw [hcn]; unfold cntH; rw [show (sNR S).toNat = k by omega]
  | succ m ih =>
    intro k c i hk hi hcn
    have cb := cntB_b (fun r => decide (seenH S l q r ≤ a3.toInt)) k
    have i1 : (i + 1).toInt = ((k + 1 : Nat) : Int) := by rw [add1 (by omega) (by omega), hi]; rfl
    refine w80_6 hc.2.1 ((s_told hc.2.1).v ((s_size (sp7 hc.2.1) hc.2.2.1.1.2.2.1).u fun r2 g2 => brz lt_ti (fun _ => (s_seenHour hc h9 (r := k) (by omega) hi e1 e2 hP).u fun r4 g4 => brz lt_ti (fun y => ih (k + 1) _ _ (by omega) i1 ?_) (fun y => ih (k + 1) _ _ (by omega) i1 ?_)) (fun z => by omega)))
    · simp only [cntB]
      rw [if_neg (fun z => by have := of_decide_eq_true z; omega), hcn]; omega
    · simp only [cntB]
      rw [if_pos (decide_eq_true (by omega)), add1 (by omega) (by omega), hcn]
theorem dry_loop (hc : CB S tl I) (h9 : sHr S ≤ 10000) (e1 : a1.toInt = l) (e2 : a2.toInt = q) (e3 : a3.toInt = S 16 (slot l q)) (hP : isP S l q) : ∀ (m k : Nat) (c i : Int32), ((k + m : Nat) : Int) = sNR S → i.toInt = k → c.toInt = dFold S l q k → PI ((d + 6), 79, 29, [some (.ref 67), some (.int a1), some (.int a2), some (.int a3), some (.int c), some (.int i), none], [], (xSH L dr tl, I, J)) (dFold S l q (sNR S).toNat) (xSH L dr tl, I, J) := by
  have hN := hc.1.2.2.2.1
  intro m
  induction m with
  | zero =>
    intro k c i hk hi hcn
    refine w79_29 hc.2.1 ((s_told hc.2.1).v ((s_size (sp7 hc.2.1) hc.2.2.1.1.2.2.1).u fun r2 g2 => brz lt_ti (fun z => by omega) (fun _ => ⟨c, rfl, ?_, rfl⟩)))
    rw [hcn, show (sNR S).toNat = k by omega]
  | succ m ih =>
    intro k c i hk hi hcn
    have i1 : (i + 1).toInt = ((k + 1 : Nat) : Int) := by rw [add1 (by omega) (by omega), hi]; rfl
    refine w79_29 hc.2.1 ((s_told hc.2.1).v ((s_size (sp7 hc.2.1) hc.2.2.1.1.2.2.1).u fun r2 g2 => brz lt_ti (fun _ => (s_seenHour hc h9 (r := k) (by omega) hi e1 e2 hP).u fun r4 g4 => brz lt_ti (fun y => PI.u (w80_0 (s_eyesBy hc h9 e1 e2 hP (sNR S).toNat 0 0 0 (by omega) rfl rfl)) fun r6 g6 => brz lt_ti (fun z => ih (k + 1) _ _ (by omega) i1 ?_) (fun z => ih (k + 1) _ _ (by omega) i1 ?_)) (fun y => ih (k + 1) _ _ (by omega) i1 ?_)) (fun z => by omega)))
    · rw [g4] at g6
      rw [hcn]; exact (if_neg (fun w => by have := w.2; omega)).symm
    · rw [g4] at g6
      rw [g4]; exact (if_pos ⟨by omega, by omega⟩).symm
    · rw [hcn]; exact (if_neg (fun w => by have := w.1; omega)).symm
theorem s_dryHour (hc : CB S tl I) (h9 : sHr S ≤ 10000) (e1 : a1.toInt = l) (e2 : a2.toInt = q) (hP : isP S l q) : PI ((d + 6), 79, 0, [some (.ref 67), some (.int a1), some (.int a2), none, none, none, none], [], (xSH L dr tl, I, J)) (dH S l q) (xSH L dr tl, I, J) := by
  have hN := hc.1.2.2.2.1
  refine w79_0 ((s_eyesAt hc).u fun r1 g1 => ?_)
  rw [e1, e2, if_pos hP] at g1
  refine brz eq0 (fun y => (s_hour hc.2.2.2).u fun r3 g3 => ⟨r3, rfl, ?_, rfl⟩) (fun y => ?_)
  · rw [g3]; unfold dH; rw [if_pos (by omega)]
  · have e : dH S l q = dFold S l q (sNR S).toNat := by unfold dH; rw [if_neg (by omega)]
    rw [e]
    exact dry_loop hc h9 e1 e2 g1 hP (sNR S).toNat 0 _ 0 (by omega) rfl nv_ti
/-- the latest of the hours in which the signs a .. a + m - 1 are dry -/
noncomputable def dMax (S : aS) (l : Int) (a : Nat) : Nat → Int
  | 0 => sHr S
  | m + 1 => max (dMax S l a m) (dH S l (a + m))
noncomputable def ansDries (S : aS) (l a b : Int) : Int := if isP S l a ∧ isP S l b ∧ a ≤ b then (if dMax S l a.toNat (b - a + 1).toNat = 2147483647 then -1 else dMax S l a.toNat (b - a + 1).toNat) else -1
theorem c_dries_loop (hc : CB S tl I) (h9 : sHr S ≤ 10000) (h2 : 0 ≤ a2.toInt) (h3 : a3.toInt < plc S a1.toInt) {n : Nat} (hn : (n : Int) = a3.toInt - a2.toInt + 1) : ∀ (m k : Nat) (c i : Int32), k + m = n → i.toInt = a2.toInt + k → c.toInt = dMax S a1.toInt a2.toInt.toNat k → PI ((d + 7), 183, 30, [some (.ref 2), some (.int a1), none, some (.int a3), some (.int c), some (.int i)], [], (xSH L dr tl, I, J)) (if dMax S a1.toInt a2.toInt.toNat n = 2147483647 then -1 else dMax S a1.toInt a2.toInt.toNat n) (xSH L dr tl, I, J) := by
  have pb := plc_le hc.1 a1.toInt
  intro m
  induction m with
  | zero =>
    intro k c i hk hi hcn
    have hk' : k = n := by omega
    subst hk'
    refine w183_30 (brz lt_ti (fun _ => brz eq_ti (fun y => ⟨-1, rfl, ?_, rfl⟩) (fun y => ⟨c, rfl, ?_, rfl⟩)) (fun z => by omega))
    · rw [hcn, nv_ti] at y
      rw [if_pos y]; rfl
    · rw [hcn, nv_ti] at y
      rw [if_neg y]; exact hcn
  | succ m ih =>
    intro k c i hk hi hcn
    have i1 : (i + 1).toInt = a2.toInt + ((k + 1 : Nat) : Int) := by rw [add1 (by omega) (by omega), hi]; omega
    have hP : isP S a1.toInt ((a2.toInt.toNat + k : Nat) : Int) := plc_isP.mpr ⟨by omega, by omega⟩
    refine w183_30 (brz lt_ti (fun z => by omega) (fun _ => (s_dryHour hc h9 rfl (q := a2.toInt.toNat + k) (by omega) hP).u fun r3 g3 => s_max.u fun r4 g4 => ih (k + 1) _ _ (by omega) i1 ?_))
    rw [g4, hcn, g3]; rfl
theorem c_dries (q : CInv S dr tl I J) : PI ((d + 8), 183, 0, [some (.ref 2), some (.int a1), some (.int a2), some (.int a3), none, none], [], (xSH L dr tl, I, J)) (ansDries S a1.toInt a2.toInt a3.toInt) (xSH L dr tl, I, J) := by
  have hc := q.cb
  have h9 : sHr S ≤ 10000 := by have := q.2.1.1.2; omega
  refine w183_0 hc.2.1 ((s_told hc.2.1).v ((s_hasSpan hc.1 hc.2.1 hc.2.2.1).u (fun sp => br1 ((s_hour hc.2.2.2).u fun r4 g4 => ?_)) (fun z => br0 ⟨-1, rfl, ?_, rfl⟩)))
  · have z2 := plc_isP.mp sp.1
    have z3 := plc_isP.mp sp.2.1
    have le := sp.2.2
    have e : ansDries S a1.toInt a2.toInt a3.toInt = if dMax S a1.toInt a2.toInt.toNat (a3.toInt - a2.toInt + 1).toNat = 2147483647 then -1 else dMax S a1.toInt a2.toInt.toNat (a3.toInt - a2.toInt + 1).toNat := by unfold ansDries; rw [if_pos sp]
    rw [e]
    exact c_dries_loop hc h9 z2.1 z3.2 (by omega) _ 0 r4 a2 (Nat.zero_add _) (by omega) g4
  · unfold ansDries; rw [if_neg z]; rfl
theorem dMax_le (hw : WF S) {h : Int} (h1 : sHr S ≤ h) : ∀ m : Nat, dMax S l p m ≤ h ↔ ∀ i : Nat, i < m → dH S l (p + i) ≤ h := by
  intro m
  induction m with
  | zero => exact ⟨fun _ i hi => by omega, fun _ => h1⟩
  | succ m ih =>
    have e : dMax S l p (m + 1) = max (dMax S l p m) (dH S l (p + m)) := rfl
    rw [e]
    constructor
    · intro z i hi
      by_cases y : i = m
      · rw [y]; omega
      · exact ih.mp (by omega) i (by omega)
    · intro z
      have z1 := ih.mpr (fun i hi => z i (by omega))
      have z2 := z m (by omega)
      omega
theorem dMax_b (hw : WF S) (hP : ∀ i : Nat, i < m → isP S l ((p + i : Nat) : Int)) : dMax S l p m = 2147483647 ∨ (sHr S ≤ dMax S l p m ∧ dMax S l p m ≤ sHr S + 64) := by
  have hh := hw.2.2.2.2.2.2.1
  induction m with
  | zero => right; show sHr S ≤ sHr S ∧ sHr S ≤ sHr S + 64; omega
  | succ m ih =>
    have e : dMax S l p (m + 1) = max (dMax S l p m) (dH S l (p + m)) := rfl
    have z1 := ih (fun i hi => hP i (by omega))
    have z2 := dH_b hw (hP m (by omega))
    rw [e]
    omega
end DRIES
