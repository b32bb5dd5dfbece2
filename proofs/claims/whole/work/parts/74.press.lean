/-! ===== press: wet signs of a leaf leave their likeness on another ===== -/
def prS (S : aS) (a b : Int) : Nat → aS × Int
  | 0 => (S, 0)
  | k + 1 => if such S (slot a k) 0 = true ∧ (k : Int) < plc S b then (sset (prS S a b k).1 18 (slot b (plc S b - 1 - k)) (S 15 (slot a k)), (prS S a b k).2 + 1) else prS S a b k
section PRESS
variable {S : aS} {L d dr tl : Nat} {I : Nat → Nat → Int32} {J : Nat → Nat → Int64} {a1 a2 a3 a4 : Int32}
theorem prS_y {a b : Int} {k : Nat} (g : such S (slot a k) 0 = true ∧ (k : Int) < plc S b) : prS S a b (k + 1) = (sset (prS S a b k).1 18 (slot b (plc S b - 1 - k)) (S 15 (slot a k)), (prS S a b k).2 + 1) := if_pos g
theorem prS_n {a b : Int} {k : Nat} (g : ¬ (such S (slot a k) 0 = true ∧ (k : Int) < plc S b)) : prS S a b (k + 1) = prS S a b k := if_neg g
theorem prS_f {a b : Int} : ∀ (k f : Nat), f ≠ 18 → (prS S a b k).1 f = S f := by
  intro k
  induction k with
  | zero => intro f _; rfl
  | succ k ih =>
    intro f hf
    by_cases g : such S (slot a k) 0 = true ∧ (k : Int) < plc S b
    · rw [prS_y g]
      funext j
      show sset _ 18 _ _ f j = _
      unfold sset
      rw [if_neg (fun z => hf z.1)]
      exact congrFun (ih f hf) j
    · rw [prS_n g]; exact ih f hf
theorem prS_c {a b : Int} : ∀ k : Nat, 0 ≤ (prS S a b k).2 ∧ (prS S a b k).2 ≤ k := by
  intro k
  induction k with
  | zero => exact ⟨(by decide : (0 : Int) ≤ 0), (by decide : (0 : Int) ≤ 0)⟩
  | succ k ih =>
    by_cases g : such S (slot a k) 0 = true ∧ (k : Int) < plc S b
    · rw [prS_y g]; dsimp only; omega
    · rw [prS_n g]; omega
theorem plc_c {T : aS} (h0 : T 0 = S 0) (h5 : T 5 = S 5) (l : Int) : plc T l = plc S l := by simp only [plc, isL, sNL, h0, h5]
theorem isP_c {T : aS} (h0 : T 0 = S 0) (h5 : T 5 = S 5) (l p : Int) : isP T l p ↔ isP S l p := by simp only [isP, isL, sNL, h0, h5]
theorem such0_c {T : aS} (h : T 16 = S 16) (x : Nat) : such T x 0 = such S x 0 := by simp [such, h]
theorem WF.ghost {s : Nat} {v : Int} (h : WF S) (h0 : 0 ≤ v) (h1 : v ≤ 26) : WF (sset S 18 s v) := by
  obtain ⟨g1, g2, g3, g4, g5, g6, g7, g8, g9, g10, g11, g12, g13⟩ := h
  refine ⟨g1, g2, g3, g4, g5, g6, g7, fun l p hp => ?_, g9, g10, g11, g12, g13⟩
  obtain ⟨k1, k2, k3, k4, k5, k6, k7⟩ := g8 l p hp
  by_cases e : slot l p = s
  · have : sset S 18 s v 18 (slot l p) = v := by rw [e]; exact sg
    exact ⟨k1, k2, k3, k4, k5, by rw [this]; exact h0, by rw [this]; exact h1⟩
  · have : sset S 18 s v 18 (slot l p) = S 18 (slot l p) := sgn e
    exact ⟨k1, k2, k3, k4, k5, by rw [this]; exact k6, by rw [this]; exact k7⟩
theorem CInv.ghost {s : Nat} {v : Int} {x : Int32} (h : CInv S dr tl I J) (h0 : 0 ≤ v) (h1 : v ≤ 26) (e : x.toInt = v) : CInv (sset S 18 s v) dr tl (xwI I 58 s x) J := by
  obtain ⟨g1, g2, g3, g4, g5, g6, g7, g8, g9, g10, g11, g12⟩ := h
  have g6' : CIw (sset S 18 s v) (xwI I 58 s x) := by
    refine ⟨g6.1, fun l p hp => ?_, g6.2.2⟩
    obtain ⟨k1, k2, k3, k4⟩ := g6.2.1 l p hp
    refine ⟨k1, k2, k3, ?_⟩
    by_cases e' : slot l p = s
    · rw [e', xg, sg]; exact e
    · rw [xgn e', sgn e']; exact k4
  rcases g3 with ⟨rfl, rfl⟩ | ⟨rfl, rfl⟩
  · exact ⟨g1.ghost h0 h1, g2, Or.inl ⟨rfl, rfl⟩, g4, g5, g6', g7, g8, g9, g10, g11, g12⟩
  · exact ⟨g1.ghost h0 h1, g2, Or.inr ⟨rfl, rfl⟩, g4, g5, g6', g7, g8, g9, g10, g11, g12⟩
theorem MInv.ghost {s : Nat} {v : Int} {x : Int32} (h : MInv S I J) (h0 : 0 ≤ v) (h1 : v ≤ 26) (e : x.toInt = v) : MInv (sset S 18 s v) (xwI I 113 s x) J := by
  obtain ⟨g1, g2, g3, g4, g5, g6, g7, g8, g9, g10⟩ := h
  have g4' : MIw (sset S 18 s v) (xwI I 113 s x) := by
    refine ⟨g4.1, fun l p hp => ?_, g4.2.2⟩
    obtain ⟨k1, k2, k3, k4⟩ := g4.2.1 l p hp
    refine ⟨k1, k2, k3, ?_⟩
    by_cases e' : slot l p = s
    · rw [e', xg, sg]; exact e
    · rw [xgn e', sgn e']; exact k4
  exact ⟨g1.ghost h0 h1, g2, g3, g4', g5, g6, g7, g8, g9, wordsAt_I g10 (by decide)⟩
theorem c_press_loop (hS : WF S) (hl2 : isL S a2.toInt) : ∀ (m k : Nat) (c p : Int32) (I : Nat → Nat → Int32), (k + m : Nat) = (plc S a1.toInt).toNat → p.toInt = k → c.toInt = (prS S a1.toInt a2.toInt k).2 → CInv (prS S a1.toInt a2.toInt k).1 dr tl I J → WP ((d + 5), 151, 5, [some (.ref 30), some (.int a1), some (.int a2), some (.int c), some (.int p), none], [], (xSH L dr tl, I, J)) (fun v M => ∃ (r : Int32) (I1 : Nat → Nat → Int32) (J1 : Nat → Nat → Int64), v = some (.int r) ∧ r.toInt = (prS S a1.toInt a2.toInt (plc S a1.toInt).toNat).2 ∧ M = (xSH L dr tl, I1, J1) ∧ keepM I I1 J J1 ∧ CInv (prS S a1.toInt a2.toInt (plc S a1.toInt).toNat).1 dr tl I1 J1) := by
  have hpa := plc_le hS a1.toInt
  have hpb := plc_le hS a2.toInt
  intro m
  induction m with
  | zero =>
    intro k c p I hk hp hcn q
    have hk' : (plc S a1.toInt).toNat = k := by omega
    have f := prS_f (S := S) (a := a1.toInt) (b := a2.toInt) k
    have hc := q.cb
    refine w151_5 hc.2.1 ((s_placesOf hc.1 hc.2.1 hc.2.2.1).u fun r hr => brz lt_ti (fun h => ?_) (fun h => ⟨c, I, J, rfl, ?_, rfl, keepM_refl, ?_⟩))
    · rw [hr, hp, plc_c (f 0 (by decide)) (f 5 (by decide))] at h; omega
    · rw [hk']; exact hcn
    · rw [hk']; exact q
  | succ m ih =>
    intro k c p I hk hp hcn q
    have hkp : (k : Int) < plc S a1.toInt := by omega
    have f := prS_f (S := S) (a := a1.toInt) (b := a2.toInt) k
    have hc := q.cb
    have eP := plc_c (T := (prS S a1.toInt a2.toInt k).1) (f 0 (by decide)) (f 5 (by decide))
    have iP := isP_c (T := (prS S a1.toInt a2.toInt k).1) (f 0 (by decide)) (f 5 (by decide))
    have e1 : (p + 1).toInt = ((k + 1 : Nat) : Int) := by rw [add1 (by omega) (by omega), hp]; rfl
    have cb := prS_c (S := S) (a := a1.toInt) (b := a2.toInt) k
    have no : ¬ (such S (slot a1.toInt k) 0 = true ∧ (k : Int) < plc S a2.toInt) → WP ((d + 5), 151, 5, [some (.ref 30), some (.int a1), some (.int a2), some (.int c), some (.int (p + 1)), none], [], (xSH L dr tl, I, J)) (fun v M => ∃ (r : Int32) (I1 : Nat → Nat → Int32) (J1 : Nat → Nat → Int64), v = some (.int r) ∧ r.toInt = (prS S a1.toInt a2.toInt (plc S a1.toInt).toNat).2 ∧ M = (xSH L dr tl, I1, J1) ∧ keepM I I1 J J1 ∧ CInv (prS S a1.toInt a2.toInt (plc S a1.toInt).toNat).1 dr tl I1 J1) := fun g => ih (k + 1) c (p + 1) I (by omega) e1 (by rw [prS_n g]; exact hcn) (by rw [prS_n g]; exact q)
    refine w151_5 hc.2.1 ((s_placesOf hc.1 hc.2.1 hc.2.2.1).u fun r hr => brz lt_ti (fun h => (s_placesOf hc.1 hc.2.1 hc.2.2.1).u fun r3 h3 => (s_isSuch hc).u (fun y => br1 ((s_hasPlace hc.1 hc.2.1 hc.2.2.1).u (fun y2 => br1 (s_slot.i ((s_letterAt hc).u fun r9 h9 => ?_))) (fun y2 => br0 (no ?_)))) (fun y => br0 (no ?_))) (fun h => ?_))
    · have h3' : r3.toInt = plc S a2.toInt := h3.trans (eP _)
      have ex : (r3 - 1 - p).toInt = plc S a2.toInt - 1 - k := by
        have z1 : (r3 - 1).toInt = r3.toInt - 1 := sub1 (by omega)
        rw [sub_ti (by rw [z1]; omega) (by rw [z1]; omega), z1, h3', hp]
      obtain ⟨s1, s2, s3⟩ := slot_c hc.1 y2
      have hy : such S (slot a1.toInt k) 0 = true := by rw [← such0_c (f 16 (by decide)), ← hp]; exact y.2
      have hy2 : (k : Int) < plc S a2.toInt := by have := y2.2.1; rw [ex] at this; omega
      have hP : isP S a1.toInt k := plc_lt hkp
      have E := prS_y (S := S) (a := a1.toInt) (b := a2.toInt) (k := k) ⟨hy, hy2⟩
      have hb := hS.2.2.2.2.2.2.2.1 _ _ hP
      have e9 : r9.toInt = S 15 (slot a1.toInt k) := by rw [h9, hp, if_pos ((iP _ _).mpr hP), f 15 (by decide)]
      have q' := q.ghost (s := slot a2.toInt (plc S a2.toInt - 1 - k)) (v := S 15 (slot a1.toInt k)) (x := r9) hb.1 hb.2.1 e9
      rw [s2, ex]
      refine ⟨s3, WP.mono (ih (k + 1) (c + 1) (p + 1) _ (by omega) e1 (by rw [E]; rw [add1 (by omega) (by omega), hcn]) (by rw [E]; exact q')) (fun v M z => ?_)⟩
      obtain ⟨r, I1, J1, z1, z2, z3, z4, z5⟩ := z
      exact ⟨r, I1, J1, z1, z2, z3, (keepM_I (by decide)).tr z4, z5⟩
    · intro z
      have h3' : r3.toInt = plc S a2.toInt := h3.trans (eP _)
      have ex : (r3 - 1 - p).toInt = plc S a2.toInt - 1 - k := by
        have z1 : (r3 - 1).toInt = r3.toInt - 1 := sub1 (by omega)
        rw [sub_ti (by rw [z1]; omega) (by rw [z1]; omega), z1, h3', hp]
      refine y2 (plc_isP.mpr ?_)
      rw [ex, eP]; omega
    · intro z
      refine y ⟨(iP _ _).mpr (by rw [hp]; exact plc_lt hkp), ?_⟩
      show such _ _ 0 = true
      rw [such0_c (f 16 (by decide)), hp]; exact z.1
    · rw [hr, hp, eP] at h; omega
theorem m_press_loop (hS : WF S) (hl1 : isL S a1.toInt) (hl2 : isL S a2.toInt) : ∀ (m k : Nat) (c p : Int32) (I : Nat → Nat → Int32), (k + m : Nat) = (plc S a1.toInt).toNat → p.toInt = k → c.toInt = (prS S a1.toInt a2.toInt k).2 → MInv (prS S a1.toInt a2.toInt k).1 I J → WP ((d + 3), 271, 28, [some (.ref 71), some (.int a1), some (.int a2), some (.int c), some (.int p), none], [], (xSH L dr tl, I, J)) (fun v M => ∃ (r : Int32) (I1 : Nat → Nat → Int32) (J1 : Nat → Nat → Int64), v = some (.int r) ∧ r.toInt = (prS S a1.toInt a2.toInt (plc S a1.toInt).toNat).2 ∧ M = (xSH L dr tl, I1, J1) ∧ keepC I I1 J J1 ∧ MInv (prS S a1.toInt a2.toInt (plc S a1.toInt).toNat).1 I1 J1) := by
  have hpa := plc_le hS a1.toInt
  have hpb := plc_le hS a2.toInt
  have ea : plc S a1.toInt = S 5 a1.toInt.toNat := by rw [plc, if_pos hl1]
  have eb : plc S a2.toInt = S 5 a2.toInt.toNat := by rw [plc, if_pos hl2]
  intro m
  induction m with
  | zero =>
    intro k c p I hk hp hcn q
    have hk' : (plc S a1.toInt).toNat = k := by omega
    have f := prS_f (S := S) (a := a1.toInt) (b := a2.toInt) k
    have hm := q.mb
    have kl1 : isL (prS S a1.toInt a2.toInt k).1 a1.toInt := by simp only [isL, sNL, f 0 (by decide)]; exact hl1
    refine w271_28 ((m_length hm.1 hm.2.1 kl1).u fun r hr => brz lt_ti (fun h => ?_) (fun h => ⟨c, I, J, rfl, ?_, rfl, keepC_refl, ?_⟩))
    · rw [hr, hp, f 5 (by decide)] at h; omega
    · rw [hk']; exact hcn
    · rw [hk']; exact q
  | succ m ih =>
    intro k c p I hk hp hcn q
    have hkp : (k : Int) < plc S a1.toInt := by omega
    have f := prS_f (S := S) (a := a1.toInt) (b := a2.toInt) k
    have hm := q.mb
    have kl1 : isL (prS S a1.toInt a2.toInt k).1 a1.toInt := by simp only [isL, sNL, f 0 (by decide)]; exact hl1
    have kl2 : isL (prS S a1.toInt a2.toInt k).1 a2.toInt := by simp only [isL, sNL, f 0 (by decide)]; exact hl2
    have iP := isP_c (T := (prS S a1.toInt a2.toInt k).1) (f 0 (by decide)) (f 5 (by decide))
    have e1 : (p + 1).toInt = ((k + 1 : Nat) : Int) := by rw [add1 (by omega) (by omega), hp]; rfl
    have cb := prS_c (S := S) (a := a1.toInt) (b := a2.toInt) k
    have hP : isP S a1.toInt k := plc_lt hkp
    have hP' : isP (prS S a1.toInt a2.toInt k).1 a1.toInt p.toInt := by rw [hp]; exact (iP _ _).mpr hP
    obtain ⟨t1, t2, t3⟩ := slot_m hm.1 hP'
    have no : ¬ (such S (slot a1.toInt k) 0 = true ∧ (k : Int) < plc S a2.toInt) → WP ((d + 3), 271, 28, [some (.ref 71), some (.int a1), some (.int a2), some (.int c), some (.int (p + 1)), none], [], (xSH L dr tl, I, J)) (fun v M => ∃ (r : Int32) (I1 : Nat → Nat → Int32) (J1 : Nat → Nat → Int64), v = some (.int r) ∧ r.toInt = (prS S a1.toInt a2.toInt (plc S a1.toInt).toNat).2 ∧ M = (xSH L dr tl, I1, J1) ∧ keepC I I1 J J1 ∧ MInv (prS S a1.toInt a2.toInt (plc S a1.toInt).toNat).1 I1 J1) := fun g => ih (k + 1) c (p + 1) I (by omega) e1 (by rw [prS_n g]; exact hcn) (by rw [prS_n g]; exact q)
    have ex : ∀ r3 : Int32, r3.toInt = (prS S a1.toInt a2.toInt k).1 5 a2.toInt.toNat → (r3 - 1 - p).toInt = plc S a2.toInt - 1 - k := fun r3 h3 => by
      rw [f 5 (by decide), ← eb] at h3
      have z1 : (r3 - 1).toInt = r3.toInt - 1 := sub1 (by omega)
      rw [sub_ti (by rw [z1]; omega) (by rw [z1]; omega), z1, h3, hp]
    refine w271_28 ((m_length hm.1 hm.2.1 kl1).u fun r hr => brz lt_ti (fun h => (m_length hm.1 hm.2.1 kl2).u fun r3 h3 => brz lt0 (fun y2 => no ?_) (fun y2 => (m_isWet hm.1 hm.2.2 hP' t1).u (fun y => br1 ⟨t3, ?_⟩) (fun y => br0 (no ?_)))) (fun h => ?_))
    · rw [ex r3 h3] at y2; intro z; omega
    · rw [ex r3 h3] at y2
      have hy : such S (slot a1.toInt k) 0 = true := by rw [← such0_c (f 16 (by decide)), ← hp]; exact y
      have hy2 : (k : Int) < plc S a2.toInt := by omega
      have hP2 : isP (prS S a1.toInt a2.toInt k).1 a2.toInt (r3 - 1 - p).toInt := by rw [ex r3 h3, iP]; exact plc_isP.mpr ⟨by omega, by omega⟩
      obtain ⟨s1, s2, s3⟩ := slot_m hm.1 hP2
      have E := prS_y (S := S) (a := a1.toInt) (b := a2.toInt) (k := k) ⟨hy, hy2⟩
      have hb := hS.2.2.2.2.2.2.2.1 _ _ hP
      have e9 : (I 110 (xIx (64 * a1 + p))).toInt = S 15 (slot a1.toInt k) := by
        rw [t2, (hm.2.2.2.1 _ _ hP').1, f 15 (by decide), hp]
      have q' := q.ghost (s := slot a2.toInt (plc S a2.toInt - 1 - k)) (v := S 15 (slot a1.toInt k)) (x := I 110 (xIx (64 * a1 + p))) hb.1 hb.2.1 e9
      rw [s2, ex r3 h3]
      refine ⟨s3, WP.mono (ih (k + 1) (c + 1) (p + 1) _ (by omega) e1 (by rw [E]; rw [add1 (by omega) (by omega), hcn]) (by rw [E]; exact q')) (fun v M z => ?_)⟩
      obtain ⟨r, I1, J1, z1, z2, z3, z4, z5⟩ := z
      exact ⟨r, I1, J1, z1, z2, z3, (keepC_I (by decide)).tr z4, z5⟩
    · intro z
      refine y ?_
      rw [such0_c (f 16 (by decide)), hp]; exact z.1
    · rw [hr, hp, f 5 (by decide)] at h; omega
theorem call_press : Call L (d + 6) 172 271 [.int a1, .int a2] [.int a1, .int a2] S := by
  by_cases h : isL S a1.toInt ∧ isL S a2.toInt ∧ ¬ a1 = a2
  · obtain ⟨k1, k2, k3⟩ := h
    refine Call.st (prS S a1.toInt a2.toInt (plc S a1.toInt).toNat).1 (prS S a1.toInt a2.toInt (plc S a1.toInt).toNat).2 (fun dr tl I J q => ?_) (fun dr tl I J q => ?_)
    · have hc := q.cb
      refine w172_0 hc.2.1 ((s_told hc.2.1).v ((s_hasLeaf hc.2.1 hc.2.2.1).u (fun _ => br1 ((s_hasLeaf hc.2.1 hc.2.2.1).u (fun _ => br1 ⟨fun z => absurd z k3, fun _ => w151_0 (WP.mono (c_press_loop (a1 := a1) (a2 := a2) hc.1 k2 (plc S a1.toInt).toNat 0 0 0 I (by omega) rfl rfl q) (fun v M z => ?_))⟩) (fun z => absurd k2 z))) (fun z => absurd k1 z)))
      obtain ⟨r, I1, J1, z1, z2, z3, z4, z5⟩ := z
      exact ⟨r, I1, J1, z1, z3, r, I1, J1, rfl, z2, rfl, z4, z5⟩
    · have hm := q.mb
      exact w271_0 ((m_isLeaf hm.1 hm.2.1).u (fun _ => br1 ((m_isLeaf hm.1 hm.2.1).u (fun _ => br1 ⟨fun z => absurd z k3, fun _ => m_press_loop (a1 := a1) (a2 := a2) hm.1 k1 k2 (plc S a1.toInt).toNat 0 0 0 I (by omega) rfl rfl q⟩) (fun z => absurd k2 z))) (fun z => absurd k1 z))
  · refine Call.st S (-1) (fun dr tl I J q => ?_) (fun dr tl I J q => ?_)
    · have hc := q.cb
      exact w172_0 hc.2.1 ((s_told hc.2.1).v ((s_hasLeaf hc.2.1 hc.2.2.1).u (fun k1 => br1 ((s_hasLeaf hc.2.1 hc.2.2.1).u (fun k2 => br1 ⟨fun z => ⟨-1, _, _, rfl, rfl, rfl, keepM_refl, q⟩, fun k3 => absurd ⟨k1, k2, k3⟩ h⟩) (fun z => br0 ⟨-1, _, _, rfl, rfl, rfl, keepM_refl, q⟩))) (fun z => br0 ⟨-1, _, _, rfl, rfl, rfl, keepM_refl, q⟩)))
    · have hm := q.mb
      exact w271_0 ((m_isLeaf hm.1 hm.2.1).u (fun k1 => br1 ((m_isLeaf hm.1 hm.2.1).u (fun k2 => br1 ⟨fun z => ⟨-1, _, _, rfl, rfl, rfl, keepC_refl, q⟩, fun k3 => absurd ⟨k1, k2, k3⟩ h⟩) (fun z => br0 ⟨-1, _, _, rfl, rfl, rfl, keepC_refl, q⟩))) (fun z => br0 ⟨-1, _, _, rfl, rfl, rfl, keepC_refl, q⟩))
end PRESS
