/-! ===== a sign is written anew ===== -/
/-- letter, eyes and the hour of a sign -/
def ink3 (S : aS) (x : Nat) (v e t : Int) : aS := sset (sset (sset S 15 x v) 16 x e) 17 x t
/-- the change is told, if it is one -/
def chT (S : aS) (x : Nat) (v : Int) : aS := if S 15 x = v then S else chAdd S x (S 15 x)
section INK
variable {S : aS} {L d dr tl : Nat} {I : Nat → Nat → Int32} {J : Nat → Nat → Int64} {a1 a2 a3 a4 : Int32} {x j : Nat} {v e t : Int}
theorem ink15 : ink3 S x v e t 15 x = v := by
  show sset S 15 x v 15 x = v
  exact sg
theorem ink16 : ink3 S x v e t 16 x = e := by
  show sset (sset S 15 x v) 16 x e 16 x = e
  exact sg
theorem ink17 : ink3 S x v e t 17 x = t := sg
theorem ink15n (h : j ≠ x) : ink3 S x v e t 15 j = S 15 j := by
  show sset S 15 x v 15 j = S 15 j
  exact sgn h
theorem ink16n (h : j ≠ x) : ink3 S x v e t 16 j = S 16 j := by
  show sset (sset S 15 x v) 16 x e 16 j = S 16 j
  exact sgn h
theorem ink17n (h : j ≠ x) : ink3 S x v e t 17 j = S 17 j := by
  show sset (sset (sset S 15 x v) 16 x e) 17 x t 17 j = S 17 j
  exact sgn h
theorem WF.inked (h : WF S) (hv : 0 ≤ v ∧ v ≤ 26) (he : 0 ≤ e ∧ e ≤ 99) (h0 : v = 0 → e = 0) : WF (ink3 S x v e t) := by
  obtain ⟨g1, g2, g3, g4, g5, g6, g7, g8, g9, g10, g11, g12, g13⟩ := h
  refine ⟨g1, g2, g3, g4, g5, g6, g7, fun l p hp => ?_, g9, g10, g11, g12, g13⟩
  obtain ⟨k1, k2, k3, k4, k5, k6, k7⟩ := g8 l p hp
  by_cases ex : slot l p = x
  · rw [ex] at k6 k7 ⊢
    rw [ink15, ink16]
    exact ⟨hv.1, hv.2, he.1, he.2, h0, k6, k7⟩
  · rw [ink15n ex, ink16n ex]
    exact ⟨k1, k2, k3, k4, k5, k6, k7⟩
theorem CInv.inked {b1 b2 b3 : Int32} (q : CInv S dr tl I J) (hv : 0 ≤ v ∧ v ≤ 26) (he : 0 ≤ e ∧ e ≤ 99) (h0 : v = 0 → e = 0) (e1 : b1.toInt = v) (e2 : b2.toInt = e) (e3 : b3.toInt = t) : CInv (ink3 S x v e t) dr tl (xwI (xwI (xwI I 55 x b1) 56 x b2) 57 x b3) J := by
  obtain ⟨g1, g2, g3, g4, g5, g6, g7, g8, g9, g10, g11, g12⟩ := q
  have g6' : CIw (ink3 S x v e t) (xwI (xwI (xwI I 55 x b1) 56 x b2) 57 x b3) := by
    refine ⟨g6.1, fun l p hp => ?_, g6.2.2⟩
    obtain ⟨k1, k2, k3, k4⟩ := g6.2.1 l p hp
    by_cases ex : slot l p = x
    · rw [ex] at k4 ⊢
      rw [ink15, ink16, ink17]
      refine ⟨?_, ?_, fun _ _ => ?_, k4⟩
      · rw [xwI_ne (by decide), xwI_ne (by decide), xg]; exact e1
      · rw [xwI_ne (by decide), xg]; exact e2
      · rw [xg]; exact e3
    · rw [ink15n ex, ink16n ex, ink17n ex]
      refine ⟨?_, ?_, fun y1 y2 => ?_, k4⟩
      · rw [xwI_ne (by decide), xwI_ne (by decide), xgn ex]; exact k1
      · rw [xwI_ne (by decide), xgn ex, xwI_ne (by decide)]; exact k2
      · rw [xgn ex, xwI_ne (by decide), xwI_ne (by decide)]; exact k3 y1 y2
  rcases g3 with ⟨rfl, rfl⟩ | ⟨rfl, rfl⟩
  · exact ⟨g1.inked hv he h0, g2, Or.inl ⟨rfl, rfl⟩, g4, g5, g6', g7, g8, g9, g10, g11, g12⟩
  · exact ⟨g1.inked hv he h0, g2, Or.inr ⟨rfl, rfl⟩, g4, g5, g6', g7, g8, g9, g10, g11, g12⟩
/-- setLetter -/
theorem s_setLetter {R : (Nat → Nat → Int32) → (Nat → Nat → Int64) → Prop} (q : CInv S dr tl I J) (hP : isP S a1.toInt a2.toInt) (hv : 0 ≤ a3.toInt ∧ a3.toInt ≤ 26) (he : 0 ≤ a4.toInt ∧ a4.toInt ≤ 99) (h0 : a3.toInt = 0 → a4.toInt = 0)
    (K : ∀ I1 : Nat → Nat → Int32, keepM I I1 J J → CInv (ink3 (chT S (slot a1.toInt a2.toInt) a3.toInt) (slot a1.toInt a2.toInt) a3.toInt a4.toInt (sHr S)) dr tl I1 J → R I1 J) :
    WP ((d + 3), 150, 0, [some (.ref 30), some (.int a1), some (.int a2), some (.int a3), some (.int a4), none], [], (xSH L dr tl, I, J)) (fun v M => ∃ (I2 : Nat → Nat → Int32) (J2 : Nat → Nat → Int64), v = none ∧ M = (xSH L dr tl, I2, J2) ∧ R I2 J2) := by
  have hc := q.cb
  obtain ⟨s1, s2, s3⟩ := slot_c hc.1 hP
  have hB := isP_b hc.1 hP
  obtain ⟨k1, k2, k3, k4⟩ := hc.2.2.2.2.1 _ _ hP
  have hb := hc.1.2.2.2.2.2.2.2.1 _ _ hP
  have hh : (I 30 9).toInt = sHr S := hc.2.2.2.1
  have ex : (slot a1.toInt a2.toInt : Int) = 64 * a1.toInt + a2.toInt := by unfold slot; omega
  refine w150_0 hc.2.1 ((s_hasPlace hc.1 hc.2.1 hc.2.2.1).u (fun _ => br1 (s_slot.i ?_)) (fun z => absurd hP z))
  rw [s2]
  refine ⟨s3, fun h => ⟨s3, s3, s3, _, _, rfl, rfl, ?_⟩, fun h => ⟨s3, s_add q hP hh (by rw [k1]; exact ⟨hb.1, hb.2.1⟩) fun I1 y1 y2 q1 => ⟨s3, s3, s3, _, _, rfl, rfl, ?_⟩⟩⟩
  · have eq : S 15 (slot a1.toInt a2.toInt) = a3.toInt := by rw [← k1, h]
    refine K _ (((keepM_I (by decide)).tr (keepM_I (by decide))).tr (keepM_I (by decide))) ?_
    rw [chT, if_pos eq]
    exact q.inked hv he h0 rfl rfl hh
  · have ne : ¬ S 15 (slot a1.toInt a2.toInt) = a3.toInt := fun z => h (eq_ti.mpr (k1.trans z))
    refine K _ (y1.tr (((keepM_I (by decide)).tr (keepM_I (by decide))).tr (keepM_I (by decide)))) ?_
    rw [chT, if_neg ne, ex, ← k1]
    exact q1.inked hv he h0 rfl rfl (by show (I1 30 9).toInt = _; rw [y2 30 (by decide) (by decide)]; exact hh)
end INK
