/-! ===== seat ===== -/
theorem beqT (k : Nat) : Nat.beq k k = true := by
  cases h : Nat.beq k k
  · exact absurd rfl (Nat.ne_of_beq_eq_false h)
  · rfl
theorem beqF {j k : Nat} (h : j ≠ k) : Nat.beq j k = false := by
  cases g : Nat.beq j k
  · rfl
  · exact absurd (Nat.eq_of_beq_eq_true g) h
theorem xg {I : Nat → Nat → Int32} {a k : Nat} {v : Int32} : xwI I a k v a k = v := by unfold xwI; rw [beqT a, beqT k]; rfl
theorem xgn {I : Nat → Nat → Int32} {a k j : Nat} {v : Int32} (h : j ≠ k) : xwI I a k v a j = I a j := by unfold xwI; rw [beqT a, beqF h]; rfl
theorem sg {S : aS} {f k : Nat} {v : Int} : sset S f k v f k = v := by unfold sset; rw [if_pos ⟨rfl, rfl⟩]
theorem sgn {S : aS} {f k j : Nat} {v : Int} (h : j ≠ k) : sset S f k v f j = S f j := by unfold sset; rw [if_neg (fun z => h z.2)]
theorem wordsAt_I {I : Nat → Nat → Int32} {a k : Nat} {v : Int32} (h : wordsAt I) (ha : a < 73 ∨ 91 < a) : wordsAt (xwI I a k v) := by
  intro b w hm j hj
  have hb : b ≠ a := by
    simp only [List.mem_cons, Prod.mk.injEq, List.not_mem_nil, or_false] at hm
    omega
  rw [xwI_ne hb]
  exact h b w hm j hj
def sit (S : aS) (r : Nat) (l p : Int) : aS := sset (sset S 19 r l) 20 r p
section SEAT
variable {S : aS} {L d dr tl : Nat} {I : Nat → Nat → Int32} {J : Nat → Nat → Int64} {a1 a2 a3 : Int32} {r : Nat} {l p : Int}
theorem sit19 : sit S r l p 19 r = l := by
  show sset (sset S 19 r l) 20 r p 19 r = l
  unfold sset; rw [if_neg (by omega), if_pos ⟨rfl, rfl⟩]
theorem sit20 : sit S r l p 20 r = p := sg
theorem sit19n {j : Nat} (h : j ≠ r) : sit S r l p 19 j = S 19 j := by
  show sset (sset S 19 r l) 20 r p 19 j = S 19 j
  unfold sset; rw [if_neg (by omega), if_neg (fun z => h z.2)]
theorem sit20n {j : Nat} (h : j ≠ r) : sit S r l p 20 j = S 20 j := by
  show sset (sset S 19 r l) 20 r p 20 j = S 20 j
  unfold sset; rw [if_neg (fun z => h z.2), if_neg (by omega)]
theorem WF.sits (h : WF S) (hp : (l = -1 ∧ p = 0) ∨ isP S l p) : WF (sit S r l p) := by
  obtain ⟨g1, g2, g3, g4, g5, g6, g7, g8, g9, g10, g11, g12, g13⟩ := h
  refine ⟨g1, g2, g3, g4, g5, g6, g7, g8, fun r' hr' => ?_, g10, g11, g12, g13⟩
  by_cases e : r' = r
  · subst e; rw [sit19, sit20]; exact hp
  · rw [sit19n e, sit20n e]; exact g9 r' hr'
theorem CInv.sits (h : CInv S dr tl I J) (hp : (l = -1 ∧ p = 0) ∨ isP S l p) (e1 : a1.toInt = l) (e2 : a2.toInt = p) : CInv (sit S r l p) dr tl (xwI (xwI I 60 r a1) 61 r a2) J := by
  obtain ⟨g1, g2, g3, g4, g5, g6, g7, g8, g9, g10, g11, g12⟩ := h
  have g6' : CIw (sit S r l p) (xwI (xwI I 60 r a1) 61 r a2) := by
    refine ⟨g6.1, g6.2.1, fun r' hr' => ?_⟩
    by_cases e : r' = r
    · subst e; rw [sit19, sit20, xg, xwI_ne (by decide), xg]; exact ⟨e1, e2⟩
    · rw [sit19n e, sit20n e, xgn e, xwI_ne (by decide), xgn e, xwI_ne (by decide)]; exact g6.2.2 r' hr'
  rcases g3 with ⟨rfl, rfl⟩ | ⟨rfl, rfl⟩
  · exact ⟨g1.sits hp, g2, Or.inl ⟨rfl, rfl⟩, g4, g5, g6', g7, g8, g9, g10, g11, g12⟩
  · exact ⟨g1.sits hp, g2, Or.inr ⟨rfl, rfl⟩, g4, g5, g6', g7, g8, g9, g10, g11, g12⟩
theorem MInv.sits (h : MInv S I J) (hp : (l = -1 ∧ p = 0) ∨ isP S l p) (e1 : a1.toInt = l) (e2 : a2.toInt = p) : MInv (sit S r l p) (xwI (xwI I 114 r a1) 115 r a2) J := by
  obtain ⟨g1, g2, g3, g4, g5, g6, g7, g8, g9, g10⟩ := h
  have g4' : MIw (sit S r l p) (xwI (xwI I 114 r a1) 115 r a2) := by
    refine ⟨g4.1, g4.2.1, fun r' hr' => ?_⟩
    by_cases e : r' = r
    · subst e; rw [sit19, sit20, xg, xwI_ne (by decide), xg]; exact ⟨e1, fun _ => e2⟩
    · rw [sit19n e, sit20n e, xgn e, xwI_ne (by decide), xgn e, xwI_ne (by decide)]; exact g4.2.2 r' hr'
  exact ⟨g1.sits hp, g2, g3, g4', g5, g6, g7, g8, g9, wordsAt_I (wordsAt_I g10 (by decide)) (by decide)⟩
theorem call_seat : Call L (d + 6) 173 272 [.int a1, .int a2] [.int a1, .int a2] S := by
  have em1 : (-1 : Int32).toInt = -1 := rfl
  by_cases h : isRd S a1.toInt ∧ isL S a2.toInt ∧ S 19 a1.toInt.toNat = -1
  · obtain ⟨k1, k2, k3⟩ := h
    refine Call.st (sit S a1.toInt.toNat a2.toInt 0) (left (sit S a1.toInt.toNat a2.toInt 0) a1.toInt.toNat) (fun dr tl I J q => ?_) (fun dr tl I J q => ?_)
    · have hc := q.cb
      have hx : xin a1 4 = true := by rw [xin_iff]; have := hc.1.2.2.2.1.2.1; have := k1.1; have := k1.2; omega
      have hp : isP S a2.toInt 0 := ⟨k2, by decide, by have := hc.1.2.2.1.2.2 a2.toInt.toNat (by have := k2.1; have := k2.2; omega); omega⟩
      have q' := q.sits (r := a1.toInt.toNat) (a1 := a2) (a2 := 0) (Or.inr hp) rfl rfl
      refine w173_0 hc.2.1 ((s_told hc.2.1).v ((s_hasReader hc.2.1 hc.2.2.1).u (fun _ => br1 ((s_hasLeaf hc.2.1 hc.2.2.1).u (fun _ => br1 ((s_seatLeaf hc).u fun r6 h6 => brz eqm (fun g => w135_0 hc.2.1 ((s_hasReader hc.2.1 hc.2.2.1).u (fun _ => br1 ⟨hx, hx, _, _, rfl, rfl, (s_hoursLeft q'.cb).u fun r9 h9 => ⟨r9, _, _, rfl, ?_, rfl, (keepM_I (by decide)).tr (keepM_I (by decide)), q'⟩⟩) (fun z => absurd k1 z))) (fun g => ?_))) (fun z => absurd k2 z))) (fun z => absurd k1 z)))
      · rw [h9]; exact if_pos k1
      · rw [if_pos k1] at h6; exact absurd (h6.trans k3) g
    · have hm := q.mb
      have hx : xin a1 4 = true := by rw [xin_iff]; have := hm.1.2.2.2.1.2.1; have := k1.1; have := k1.2; omega
      have hp : isP S a2.toInt 0 := ⟨k2, by decide, by have := hm.1.2.2.1.2.2 a2.toInt.toNat (by have := k2.1; have := k2.2; omega); omega⟩
      have q' := q.sits (r := a1.toInt.toNat) (a1 := a2) (a2 := 0) (Or.inr hp) rfl rfl
      have e1 : (I 114 (xIx a1)).toInt = S 19 a1.toInt.toNat := (hm.2.2.2.2 a1.toInt.toNat (by have := k1.1; have := k1.2; omega)).1
      refine w272_0 ((m_isReader hm.1 hm.2.1).u (fun _ => br1 ((m_isLeaf hm.1 hm.2.1).u (fun _ => br1 ⟨hx, brz eqm (fun g => ⟨hx, hx, (m_hoursLeft q'.mb k1 (by rw [sit19]; have := k2.1; omega)).u fun r9 h9 => ⟨r9, _, _, rfl, h9, rfl, (keepC_I (by decide)).tr (keepC_I (by decide)), q'⟩⟩) (fun g => absurd (e1.trans k3) g)⟩) (fun z => absurd k2 z))) (fun z => absurd k1 z))
  · refine Call.st S (-1) (fun dr tl I J q => ?_) (fun dr tl I J q => ?_)
    · have hc := q.cb
      refine w173_0 hc.2.1 ((s_told hc.2.1).v ((s_hasReader hc.2.1 hc.2.2.1).u (fun k1 => br1 ((s_hasLeaf hc.2.1 hc.2.2.1).u (fun k2 => br1 ((s_seatLeaf hc).u fun r6 h6 => brz eqm (fun g => ?_) (fun g => ⟨-1, _, _, rfl, rfl, rfl, keepM_refl, q⟩))) (fun z => br0 ⟨-1, _, _, rfl, rfl, rfl, keepM_refl, q⟩))) (fun z => br0 ⟨-1, _, _, rfl, rfl, rfl, keepM_refl, q⟩)))
      rw [if_pos k1] at h6; exact absurd ⟨k1, k2, h6.symm.trans g⟩ h
    · have hm := q.mb
      refine w272_0 ((m_isReader hm.1 hm.2.1).u (fun k1 => br1 ((m_isLeaf hm.1 hm.2.1).u (fun k2 => br1 ⟨?_, brz eqm (fun g => ?_) (fun g => ⟨-1, _, _, rfl, rfl, rfl, keepC_refl, q⟩)⟩) (fun z => br0 ⟨-1, _, _, rfl, rfl, rfl, keepC_refl, q⟩))) (fun z => br0 ⟨-1, _, _, rfl, rfl, rfl, keepC_refl, q⟩))
      · rw [xin_iff]; have := hm.1.2.2.2.1.2.1; have := k1.1; have := k1.2; omega
      · have e1 : (I 114 (xIx a1)).toInt = S 19 a1.toInt.toNat := (hm.2.2.2.2 a1.toInt.toNat (by have := k1.1; have := k1.2; omega)).1
        exact absurd ⟨k1, k2, e1.symm.trans g⟩ h
end SEAT
