/-! ===== the reference: its tests and what is read of it ===== -/
theorem xlc_lt {x y : Int64} : xlc x y < 0 ↔ x.toInt < y.toInt := by
  unfold xlc lg_cmp
  by_cases h1 : x > y
  · rw [if_pos h1]
    have := Int64.lt_iff_toInt_lt.mp h1
    exact ⟨fun z => absurd z (by decide), fun z => by omega⟩
  · rw [if_neg h1]
    have h2 : ¬ y.toInt < x.toInt := fun z => h1 (Int64.lt_iff_toInt_lt.mpr z)
    by_cases h3 : x = y
    · rw [if_pos h3, h3]; exact ⟨fun z => absurd z (by decide), fun z => by omega⟩
    · rw [if_neg h3]
      have h4 : x.toInt ≠ y.toInt := fun z => h3 (Int64.toInt.inj z)
      exact ⟨fun _ => by omega, fun _ => by decide⟩
theorem xlc_gt {x y : Int64} : 0 < xlc x y ↔ y.toInt < x.toInt := by
  unfold xlc lg_cmp
  by_cases h1 : x > y
  · rw [if_pos h1]
    exact ⟨fun _ => Int64.lt_iff_toInt_lt.mp h1, fun _ => by decide⟩
  · rw [if_neg h1]
    have h2 : ¬ y.toInt < x.toInt := fun z => h1 (Int64.lt_iff_toInt_lt.mpr z)
    by_cases h3 : x = y
    · rw [if_pos h3]; exact ⟨fun z => absurd z (by decide), fun z => absurd z h2⟩
    · rw [if_neg h3]; exact ⟨fun z => absurd z (by decide), fun z => absurd z h2⟩
theorem xlc_eq {x y : Int64} : xlc x y = 0 ↔ x.toInt = y.toInt := by
  have h1 := xlc_lt (x := x) (y := y)
  have h2 := xlc_gt (x := x) (y := y)
  rw [lt0] at h1
  rw [gt0] at h2
  rw [eq0]
  omega
def MB (S : aS) (I : Nat → Nat → Int32) (J : Nat → Nat → Int64) : Prop := WF S ∧ MIb S I J ∧ MIw S I
section MODEL
variable {S : aS} {L d dr tl : Nat} {I : Nat → Nat → Int32} {J : Nat → Nat → Int64} {a1 a2 a3 a4 : Int32} {b0 b2 b4 : Int64}
theorem m_isIn : PB ((d + 1), 196, 0, [some (.long b0), none, some (.long b2), none, some (.long b4), none], [], (xSH L dr tl, I, J)) (b2.toInt ≤ b0.toInt ∧ b0.toInt ≤ b4.toInt) (xSH L dr tl, I, J) := by
  refine w196_0 ⟨fun h => ⟨0, rfl, Or.inr ⟨rfl, ?_⟩, rfl⟩, fun h => ⟨fun h1 => ⟨0, rfl, Or.inr ⟨rfl, ?_⟩, rfl⟩, fun h1 => ⟨1, rfl, Or.inl ⟨rfl, ?_⟩, rfl⟩⟩⟩
  · rw [xlc_lt] at h; omega
  · rw [xlc_lt] at h; rw [xlc_gt] at h1; omega
  · rw [xlc_lt] at h; rw [xlc_gt] at h1; omega
theorem t64 (x : Int32) : (Int32.toInt64 x).toInt = x.toInt := Int32.toInt_toInt64 x
theorem sub1 {a : Int32} (h1 : -1000000000 ≤ a.toInt) : (a - 1).toInt = a.toInt - 1 := sub_ti (by show _ ≤ a.toInt - 1; omega) (by show a.toInt - 1 < _; have := ti_hi a; omega)
theorem m_leaves (hm : MIb S I J) : PI ((d + 1), 246, 0, [some (.ref 71)], [], (xSH L dr tl, I, J)) (sNL S) (xSH L dr tl, I, J) := w246_0 ⟨_, rfl, hm.1.2.1, rfl⟩
theorem m_people (hm : MIb S I J) : PI ((d + 1), 248, 0, [some (.ref 71)], [], (xSH L dr tl, I, J)) (sNR S) (xSH L dr tl, I, J) := w248_0 ⟨_, rfl, hm.1.2.2.1, rfl⟩
theorem m_wordMany (hm : MIb S I J) : PI ((d + 1), 259, 0, [some (.ref 71)], [], (xSH L dr tl, I, J)) (sNW S) (xSH L dr tl, I, J) := w259_0 ⟨_, rfl, hm.1.2.2.2.1, rfl⟩
theorem m_length (hw : WF S) (hm : MIb S I J) (hl : isL S a1.toInt) : PI ((d + 1), 247, 0, [some (.ref 71), some (.int a1)], [], (xSH L dr tl, I, J)) (S 5 a1.toInt.toNat) (xSH L dr tl, I, J) := by
  have h3 := hw.2.2.1.2.1
  have h4 := hl.1
  have h5 := hl.2
  have e1 : (8 + a1).toInt = 8 + a1.toInt := add_ti (by show _ ≤ 8 + a1.toInt; omega) (by show 8 + a1.toInt < _; omega)
  refine w247_0 ⟨by rw [xin_iff, e1]; omega, _, rfl, ?_, rfl⟩
  rw [xIx_ti, e1, show (8 + a1.toInt).toNat = 8 + a1.toInt.toNat by omega]
  exact hm.2.2.1 _ (by omega)
theorem m_isLeaf (hw : WF S) (hm : MIb S I J) : PB ((d + 2), 249, 0, [some (.ref 71), some (.int a1)], [], (xSH L dr tl, I, J)) (isL S a1.toInt) (xSH L dr tl, I, J) := by
  have h3 := hw.2.2.1.1
  refine w249_0 ((m_leaves hm).u fun r hr => m_isIn.u (fun q => ⟨rfl, 1, rfl, Or.inl ⟨rfl, ?_⟩, rfl⟩) (fun q => ⟨rfl, 0, rfl, Or.inr ⟨rfl, ?_⟩, rfl⟩))
  · rw [t64, t64, sub1 (by omega), hr] at q; have := q.1; have := q.2; exact ⟨q.1, by omega⟩
  · rw [t64, t64, sub1 (by omega), hr] at q; exact fun z => q ⟨z.1, by have := z.2; omega⟩
theorem m_isReader (hw : WF S) (hm : MIb S I J) : PB ((d + 2), 263, 0, [some (.ref 71), some (.int a1)], [], (xSH L dr tl, I, J)) (isRd S a1.toInt) (xSH L dr tl, I, J) := by
  have h3 := hw.2.2.2.1.1
  refine w263_0 ((m_people hm).u fun r hr => m_isIn.u (fun q => ⟨rfl, 1, rfl, Or.inl ⟨rfl, ?_⟩, rfl⟩) (fun q => ⟨rfl, 0, rfl, Or.inr ⟨rfl, ?_⟩, rfl⟩))
  · rw [t64, t64, sub1 (by omega), hr] at q; have := q.1; have := q.2; exact ⟨q.1, by omega⟩
  · rw [t64, t64, sub1 (by omega), hr] at q; exact fun z => q ⟨z.1, by have := z.2; omega⟩
theorem m_isPlace (hw : WF S) (hm : MIb S I J) : PB ((d + 3), 250, 0, [some (.ref 71), some (.int a1), some (.int a2)], [], (xSH L dr tl, I, J)) (isP S a1.toInt a2.toInt) (xSH L dr tl, I, J) := by
  refine w250_0 ((m_isLeaf hw hm).u (fun q => br1 ((m_length hw hm q).u fun r hr => m_isIn.u (fun g => br1 ⟨1, rfl, Or.inl ⟨rfl, q, ?_⟩, rfl⟩) (fun g => br0 ⟨0, rfl, Or.inr ⟨rfl, ?_⟩, rfl⟩))) (fun q => br0 ⟨0, rfl, Or.inr ⟨rfl, fun z => q z.1⟩, rfl⟩))
  · have hlen := hw.2.2.1.2.2 a1.toInt.toNat (by have := q.1; have := q.2; omega)
    rw [t64, t64, sub1 (by omega), hr] at g; have := g.1; have := g.2; exact ⟨g.1, by omega⟩
  · have hlen := hw.2.2.1.2.2 a1.toInt.toNat (by have := q.1; have := q.2; omega)
    rw [t64, t64, sub1 (by omega), hr] at g; exact fun z => g ⟨z.2.1, by have := z.2.2; omega⟩
theorem m_isSpan (hw : WF S) (hm : MIb S I J) : PB ((d + 4), 251, 0, [some (.ref 71), some (.int a1), some (.int a2), some (.int a3)], [], (xSH L dr tl, I, J)) (isP S a1.toInt a2.toInt ∧ isP S a1.toInt a3.toInt ∧ a2.toInt ≤ a3.toInt) (xSH L dr tl, I, J) := by
  refine w251_0 ((m_isPlace hw hm).u (fun q => br1 ((m_isPlace hw hm).u (fun q2 => br1 ⟨fun h => ⟨0, rfl, Or.inr ⟨rfl, ?_⟩, rfl⟩, fun h => ⟨1, rfl, Or.inl ⟨rfl, q, q2, ?_⟩, rfl⟩⟩) (fun q2 => br0 ⟨0, rfl, Or.inr ⟨rfl, fun z => q2 z.2.1⟩, rfl⟩))) (fun q => br0 ⟨0, rfl, Or.inr ⟨rfl, fun z => q z.1⟩, rfl⟩))
  · rw [lt_ti] at h; intro z; have := z.2.2; omega
  · rw [lt_ti] at h; omega
theorem m_isWet {l p : Int} (hw : WF S) (hv : MIw S I) (hp : isP S l p) (e : a1.toInt = 64 * l + p) : PB ((d + 1), 252, 0, [some (.ref 71), some (.int a1)], [], (xSH L dr tl, I, J)) (such S (slot l p) 0 = true) (xSH L dr tl, I, J) := by
  have hb := isP_b hw hp
  have hx : xin a1 512 = true := by rw [xin_iff, e]; omega
  have hs : xIx a1 = slot l p := by rw [xIx_ti, e]; rfl
  obtain ⟨g1, g2, g3, g4⟩ := hv.2.1 l p hp
  refine w252_0 ⟨hx, fun h => ⟨1, rfl, Or.inl ⟨rfl, ?_⟩, rfl⟩, fun h => ⟨0, rfl, Or.inr ⟨rfl, ?_⟩, rfl⟩⟩
  · rw [gt0, hs, g2] at h; simpa [such] using h
  · rw [gt0, hs, g2] at h; simpa [such] using h
theorem m_isDry {l p : Int} (hw : WF S) (hv : MIw S I) (hp : isP S l p) (e : a1.toInt = 64 * l + p) : PB ((d + 1), 253, 0, [some (.ref 71), some (.int a1)], [], (xSH L dr tl, I, J)) (such S (slot l p) 1 = true) (xSH L dr tl, I, J) := by
  have hb := isP_b hw hp
  have hx : xin a1 512 = true := by rw [xin_iff, e]; omega
  have hs : xIx a1 = slot l p := by rw [xIx_ti, e]; rfl
  obtain ⟨g1, g2, g3, g4⟩ := hv.2.1 l p hp
  have hle := (hw.2.2.2.2.2.2.2.1 l p hp).1
  refine w253_0 ⟨hx, fun h => ⟨hx, fun h2 => ⟨1, rfl, Or.inl ⟨rfl, ?_⟩, rfl⟩, fun h2 => ⟨0, rfl, Or.inr ⟨rfl, ?_⟩, rfl⟩⟩, fun h => ⟨0, rfl, Or.inr ⟨rfl, ?_⟩, rfl⟩⟩
  · rw [gt0, hs, g1] at h; rw [eq0, hs, g2] at h2; simp [such, h2]; omega
  · rw [eq0, hs, g2] at h2; simp [such, h2]
  · rw [gt0, hs, g1] at h; simp [such]; omega
theorem m_paceOf (hw : WF S) (hm : MIb S I J) (hr : isRd S a1.toInt) : PI ((d + 1), 264, 0, [some (.ref 71), some (.int a1)], [], (xSH L dr tl, I, J)) (S 6 a1.toInt.toNat) (xSH L dr tl, I, J) := by
  have h3 := hw.2.2.2.1.2.1
  have h4 := hr.1
  have h5 := hr.2
  have e0 : (3 * a1).toInt = 3 * a1.toInt := mul_ti (by show _ ≤ 3 * a1.toInt; omega) (by show 3 * a1.toInt < _; omega)
  have e1 : (12 + 3 * a1).toInt = 12 + 3 * a1.toInt := by rw [add_ti (by rw [e0]; show _ ≤ 12 + 3 * a1.toInt; omega) (by rw [e0]; show 12 + 3 * a1.toInt < _; omega), e0]; rfl
  refine w264_0 ⟨by rw [xin_iff, e1]; omega, _, rfl, ?_, rfl⟩
  rw [xIx_ti, e1, show (12 + 3 * a1.toInt).toNat = 12 + 3 * a1.toInt.toNat by omega]
  exact (hm.2.2.2.1 _ (by omega)).1
theorem m_isSkipped (hw : WF S) (hm : MIb S I J) (hr : isRd S a1.toInt) (h0 : 0 ≤ a2.toInt) : PB ((d + 1), 273, 0, [some (.ref 71), some (.int a1), some (.int a2), none], [], (xSH L dr tl, I, J)) (¬ looks S a1.toInt a2.toInt) (xSH L dr tl, I, J) := by
  have h3 := hw.2.2.2.1.2.1
  have h4 := hr.1
  have h5 := hr.2
  have e0 : (3 * a1).toInt = 3 * a1.toInt := mul_ti (by show _ ≤ 3 * a1.toInt; omega) (by show 3 * a1.toInt < _; omega)
  have e1 : (12 + 3 * a1).toInt = 12 + 3 * a1.toInt := by rw [add_ti (by rw [e0]; show _ ≤ 12 + 3 * a1.toInt; omega) (by rw [e0]; show 12 + 3 * a1.toInt < _; omega), e0]; rfl
  have e2 : (12 + 3 * a1 + 1).toInt = 13 + 3 * a1.toInt := by rw [add1 (by omega) (by omega), e1]; omega
  have hs : (I 99 (xIx (12 + 3 * a1 + 1))).toInt = S 7 a1.toInt.toNat := by
    rw [xIx_ti, e2, show (13 + 3 * a1.toInt).toNat = 12 + 3 * a1.toInt.toNat + 1 by omega]
    exact (hm.2.2.2.1 _ (by omega)).2.1
  have hq := hw.2.2.2.1.2.2 a1.toInt.toNat (by omega)
  refine w273_0 ⟨by rw [xin_iff, e2]; omega, fun h => ?_, fun h => ⟨0, rfl, Or.inr ⟨rfl, ?_⟩, rfl⟩⟩
  · rw [gt0, hs] at h
    have e3 := rem_ti (a := a2) (b := I 99 (xIx (12 + 3 * a1 + 1))) h0 (by rw [hs]; exact h)
    rw [hs] at e3
    have e4 : (I 99 (xIx (12 + 3 * a1 + 1)) - 1).toInt = S 7 a1.toInt.toNat - 1 := by rw [sub1 (by omega), hs]
    have hmod : (a2.toInt + 1) % S 7 a1.toInt.toNat = 0 ↔ a2.toInt % S 7 a1.toInt.toNat = S 7 a1.toInt.toNat - 1 := by
      have k1 := Int.emod_nonneg a2.toInt (show S 7 a1.toInt.toNat ≠ 0 by omega)
      have k2 := Int.emod_lt_of_pos a2.toInt h
      rw [Int.add_emod]
      by_cases hz : a2.toInt % S 7 a1.toInt.toNat = S 7 a1.toInt.toNat - 1
      · rw [hz, Int.emod_eq_of_lt (a := 1) (by omega) (by omega), show S 7 a1.toInt.toNat - 1 + 1 = S 7 a1.toInt.toNat by omega, Int.emod_self]
        exact ⟨fun _ => rfl, fun _ => rfl⟩
      · rw [Int.emod_eq_of_lt (a := 1) (by omega) (by omega), Int.emod_eq_of_lt (a := a2.toInt % S 7 a1.toInt.toNat + 1) (by omega) (by omega)]
        exact ⟨fun z => by omega, fun z => absurd z hz⟩
    refine ⟨by rw [eq0, hs]; omega, fun g => ⟨1, rfl, Or.inl ⟨rfl, ?_⟩, rfl⟩, fun g => ⟨0, rfl, Or.inr ⟨rfl, ?_⟩, rfl⟩⟩
    · rw [eq_ti, e3, e4] at g
      rintro ⟨-, z | z⟩
      · omega
      · exact z (hmod.mpr g)
    · rw [eq_ti, e3, e4] at g
      exact fun z => z ⟨hr, Or.inr (fun y => g (hmod.mp y))⟩
  · rw [gt0, hs] at h
    exact fun z => z ⟨hr, Or.inl (by omega)⟩
theorem m_isGuarded (hw : WF S) (hm : MIb S I J) (h2 : 0 ≤ a1.toInt) : PB ((d + 1), 294, 0, [some (.ref 71), some (.int a1)], [], (xSH L dr tl, I, J)) (grd S a1.toInt) (xSH L dr tl, I, J) := by
  have e1 := hm.1.2.2.2.2.2.1
  have e2 := hm.1.2.2.2.2.2.2
  have hg := hw.2.2.2.2.2.1
  refine w294_0 ⟨fun h => ?_, fun h => ⟨0, rfl, Or.inr ⟨rfl, fun z => h (by rw [gt0, e1]; exact z.1)⟩, rfl⟩⟩
  rw [gt0, e1] at h
  have hf := e2 h
  have hr := hg.2.2 h
  refine ⟨fun g => ⟨0, rfl, Or.inr ⟨rfl, ?_⟩, rfl⟩, fun g => ?_⟩
  · rw [lt_ti, hf] at g
    rintro ⟨-, z⟩
    rw [Int.emod_eq_of_lt (by omega) (by omega)] at z
    omega
  · rw [lt_ti, hf] at g
    have e3 : (a1 - I 102 3).toInt = a1.toInt - sGF S := by rw [sub_ti (by rw [hf]; omega) (by rw [hf]; have := ti_hi a1; omega), hf]
    have e4 := rem_ti (a := a1 - I 102 3) (b := I 102 2) (by rw [e3]; omega) (by rw [e1]; exact h)
    rw [e3, e1] at e4
    have hmod : (a1.toInt - sGF S) % sGE S = 0 ↔ a1.toInt % sGE S = sGF S := by
      rw [← Int.emod_emod_of_dvd (a1.toInt - sGF S) (Int.dvd_refl (sGE S)), Int.sub_emod, Int.emod_eq_of_lt (a := sGF S) (by omega) (by omega)]
      have k1 := Int.emod_nonneg a1.toInt (show sGE S ≠ 0 by omega)
      have k2 := Int.emod_lt_of_pos a1.toInt h
      rw [Int.emod_emod_of_dvd _ (Int.dvd_refl _)]
      constructor
      · intro z
        by_cases hz : sGF S ≤ a1.toInt % sGE S
        · rw [Int.emod_eq_of_lt (by omega) (by omega)] at z; omega
        · have : (a1.toInt % sGE S - sGF S) % sGE S = a1.toInt % sGE S - sGF S + sGE S := by
            rw [← Int.add_emod_right (a1.toInt % sGE S - sGF S) (sGE S), Int.emod_eq_of_lt (by omega) (by omega)]
          omega
      · intro z; rw [z, Int.sub_self, Int.zero_emod]
    refine ⟨by rw [eq0, e1]; omega, fun k => ⟨1, rfl, Or.inl ⟨rfl, h, ?_⟩, rfl⟩, fun k => ⟨0, rfl, Or.inr ⟨rfl, fun z => ?_⟩, rfl⟩⟩
    · rw [eq0, e4] at k; exact hmod.mp k
    · rw [eq0, e4] at k; exact k (hmod.mpr z.2)
end MODEL
