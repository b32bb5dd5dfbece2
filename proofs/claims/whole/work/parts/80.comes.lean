/-! ===== the reference's row of changes ===== -/
section COMES
variable {S T : aS} {L d dr tl : Nat} {I I1 I2 : Nat → Nat → Int32} {J : Nat → Nat → Int64} {a1 a2 a3 a4 : Int32} {x j : Nat} {v e t y old : Int}
theorem MIc.chA {b : Nat} (hw : WF S) (hc : MIc S I) (hb : (b : Int) = (I 71 66).toInt + (I 71 65).toInt) (h1 : a1.toInt = sHr S) (h2 : a2.toInt = y) (h4 : a4.toInt = old)
    (e116 : I1 116 = xwI I 116 (b % 400) a1 116) (e117 : I1 117 = xwI I 117 (b % 400) a2 117) (e118 : I1 118 = xwI I 118 (b % 400) a4 118)
    (e71 : (sNC S < 400 → I1 71 65 = I 71 65 + 1 ∧ I1 71 66 = I 71 66) ∧ (¬ sNC S < 400 → I1 71 65 = I 71 65 ∧ (I1 71 66).toInt = ((I 71 66).toInt + 1) % 400)) : MIc (chAdd S y old) I1 := by
  have hn := hw.2.2.2.2.2.2.2.2.2.1
  obtain ⟨c1, o, c2, c3, c4⟩ := hc
  rw [c3, c1] at hb
  by_cases hl : sNC S < 400
  · obtain ⟨f1, f2⟩ := e71.1 hl
    refine ⟨?_, o, c2, by rw [f2]; exact c3, fun k hk => ?_⟩
    · rw [f1, add1 (by omega) (by omega), c1]; exact (if_pos hl).symm
    · have hk' : (k : Int) < sNC S + 1 := by rw [chA_n, if_pos hl] at hk; exact hk
      rw [e116, e117, e118]
      by_cases e : (k : Int) = sNC S
      · rw [show (o + k) % 400 = b % 400 by rw [show o + k = b by omega], xg, xg, xg, chA_l i21 hl e, chA_l i22 hl e, chA_l i23 hl e]
        exact ⟨h1, h2, h4⟩
      · have hb2 : (o + k) % 400 ≠ b % 400 := by omega
        rw [xgn hb2, xgn hb2, xgn hb2, chA_o i21 hl e, chA_o i22 hl e, chA_o i23 hl e]
        exact c4 k (by omega)
  · obtain ⟨f1, f2⟩ := e71.2 hl
    have en : sNC S = 400 := by omega
    refine ⟨?_, (o + 1) % 400, by omega, ?_, fun k hk => ?_⟩
    · rw [f1, c1, en]; exact (if_neg hl).symm
    · rw [f2, c3]; omega
    · have hk' : (k : Int) < 400 := by rw [chA_n, if_neg hl] at hk; exact hk
      rw [e116, e117, e118]
      by_cases e : k = 399
      · rw [show ((o + 1) % 400 + k) % 400 = b % 400 by omega, xg, xg, xg, chA_fl i21 hl e, chA_fl i22 hl e, chA_fl i23 hl e]
        exact ⟨h1, h2, h4⟩
      · have hb2 : ((o + 1) % 400 + k) % 400 ≠ b % 400 := by omega
        rw [xgn hb2, xgn hb2, xgn hb2, chA_fo i21 hl e, chA_fo i22 hl e, chA_fo i23 hl e]
        rw [show ((o + 1) % 400 + k) % 400 = (o + (k + 1)) % 400 by omega]
        exact c4 (k + 1) (by omega)
/-- comes: the change is told and the letter stands -/
theorem m_comes {l p : Int} {R : (Nat → Nat → Int32) → (Nat → Nat → Int64) → Prop} (q : MInv S I J) (hP : isP S l p) (ea : a1.toInt = 64 * l + p)
    (K : ∀ I1 : Nat → Nat → Int32, (∀ a : Nat, a ≠ 71 → a ≠ 110 → a ≠ 116 → a ≠ 117 → a ≠ 118 → I1 a = I a) → (∀ j : Nat, j ≠ 65 → j ≠ 66 → I1 71 j = I 71 j) → I1 110 = xwI I 110 (slot l p) a2 110 → MIc (chT S (slot l p) a2.toInt) I1 → R I1 J) :
    WP ((d + 1), 267, 0, [some (.ref 71), some (.int a1), some (.int a2), none], [], (xSH L dr tl, I, J)) (fun v M => ∃ (I2 : Nat → Nat → Int32) (J2 : Nat → Nat → Int64), v = none ∧ M = (xSH L dr tl, I2, J2) ∧ R I2 J2) := by
  have hm := q.mb
  have hw := q.1
  have hn := hw.2.2.2.2.2.2.2.2.2.1
  have hB := isP_b hw hP
  have hcc := q.2.2.2.2.1
  obtain ⟨c1, o, c2, c3, c4⟩ := id hcc
  obtain ⟨k1, k2, k3, k4⟩ := hm.2.2.2.1 _ _ hP
  have hh : (I 71 55).toInt = sHr S := hm.2.2.1
  have x0 : xIx a1 = slot l p := by rw [xIx_ti, ea]; rfl
  have hx : xin a1 512 = true := by rw [xin_iff, ea]; omega
  have exn : (slot l p : Int) = 64 * l + p := by unfold slot; omega
  have h2 : a1.toInt = (slot l p : Int) := ea.trans exn.symm
  have f1 : (I 71 66 + I 71 65).toInt = o + sNC S := by rw [add_ti (by omega) (by omega), c3, c1]
  have f2 := ring_ix (x := I 71 66 + I 71 65) (k := sNC S) c2 f1 hn.1 (by omega)
  have hb : ((o + (sNC S).toNat : Nat) : Int) = (I 71 66).toInt + (I 71 65).toInt := by rw [c3, c1]; omega
  have xr : xIx (I 71 66 + I 71 65 - (I 71 66 + I 71 65) / 400 * 400) = (o + (sNC S).toNat) % 400 := by rw [xIx_ti, f2, Int.toNat_natCast]
  have ir : xin (I 71 66 + I 71 65 - (I 71 66 + I 71 65) / 400 * 400) 400 = true := by rw [xin_iff, f2]; omega
  have r1 : (I 71 66 + 1 - (I 71 66 + 1) / 400 * 400).toInt = ((I 71 66).toInt + 1) % 400 := by
    have z : (I 71 66 + 1).toInt = (I 71 66).toInt + 1 := add1 (by omega) (by omega)
    rw [rem_ti (by omega) (by decide), z]; rfl
  refine w267_0 ?_
  rw [x0, xr]
  refine ⟨hx, fun h => ⟨_, _, rfl, rfl, K _ (fun _ _ _ _ _ _ => rfl) (fun _ _ _ => rfl) ?_ ?_⟩, fun h => ⟨fun g => ⟨fun _ => ?_, fun g' => absurd g g'⟩, fun g => ⟨fun g' => absurd g' g, fun _ => ?_⟩⟩⟩
  · funext j
    by_cases ej : j = slot l p
    · rw [ej, xg]; exact h
    · rw [xgn ej]
  · rw [chT, if_pos (by rw [← k1, h])]; exact hcc
  · have ne : ¬ S 15 (slot l p) = a2.toInt := fun z => h (eq_ti.mpr (k1.trans z))
    have en : sNC S = 400 := by rw [← c1, g]; rfl
    have xo : xIx (I 71 66) = (o + (sNC S).toNat) % 400 := by rw [xIx_ti, c3]; omega
    have io : xin (I 71 66) 400 = true := by rw [xin_iff, c3]; omega
    rw [xo]
    refine ⟨io, io, hx, io, hx, _, _, rfl, rfl, K _ (fun a g1 g2 g3 g4 g5 => ?_) (fun j g1 g2 => ?_) ?_ ?_⟩
    · rw [xwI_ne g2, xwI_ne g5, xwI_ne g4, xwI_ne g3, xwI_ne g1]
    · rw [xwI_ne (by decide), xwI_ne (by decide), xwI_ne (by decide), xwI_ne (by decide), xgn g2]
    · rfl
    · rw [chT, if_neg ne]
      exact MIc.chA (a1 := I 71 55) (a2 := a1) (a4 := I 110 (slot l p)) hw hcc hb hh h2 k1 rfl rfl rfl ⟨fun z => by omega, fun _ => ⟨rfl, r1⟩⟩
  · have ne : ¬ S 15 (slot l p) = a2.toInt := fun z => h (eq_ti.mpr (k1.trans z))
    have en : sNC S < 400 := by
      have z : ¬ (I 71 65).toInt = 400 := fun z => g (eq_ti.mpr z)
      rw [c1] at z; omega
    refine ⟨ir, ir, hx, ir, hx, _, _, rfl, rfl, K _ (fun a g1 g2 g3 g4 g5 => ?_) (fun j g1 g2 => ?_) ?_ ?_⟩
    · rw [xwI_ne g2, xwI_ne g5, xwI_ne g4, xwI_ne g3, xwI_ne g1]
    · rw [xwI_ne (by decide), xwI_ne (by decide), xwI_ne (by decide), xwI_ne (by decide), xgn g1]
    · rfl
    · rw [chT, if_neg ne]
      exact MIc.chA (a1 := I 71 55) (a2 := a1) (a4 := I 110 (slot l p)) hw hcc hb hh h2 k1 rfl rfl rfl ⟨fun _ => ⟨rfl, rfl⟩, fun z => absurd en z⟩
/-- the reference's part behind a sign written anew -/
theorem MInv.made (q : MInv S I J) (hT : T = S ∨ ∃ y' o' : Int, T = chAdd S y' o') (hwT : WF T) (hv : 0 ≤ v ∧ v ≤ 26) (he : 0 ≤ e ∧ e ≤ 99) (h0 : v = 0 → e = 0) (hcT : MIc T I2)
    (oth : ∀ a : Nat, a ≠ 71 → a ≠ 110 → a ≠ 111 → a ≠ 112 → a ≠ 116 → a ≠ 117 → a ≠ 118 → I2 a = I a) (o71 : ∀ j : Nat, j ≠ 65 → j ≠ 66 → I2 71 j = I 71 j)
    (x110 : (I2 110 x).toInt = v) (o110 : ∀ j, j ≠ x → I2 110 j = I 110 j) (x111 : (I2 111 x).toInt = e) (o111 : ∀ j, j ≠ x → I2 111 j = I 111 j)
    (x112 : v ≠ 0 → e = 0 → (I2 112 x).toInt = t) (o112 : ∀ j, j ≠ x → I2 112 j = I 112 j) : MInv (ink3 T x v e t) I2 J := by
  obtain ⟨g1, g2, g3, g4, g5, g6, g7, g8, g9, g10⟩ := q
  have c : ∀ a : Nat, (93 ≤ a ∧ a ≤ 107) ∨ (72 ≤ a ∧ a ≤ 91) ∨ a = 113 ∨ a = 114 ∨ a = 115 ∨ a = 130 → I2 a = I a := fun a ha => oth a (by omega) (by omega) (by omega) (by omega) (by omega) (by omega) (by omega)
  have b2 : MIb S I2 J := by unfold MIb at *; rw [c 93 (by omega), c 95 (by omega), c 96 (by omega), c 99 (by omega), c 100 (by omega), c 101 (by omega), c 102 (by omega), c 103 (by omega), c 105 (by omega), c 106 (by omega), c 107 (by omega)]; exact g2
  have b6 : MIt S I2 := by unfold MIt at *; rw [o71 1 (by decide) (by decide), c 72 (by omega)]; exact g6
  have b7 : MIp S I2 := by unfold MIp at *; rw [o71 82 (by decide) (by decide), c 130 (by omega)]; exact g7
  have b8 : MIf S I2 := by unfold MIf at *; rw [o71 7 (by decide) (by decide), o71 8 (by decide) (by decide)]; exact g8
  have b10 : wordsAt I2 := by
    intro a w hm k hk
    have ha : 72 ≤ a ∧ a ≤ 91 := by
      simp only [List.mem_cons, Prod.mk.injEq, List.not_mem_nil, or_false] at hm
      omega
    rw [c a (by omega)]
    exact g10 a w hm k hk
  have w4 : ∀ T : aS, (T = S ∨ ∃ y' o' : Int, T = chAdd S y' o') → MIw (ink3 T x v e t) I2 := by
    intro T hT
    have f15 : T 15 = S 15 := by rcases hT with rfl | ⟨_, _, rfl⟩ <;> rfl
    have f16 : T 16 = S 16 := by rcases hT with rfl | ⟨_, _, rfl⟩ <;> rfl
    have f17 : T 17 = S 17 := by rcases hT with rfl | ⟨_, _, rfl⟩ <;> rfl
    have fp : ∀ l p : Int, isP (ink3 T x v e t) l p → isP S l p := by intro l p h; rcases hT with rfl | ⟨_, _, rfl⟩ <;> exact h
    refine ⟨?_, fun l p hp => ?_, fun r hr => ?_⟩
    · rw [o71 55 (by decide) (by decide), g4.1]; rcases hT with rfl | ⟨_, _, rfl⟩ <;> rfl
    · obtain ⟨k1, k2, k3, k4⟩ := g4.2.1 l p (fp l p hp)
      have k4' : (I2 113 (slot l p)).toInt = ink3 T x v e t 18 (slot l p) := by rw [c 113 (by omega), k4]; rcases hT with rfl | ⟨_, _, rfl⟩ <;> rfl
      by_cases ex : slot l p = x
      · rw [ex] at k4' ⊢
        rw [ink15, ink16, ink17]
        exact ⟨x110, x111, x112, k4'⟩
      · rw [ink15n ex, ink16n ex, ink17n ex, o110 _ ex, o111 _ ex, o112 _ ex, f15, f16, f17]
        exact ⟨k1, k2, k3, k4'⟩
    · rw [c 114 (by omega), c 115 (by omega)]
      rcases hT with rfl | ⟨_, _, rfl⟩ <;> exact g4.2.2 r hr
  have b4 := w4 T hT
  have b1 : WF (ink3 T x v e t) := hwT.inked hv he h0
  rcases hT with rfl | ⟨_, _, rfl⟩
  · exact ⟨b1, b2, g3, b4, hcT, b6, b7, b8, g9, b10⟩
  · exact ⟨b1, b2, g3, b4, hcT, b6, b7, b8, g9, b10⟩
end COMES
