/-! ===== stood: what a place bore at an hour ===== -/
def fbI (S : aS) (x h : Int) : Nat → Nat → Int
  | 0, _ => -1
  | m + 1, k => if S 22 k = x ∧ h < S 21 k then (k : Int) else fbI S x h m (k + 1)
def stoodV (S : aS) (x h : Int) : Nat → Nat → Int
  | 0, _ => S 15 x.toNat
  | m + 1, k => if S 22 k = x ∧ h < S 21 k then S 23 k else stoodV S x h m (k + 1)
theorem fbI_y {S : aS} {x h : Int} {m k : Nat} (g : S 22 k = x ∧ h < S 21 k) : fbI S x h (m + 1) k = k := if_pos g
theorem fbI_n {S : aS} {x h : Int} {m k : Nat} (g : ¬ (S 22 k = x ∧ h < S 21 k)) : fbI S x h (m + 1) k = fbI S x h m (k + 1) := if_neg g
theorem stoodV_y {S : aS} {x h : Int} {m k : Nat} (g : S 22 k = x ∧ h < S 21 k) : stoodV S x h (m + 1) k = S 23 k := if_pos g
theorem stoodV_n {S : aS} {x h : Int} {m k : Nat} (g : ¬ (S 22 k = x ∧ h < S 21 k)) : stoodV S x h (m + 1) k = stoodV S x h m (k + 1) := if_neg g
theorem fbI_spec {S : aS} {x h : Int} : ∀ (m k : Nat), (fbI S x h m k = -1 ∧ stoodV S x h m k = S 15 x.toNat) ∨ ∃ j : Nat, k ≤ j ∧ j < k + m ∧ fbI S x h m k = j ∧ stoodV S x h m k = S 23 j := by
  intro m
  induction m with
  | zero => intro k; exact Or.inl ⟨rfl, rfl⟩
  | succ m ih =>
    intro k
    by_cases g : S 22 k = x ∧ h < S 21 k
    · exact Or.inr ⟨k, Nat.le_refl _, by omega, fbI_y g, stoodV_y g⟩
    · rw [fbI_n g, stoodV_n g]
      rcases ih (k + 1) with z | ⟨j, z1, z2, z3, z4⟩
      · exact Or.inl z
      · exact Or.inr ⟨j, by omega, by omega, z3, z4⟩
theorem ansChange_at {S : aS} {a : Int} {k : Nat} (hk : (k : Int) < sNC S) (e : a = k) : ansChange S a 0 = S 21 k ∧ ansChange S a 1 = S 22 k / 64 ∧ ansChange S a 2 = S 22 k % 64 ∧ ansChange S a 3 = S 23 k := by
  subst e
  have hh : 0 ≤ (k : Int) ∧ (k : Int) < sNC S := ⟨by omega, hk⟩
  refine ⟨?_, ?_, ?_, ?_⟩ <;> (unfold ansChange; rw [if_pos hh, Int.toNat_natCast]; rfl)
def ansStood (S : aS) (l p h : Int) : Int := if isP S l p ∧ 0 ≤ h ∧ h ≤ sHr S then stoodV S (64 * l + p) h (sNC S).toNat 0 else -1
section STOOD
variable {S : aS} {L d dr tl : Nat} {I : Nat → Nat → Int32} {J : Nat → Nat → Int64} {a1 a2 a3 a4 : Int32}
theorem s_tellAt {k : Nat} (hw : WF S) (hcc : CIc S I) (hk : (k : Int) < sNC S) (e : a1.toInt = k) : PI ((d + 1), 23, 0, [some (.ref 53), some (.int a1), some (.int 0)], [], (xSH L dr tl, I, J)) (S 21 k) (xSH L dr tl, I, J) ∧ PI ((d + 1), 23, 0, [some (.ref 53), some (.int a1), some (.int 1)], [], (xSH L dr tl, I, J)) (S 22 k / 64) (xSH L dr tl, I, J) ∧ PI ((d + 1), 23, 0, [some (.ref 53), some (.int a1), some (.int 2)], [], (xSH L dr tl, I, J)) (S 22 k % 64) (xSH L dr tl, I, J) ∧ PI ((d + 1), 23, 0, [some (.ref 53), some (.int a1), some (.int 3)], [], (xSH L dr tl, I, J)) (S 23 k) (xSH L dr tl, I, J) := by
  obtain ⟨e0, e1, e2, e3⟩ := ansChange_at (S := S) (a := a1.toInt) hk e
  refine ⟨?_, ?_, ?_, ?_⟩
  · rw [← e0]; exact s_tell hw hcc
  · rw [← e1]; exact s_tell hw hcc
  · rw [← e2]; exact s_tell hw hcc
  · rw [← e3]; exact s_tell hw hcc
theorem fb_loop (hw : WF S) (hcc : CIc S I) (hP : isP S a1.toInt a2.toInt) : ∀ (m k : Nat) (i : Int32), (k + m : Nat) = (sNC S).toNat → i.toInt = k → PI ((d + 2), 24, 3, [some (.ref 53), some (.int a1), some (.int a2), some (.int a3), some (.int i)], [], (xSH L dr tl, I, J)) (fbI S (64 * a1.toInt + a2.toInt) a3.toInt m k) (xSH L dr tl, I, J) := by
  have hn := hw.2.2.2.2.2.2.2.2.2.1
  have hB := isP_b hw hP
  intro m
  induction m with
  | zero =>
    intro k i hk hi
    refine w24_3 (brz lt_ti (fun h => ?_) (fun h => ⟨-1, rfl, rfl, rfl⟩))
    rw [hcc.1, hi] at h; omega
  | succ m ih =>
    intro k i hk hi
    have e1 : (i + 1).toInt = ((k + 1 : Nat) : Int) := by rw [add1 (by omega) (by omega), hi]; rfl
    obtain ⟨t0, t1, t2, t3⟩ := s_tellAt (d := d) (L := L) (dr := dr) (tl := tl) (J := J) (k := k) hw hcc (by omega) hi
    have go : ¬ (S 22 k = 64 * a1.toInt + a2.toInt ∧ a3.toInt < S 21 k) → PI ((d + 2), 24, 3, [some (.ref 53), some (.int a1), some (.int a2), some (.int a3), some (.int (i + 1))], [], (xSH L dr tl, I, J)) (fbI S (64 * a1.toInt + a2.toInt) a3.toInt (m + 1) k) (xSH L dr tl, I, J) := fun g => by rw [fbI_n g]; exact ih (k + 1) _ (by omega) e1
    refine w24_3 (brz lt_ti (fun h => t0.u fun r2 h2 => brz lt_ti (fun g => t1.u fun r4 h4 => brz eq_ti (fun g1 => t2.u fun r6 h6 => brz eq_ti (fun g2 => ⟨i, rfl, ?_, rfl⟩) (fun g2 => go ?_)) (fun g1 => go ?_)) (fun g => go ?_)) (fun h => ?_))
    · rw [h2] at g; rw [h4] at g1; rw [h6] at g2
      rw [fbI_y ⟨by omega, g⟩]; exact hi
    · rw [h6] at g2; intro z; omega
    · rw [h4] at g1; intro z; omega
    · rw [h2] at g; exact fun z => g z.2
    · rw [hcc.1, hi] at h; omega
theorem s_stoodAt (hc : CB S tl I) (hcc : CIc S I) (hP : isP S a1.toInt a2.toInt) : PI ((d + 4), 157, 0, [some (.ref 30), some (.int a1), some (.int a2), some (.int a3), none], [], (xSH L dr tl, I, J)) (stoodV S (64 * a1.toInt + a2.toInt) a3.toInt (sNC S).toNat 0) (xSH L dr tl, I, J) := by
  have fb : PI ((d + 3), 24, 0, [some (.ref 53), some (.int a1), some (.int a2), some (.int a3), none], [], (xSH L dr tl, I, J)) (fbI S (64 * a1.toInt + a2.toInt) a3.toInt (sNC S).toNat 0) (xSH L dr tl, I, J) := w24_0 (fb_loop hc.1 hcc hP (sNC S).toNat 0 0 (by omega) rfl)
  refine w157_0 (fb.u fun r1 h1 => brz eqm (fun g => (s_letterAt hc).u fun r4 h4 => ⟨r4, rfl, ?_, rfl⟩) (fun g => ?_))
  · rw [h1] at g
    rcases fbI_spec (S := S) (x := 64 * a1.toInt + a2.toInt) (h := a3.toInt) (sNC S).toNat 0 with z | ⟨j, z1, z2, z3, z4⟩
    · rw [z.2, h4, if_pos hP]; rfl
    · omega
  · rw [h1] at g
    rcases fbI_spec (S := S) (x := 64 * a1.toInt + a2.toInt) (h := a3.toInt) (sNC S).toNat 0 with z | ⟨j, z1, z2, z3, z4⟩
    · exact absurd z.1 g
    · have hn := hc.1.2.2.2.2.2.2.2.2.2.1
      exact (s_tellAt (k := j) hc.1 hcc (by omega) (h1.trans z3)).2.2.2.u fun r3 h3 => ⟨r3, rfl, h3.trans z4.symm, rfl⟩
theorem c_stood (hc : CB S tl I) (hcc : CIc S I) : PI ((d + 5), 178, 0, [some (.ref 2), some (.int a1), some (.int a2), some (.int a3)], [], (xSH L dr tl, I, J)) (ansStood S a1.toInt a2.toInt a3.toInt) (xSH L dr tl, I, J) := by
  refine w178_0 hc.2.1 ((s_told hc.2.1).v ((s_hasPlace hc.1 hc.2.1 hc.2.2.1).u (fun q => br1 (brz lt0 (fun h => ⟨-1, rfl, ?_, rfl⟩) (fun h => (s_hour hc.2.2.2).u fun r5 h5 => brz lt_ti (fun g => ⟨-1, rfl, ?_, rfl⟩) (fun g => (s_stoodAt hc hcc q).u fun r h => ⟨r, rfl, ?_, rfl⟩)))) (fun q => br0 ⟨-1, rfl, ?_, rfl⟩)))
  · rw [ansStood, if_neg (by omega)]; rfl
  · rw [h5] at g; rw [ansStood, if_neg (by omega)]; rfl
  · rw [h5] at g; rename_i h'; rw [h, ansStood, if_pos ⟨q, by omega, by omega⟩]
  · rw [ansStood, if_neg (fun z => q z.1)]; rfl
theorem stoodIn_loop {l p : Int} (hw : WF S) (hv : MIw S I) (hcc : MIc S I) (hP : isP S l p) (e : a1.toInt = 64 * l + p) : ∀ (m k : Nat) (i : Int32), (k + m : Nat) = (sNC S).toNat → i.toInt = k → PI ((d + 1), 279, 2, [some (.ref 71), some (.int a1), some (.int a2), some (.int i), none], [], (xSH L dr tl, I, J)) (stoodV S (64 * l + p) a2.toInt m k) (xSH L dr tl, I, J) := by
  have hn := hw.2.2.2.2.2.2.2.2.2.1
  have hB := isP_b hw hP
  obtain ⟨hc1, o, ho, hc2, hc3⟩ := hcc
  intro m
  induction m with
  | zero =>
    intro k i hk hi
    refine w279_2 (brz lt_ti (fun h => ?_) (fun h => ⟨?_, _, rfl, ?_, rfl⟩))
    · rw [hc1, hi] at h; omega
    · rw [xin_iff, e]; omega
    · rw [xIx_ti, e]; exact (hv.2.1 l p hP).1
  | succ m ih =>
    intro k i hk hi
    have e1 : (i + 1).toInt = ((k + 1 : Nat) : Int) := by rw [add1 (by omega) (by omega), hi]; rfl
    have f1 : (I 71 66 + i).toInt = o + k := by rw [add_ti (by rw [hc2]; omega) (by rw [hc2]; omega), hc2, hi]
    have f2 := ring_ix (x := I 71 66 + i) (k := k) ho f1 (by omega) (by omega)
    rw [Int.toNat_natCast] at f2
    have hx : xin (I 71 66 + i - (I 71 66 + i) / 400 * 400) 400 = true := by rw [xin_iff, f2]; omega
    have hx2 : xIx (I 71 66 + i - (I 71 66 + i) / 400 * 400) = (o + k) % 400 := by rw [xIx_ti, f2, Int.toNat_natCast]
    obtain ⟨k0, k1, k2⟩ := hc3 k (by omega)
    rw [← hx2] at k0 k1 k2
    have go : ¬ (S 22 k = 64 * l + p ∧ a2.toInt < S 21 k) → PI ((d + 1), 279, 2, [some (.ref 71), some (.int a1), some (.int a2), some (.int (i + 1)), none], [], (xSH L dr tl, I, J)) (stoodV S (64 * l + p) a2.toInt (m + 1) k) (xSH L dr tl, I, J) := fun g => by rw [stoodV_n g]; exact ih (k + 1) _ (by omega) e1
    refine w279_2 (brz lt_ti (fun h => ⟨hx, brz eq_ti (fun g1 => ⟨hx, brz lt_ti (fun g2 => ⟨hx, _, rfl, ?_, rfl⟩) (fun g2 => go ?_)⟩) (fun g1 => go ?_)⟩) (fun h => ?_))
    · rw [k1, e] at g1; rw [k0] at g2; rw [stoodV_y ⟨g1, g2⟩]; exact k2
    · rw [k0] at g2; exact fun z => g2 z.2
    · rw [k1, e] at g1; exact fun z => g1 z.1
    · rw [hc1, hi] at h; omega
theorem m_stoodIn {l p : Int} (hw : WF S) (hv : MIw S I) (hcc : MIc S I) (hP : isP S l p) (e : a1.toInt = 64 * l + p) : PI ((d + 1), 279, 0, [some (.ref 71), some (.int a1), some (.int a2), none, none], [], (xSH L dr tl, I, J)) (stoodV S (64 * l + p) a2.toInt (sNC S).toNat 0) (xSH L dr tl, I, J) := w279_0 (stoodIn_loop hw hv hcc hP e (sNC S).toNat 0 0 (by omega) rfl)
theorem m_stood (hm : MB S I J) (hcc : MIc S I) : PI ((d + 4), 280, 0, [some (.ref 71), some (.int a1), some (.int a2), some (.int a3)], [], (xSH L dr tl, I, J)) (ansStood S a1.toInt a2.toInt a3.toInt) (xSH L dr tl, I, J) := by
  refine w280_0 ((m_isPlace hm.1 hm.2.1).u (fun q => br1 (m_isIn.u (fun g => br1 ((m_stoodIn hm.1 hm.2.2 hcc q ?_).u fun r h => ⟨r, rfl, ?_, rfl⟩)) (fun g => br0 ⟨-1, rfl, ?_, rfl⟩))) (fun q => br0 ⟨-1, rfl, ?_, rfl⟩))
  · exact (slot_m hm.1 q).1
  · rw [t64, t64, hm.2.2.1] at g; rw [h, ansStood, if_pos ⟨q, g⟩]
  · rw [t64, t64, hm.2.2.1] at g; rw [ansStood, if_neg (fun z => g z.2)]; rfl
  · rw [ansStood, if_neg (fun z => q z.1)]; rfl
theorem call_stood : Call L (d + 6) 178 280 [.int a1, .int a2, .int a3] [.int a1, .int a2, .int a3] S := Call.ro (fun _ _ _ _ h => c_stood h.cb h.2.2.2.2.2.2.1) (fun _ _ _ _ h => m_stood h.mb h.2.2.2.2.1)
end STOOD
