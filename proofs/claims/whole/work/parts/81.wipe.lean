/-! ===== wipe ===== -/
def wp (S : aS) (l : Int) (a : Nat) : Nat → aS × Int
  | 0 => (S, 0)
  | m + 1 => if (wp S l a m).1 15 (slot l (a + m : Nat)) = 0 then wp S l a m else (ink3 (chT (wp S l a m).1 (slot l (a + m : Nat)) 0) (slot l (a + m : Nat)) 0 0 (sHr (wp S l a m).1), (wp S l a m).2 + 1)
section WIPE
variable {S T : aS} {L d dr tl B : Nat} {I : Nat → Nat → Int32} {J : Nat → Nat → Int64} {a1 a2 a3 a4 : Int32} {l : Int} {a m x : Nat}
theorem wp_z (h : (wp S l a m).1 15 (slot l (a + m : Nat)) = 0) : wp S l a (m + 1) = wp S l a m := if_pos h
theorem wp_s (h : ¬ (wp S l a m).1 15 (slot l (a + m : Nat)) = 0) : wp S l a (m + 1) = (ink3 (chT (wp S l a m).1 (slot l (a + m : Nat)) 0) (slot l (a + m : Nat)) 0 0 (sHr (wp S l a m).1), (wp S l a m).2 + 1) := if_neg h
theorem chT_or (S : aS) (x : Nat) (v : Int) : chT S x v = S ∨ ∃ y' o' : Int, chT S x v = chAdd S y' o' := by
  unfold chT
  by_cases h : S 15 x = v
  · rw [if_pos h]; exact Or.inl rfl
  · rw [if_neg h]; exact Or.inr ⟨_, _, rfl⟩
theorem chT_5 {x : Nat} {v : Int} : chT S x v 5 = S 5 ∧ chT S x v 0 2 = S 0 2 := by
  rcases chT_or S x v with h | ⟨_, _, h⟩ <;> rw [h] <;> exact ⟨rfl, rfl⟩
theorem wp_f : ∀ m : Nat, (wp S l a m).1 5 = S 5 ∧ (wp S l a m).1 0 2 = S 0 2 := by
  intro m
  induction m with
  | zero => exact ⟨rfl, rfl⟩
  | succ m ih =>
    by_cases h : (wp S l a m).1 15 (slot l (a + m : Nat)) = 0
    · rw [wp_z h]; exact ih
    · rw [wp_s h]
      obtain ⟨e1, e2⟩ := chT_5 (S := (wp S l a m).1) (x := slot l (a + m : Nat)) (v := 0)
      exact ⟨Eq.trans (show ink3 (chT (wp S l a m).1 (slot l (a + m : Nat)) 0) (slot l (a + m : Nat)) 0 0 (sHr (wp S l a m).1) 5 = chT (wp S l a m).1 (slot l (a + m : Nat)) 0 5 from rfl) (e1.trans ih.1), Eq.trans (show ink3 (chT (wp S l a m).1 (slot l (a + m : Nat)) 0) (slot l (a + m : Nat)) 0 0 (sHr (wp S l a m).1) 0 2 = chT (wp S l a m).1 (slot l (a + m : Nat)) 0 0 2 from rfl) (e2.trans ih.2)⟩
theorem wp_c : ∀ m : Nat, 0 ≤ (wp S l a m).2 ∧ (wp S l a m).2 ≤ m := by
  intro m
  induction m with
  | zero => exact ⟨(by decide : (0 : Int) ≤ 0), (by decide : (0 : Int) ≤ 0)⟩
  | succ m ih =>
    by_cases h : (wp S l a m).1 15 (slot l (a + m : Nat)) = 0
    · rw [wp_z h]; omega
    · rw [wp_s h]; dsimp only; omega
theorem isP_f {p : Int} (h5 : T 5 = S 5) (h0 : T 0 2 = S 0 2) : isP T l p ↔ isP S l p := by simp only [isP, isL, sNL, h0, h5]
theorem WF.chTd {p : Int} {v : Int} (h : WF S) (hP : isP S l p) : WF (chT S (slot l p) v) := by
  unfold chT
  have hB := isP_b h hP
  have hb := h.2.2.2.2.2.2.2.1 _ _ hP
  by_cases e : S 15 (slot l p) = v
  · rw [if_pos e]; exact h
  · rw [if_neg e]; exact h.chA hP (by unfold slot; omega) ⟨hb.1, hb.2.1⟩
theorem ink3_id (h1 : T 15 x = 0) (h2 : T 16 x = 0) : ink3 T x 0 0 (T 17 x) = T := by
  funext f k
  unfold ink3 sset
  by_cases e1 : f = 17 ∧ k = x
  · rw [if_pos e1, e1.1, e1.2]
  · rw [if_neg e1]
    by_cases e2 : f = 16 ∧ k = x
    · rw [if_pos e2, e2.1, e2.2, h2]
    · rw [if_neg e2]
      by_cases e3 : f = 15 ∧ k = x
      · rw [if_pos e3, e3.1, e3.2, h1]
      · rw [if_neg e3]
def dryIn (S : aS) (l b : Int) (k : Nat) : Prop := ∃ j : Nat, k ≤ j ∧ (j : Int) ≤ b ∧ such S (slot l j) 1 = true
theorem dry_go {b : Int} {k : Nat} (h : ¬ such S (slot l k) 1 = true) : dryIn S l b (k + 1) = dryIn S l b k := propext ⟨fun ⟨j, h1, h2, h3⟩ => ⟨j, by omega, h2, h3⟩, fun ⟨j, h1, h2, h3⟩ => by
  by_cases e : j = k
  · rw [e] at h3; exact absurd h3 h
  · exact ⟨j, by omega, h2, h3⟩⟩
theorem hasDry_loop (hc : CB S tl I) (h3 : a3.toInt < plc S a1.toInt) : ∀ (m k : Nat) (i : Int32), ((k + m : Nat) : Int) = a3.toInt + 1 → i.toInt = k → PB ((d + 4), 142, 3, [some (.ref 30), some (.int a1), none, some (.int a3), some (.int i)], [], (xSH L dr tl, I, J)) (dryIn S a1.toInt a3.toInt k) (xSH L dr tl, I, J) := by
  have hpl := plc_le hc.1 a1.toInt
  intro m
  induction m with
  | zero =>
    intro k i hk hi
    refine w142_3 (brz lt_ti (fun h => ⟨0, rfl, Or.inr ⟨rfl, fun z => ?_⟩, rfl⟩) (fun h => by omega))
    obtain ⟨j, h1, h2, h3⟩ := z; omega
  | succ m ih =>
    intro k i hk hi
    have hP : isP S a1.toInt k := plc_lt (by omega)
    have e1 : (i + 1).toInt = ((k + 1 : Nat) : Int) := by rw [add1 (by omega) (by omega), hi]; rfl
    refine w142_3 (brz lt_ti (fun h => by omega) (fun h => (s_isSuch hc).u (fun q => br1 ⟨1, rfl, Or.inl ⟨rfl, ?_⟩, rfl⟩) (fun q => br0 ?_)))
    · rw [hi] at q; exact ⟨k, Nat.le_refl _, by omega, q.2⟩
    · rw [hi] at q
      have nd : ¬ such S (slot a1.toInt k) 1 = true := fun z => q ⟨hP, z⟩
      rw [← dry_go nd]
      exact ih (k + 1) _ (by omega) e1
theorem c_wipe_loop {n : Nat} (hS : WF S) (h2 : 0 ≤ a2.toInt) (h3 : a3.toInt < plc S a1.toInt) (hn : (n : Int) = a3.toInt - a2.toInt + 1) : ∀ (m k : Nat) (c i : Int32) (I : Nat → Nat → Int32), k + m = n → i.toInt = a2.toInt + k → c.toInt = (wp S a1.toInt a2.toInt.toNat k).2 → CInv (wp S a1.toInt a2.toInt.toNat k).1 dr tl I J → WP ((d + 5), 170, 37, [some (.ref 2), some (.int a1), none, some (.int a3), some (.int c), some (.int i)], [], (xSH L dr tl, I, J)) (altPost (wp S a1.toInt a2.toInt.toNat n).1 L dr tl I J (wp S a1.toInt a2.toInt.toNat n).2) := by
  have hpl := plc_le hS a1.toInt
  intro m
  induction m with
  | zero =>
    intro k c i I hk hi hcn q
    have hk' : k = n := by omega
    subst hk'
    exact w170_37 (brz lt_ti (fun h => ⟨c, I, J, rfl, hcn, rfl, keepM_refl, q⟩) (fun h => by omega))
  | succ m ih =>
    intro k c i I hk hi hcn q
    have hc := q.cb
    have cb := wp_c (S := S) (l := a1.toInt) (a := a2.toInt.toNat) k
    obtain ⟨f5, f0⟩ := wp_f (S := S) (l := a1.toInt) (a := a2.toInt.toNat) k
    have ei : i.toInt = ((a2.toInt.toNat + k : Nat) : Int) := by omega
    have hP : isP (wp S a1.toInt a2.toInt.toNat k).1 a1.toInt i.toInt := (isP_f f5 f0).mpr (plc_isP.mpr ⟨by omega, by omega⟩)
    have e1 : (i + 1).toInt = a2.toInt + ((k + 1 : Nat) : Int) := by rw [add1 (by omega) (by omega), hi]; omega
    refine w170_37 (brz lt_ti (fun h => by omega) (fun h => w148_0 ((s_letterAt hc).u fun r1 h1 => ?_)))
    rw [if_pos hP, ei] at h1
    refine brz eq0 (fun g => ⟨0, I, J, rfl, rfl, ?_⟩) (fun g => s_setLetter q hP (by decide) (by decide) (fun _ => rfl) fun I1 y1 q1 => ⟨1, I1, J, rfl, rfl, ?_⟩)
    · have E := wp_z (S := S) (l := a1.toInt) (a := a2.toInt.toNat) (m := k) (h1.symm.trans g)
      exact ih (k + 1) _ _ I (by omega) e1 (by rw [E, add_ti (by show _ ≤ c.toInt + 0; omega) (by show c.toInt + 0 < _; omega), hcn]; show _ + (0 : Int) = _; omega) (by rw [E]; exact q)
    · have E := wp_s (S := S) (l := a1.toInt) (a := a2.toInt.toNat) (m := k) (fun z => g (h1.trans z))
      rw [ei] at q1
      refine WP.mono (ih (k + 1) _ _ I1 (by omega) e1 (by rw [E, add1 (by omega) (by omega), hcn]) (by rw [E]; exact q1)) (fun v M z => ?_)
      obtain ⟨r, I3, J3, z1, z2, z3, z4, z5⟩ := z
      exact ⟨r, I3, J3, z1, z2, z3, y1.tr z4, z5⟩
theorem m_wipe1 {Q : Option Value → xMem → Prop} (q : MInv S I J) (h3 : isP S a1.toInt a3.toInt) (no : ¬ dryIn S a1.toInt a3.toInt a2.toInt.toNat → WP ((d + 2), 269, 49, [some (.ref 71), some (.int a1), none, some (.int a3), some (.int 0), some (.int a2), none], [], (xSH L dr tl, I, J)) Q) (yes : dryIn S a1.toInt a3.toInt a2.toInt.toNat → Q (some (.int (-1))) (xSH L dr tl, I, J)) : ∀ (m k : Nat) (i : Int32), ((k + m : Nat) : Int) = a3.toInt + 1 → i.toInt = k → dryIn S a1.toInt a3.toInt k = dryIn S a1.toInt a3.toInt a2.toInt.toNat → WP ((d + 2), 269, 15, [some (.ref 71), some (.int a1), some (.int a2), some (.int a3), some (.int i), none, none], [], (xSH L dr tl, I, J)) Q := by
  have hm := q.mb
  have hB := isP_b q.1 h3
  intro m
  induction m with
  | zero =>
    intro k i hk hi he
    refine w269_15 (brz lt_ti (fun h => no ?_) (fun h => by omega))
    rw [← he]
    rintro ⟨j, g1, g2, g3⟩
    omega
  | succ m ih =>
    intro k i hk hi he
    have hP : isP S a1.toInt i.toInt := ⟨h3.1, by omega, by have := h3.2.2; omega⟩
    have e1 : (i + 1).toInt = ((k + 1 : Nat) : Int) := by rw [add1 (by omega) (by omega), hi]; rfl
    refine w269_15 (brz lt_ti (fun h => by omega) (fun h => (m_isDry hm.1 hm.2.2 hP (slot_m hm.1 hP).1).u (fun g => br1 (yes ?_)) (fun g => br0 (ih (k + 1) _ (by omega) e1 ?_))))
    · rw [← he]; rw [hi] at g; exact ⟨k, Nat.le_refl _, by omega, g⟩
    · rw [hi] at g; rw [dry_go g]; exact he
theorem m_wipe_loop {n : Nat} (hS : WF S) (h2 : 0 ≤ a2.toInt) (h3 : a3.toInt < plc S a1.toInt) (hn : (n : Int) = a3.toInt - a2.toInt + 1) : ∀ (m k : Nat) (c i : Int32) (I : Nat → Nat → Int32), k + m = n → i.toInt = a2.toInt + k → c.toInt = (wp S a1.toInt a2.toInt.toNat k).2 → MInv (wp S a1.toInt a2.toInt.toNat k).1 I J → WP ((d + 2), 269, 49, [some (.ref 71), some (.int a1), none, some (.int a3), some (.int c), some (.int i), none], [], (xSH L dr tl, I, J)) (fun v M => ∃ (r : Int32) (I1 : Nat → Nat → Int32) (J1 : Nat → Nat → Int64), v = some (.int r) ∧ r.toInt = (wp S a1.toInt a2.toInt.toNat n).2 ∧ M = (xSH L dr tl, I1, J1) ∧ keepC I I1 J J1 ∧ MInv (wp S a1.toInt a2.toInt.toNat n).1 I1 J1) := by
  have hpl := plc_le hS a1.toInt
  intro m
  induction m with
  | zero =>
    intro k c i I hk hi hcn q
    have hk' : k = n := by omega
    subst hk'
    exact w269_49 (brz lt_ti (fun h => ⟨c, I, J, rfl, hcn, rfl, keepC_refl, q⟩) (fun h => by omega))
  | succ m ih =>
    intro k c i I hk hi hcn q
    have hm := q.mb
    have cb := wp_c (S := S) (l := a1.toInt) (a := a2.toInt.toNat) k
    obtain ⟨f5, f0⟩ := wp_f (S := S) (l := a1.toInt) (a := a2.toInt.toNat) k
    have ei : i.toInt = ((a2.toInt.toNat + k : Nat) : Int) := by omega
    have hP : isP (wp S a1.toInt a2.toInt.toNat k).1 a1.toInt i.toInt := (isP_f f5 f0).mpr (plc_isP.mpr ⟨by omega, by omega⟩)
    have e1 : (i + 1).toInt = a2.toInt + ((k + 1 : Nat) : Int) := by rw [add1 (by omega) (by omega), hi]; omega
    obtain ⟨s1, s2, s3⟩ := slot_m hm.1 hP
    have k1 := (hm.2.2.2.1 _ _ hP).1
    have hb := hm.1.2.2.2.2.2.2.2.1 _ _ hP
    have after : ∀ (I1 : Nat → Nat → Int32) (t : Int), (∀ a : Nat, a ≠ 71 → a ≠ 110 → a ≠ 116 → a ≠ 117 → a ≠ 118 → I1 a = I a) → (∀ j : Nat, j ≠ 65 → j ≠ 66 → I1 71 j = I 71 j) → I1 110 = xwI I 110 (slot a1.toInt i.toInt) 0 110 → MIc (chT (wp S a1.toInt a2.toInt.toNat k).1 (slot a1.toInt i.toInt) 0) I1 → MInv (ink3 (chT (wp S a1.toInt a2.toInt.toNat k).1 (slot a1.toInt i.toInt) 0) (slot a1.toInt i.toInt) 0 0 t) (xwI I1 111 (slot a1.toInt i.toInt) 0) J := by
      intro I1 t o1 o2 o3 o4
      refine q.made (chT_or _ _ _) (hm.1.chTd hP) (by decide) (by decide) (fun _ => rfl) o4 (fun a g1 g2 g3 g4 g5 g6 g7 => ?_) (fun j g1 g2 => ?_) ?_ (fun j g => ?_) ?_ (fun j g => ?_) (fun z => absurd rfl z) (fun j g => ?_)
      · rw [xwI_ne g3]; exact o1 a g1 g2 g5 g6 g7
      · rw [xwI_ne (by decide)]; exact o2 j g1 g2
      · rw [xwI_ne (by decide), o3, xg]; rfl
      · rw [xwI_ne (by decide), o3, xgn g]
      · rw [xg]; rfl
      · rw [xgn g, o1 111 (by decide) (by decide) (by decide) (by decide) (by decide)]
      · rw [xwI_ne (by decide), o1 112 (by decide) (by decide) (by decide) (by decide) (by decide)]
    have kp : ∀ I1 : Nat → Nat → Int32, (∀ a : Nat, a ≠ 71 → a ≠ 110 → a ≠ 116 → a ≠ 117 → a ≠ 118 → I1 a = I a) → keepC I I1 J J := fun I1 o1 a ha => ⟨o1 a (by omega) (by omega) (by omega) (by omega) (by omega), rfl⟩
    refine w269_49 (brz lt_ti (fun h => by omega) (fun h => ⟨s3, ?_⟩))
    rw [s2]
    refine brz gt0 (fun g => m_comes q hP s1 fun I1 o1 o2 o3 o4 => ⟨s3, ?_⟩) (fun g => m_comes q hP s1 fun I1 o1 o2 o3 o4 => ⟨s3, ?_⟩)
    · rw [k1] at g
      have E := wp_s (S := S) (l := a1.toInt) (a := a2.toInt.toNat) (m := k) (fun z => by rw [← ei] at z; omega)
      rw [← ei] at E
      refine WP.mono (ih (k + 1) _ _ _ (by omega) e1 (by rw [E, add1 (by omega) (by omega), hcn]) (by rw [E]; exact after I1 _ o1 o2 o3 o4)) (fun v M z => ?_)
      obtain ⟨r, I3, J3, z1, z2, z3, z4, z5⟩ := z
      exact ⟨r, I3, J3, z1, z2, z3, ((kp I1 o1).tr (keepC_I (by decide))).tr z4, z5⟩
    · rw [k1] at g
      have z0 : (wp S a1.toInt a2.toInt.toNat k).1 15 (slot a1.toInt i.toInt) = 0 := by omega
      have E := wp_z (S := S) (l := a1.toInt) (a := a2.toInt.toNat) (m := k) (by rw [← ei]; exact z0)
      have q' := after I1 ((wp S a1.toInt a2.toInt.toNat k).1 17 (slot a1.toInt i.toInt)) o1 o2 o3 o4
      rw [chT, if_pos z0, ink3_id z0 (hb.2.2.2.2.1 z0)] at q'
      refine WP.mono (ih (k + 1) _ _ _ (by omega) e1 (by rw [E]; exact hcn) (by rw [E]; exact q')) (fun v M z => ?_)
      obtain ⟨r, I3, J3, z1, z2, z3, z4, z5⟩ := z
      exact ⟨r, I3, J3, z1, z2, z3, ((kp I1 o1).tr (keepC_I (by decide))).tr z4, z5⟩
theorem call_wipe : Call L (d + 6) 170 269 [.int a1, .int a2, .int a3] [.int a1, .int a2, .int a3] S := by
  by_cases h : (isP S a1.toInt a2.toInt ∧ isP S a1.toInt a3.toInt ∧ a2.toInt ≤ a3.toInt) ∧ ¬ dryIn S a1.toInt a3.toInt a2.toInt.toNat
  · obtain ⟨⟨p2, p3, le⟩, nd⟩ := h
    have z2 := plc_isP.mp p2
    have z3 := plc_isP.mp p3
    refine Call.st (wp S a1.toInt a2.toInt.toNat (a3.toInt - a2.toInt + 1).toNat).1 (wp S a1.toInt a2.toInt.toNat (a3.toInt - a2.toInt + 1).toNat).2 (fun dr tl I J q => ?_) (fun dr tl I J q => ?_)
    · have hc := q.cb
      have dr' : PB ((d + 5), 142, 0, [some (.ref 30), some (.int a1), some (.int a2), some (.int a3), none], [], (xSH L dr tl, I, J)) (dryIn S a1.toInt a3.toInt a2.toInt.toNat) (xSH L dr tl, I, J) := w142_0 (hasDry_loop hc z3.2 (a3.toInt + 1 - a2.toInt).toNat a2.toInt.toNat a2 (by omega) (by omega))
      exact w170_0 hc.2.1 ((s_told hc.2.1).v ((s_hasSpan hc.1 hc.2.1 hc.2.2.1).u (fun _ => br1 (dr'.u (fun z => absurd z nd) (fun _ => br0 (c_wipe_loop hc.1 z2.1 z3.2 (by omega) _ 0 0 a2 I (Nat.zero_add _) (by omega) rfl q)))) (fun z => absurd ⟨p2, p3, le⟩ z)))
    · have hm := q.mb
      exact w269_0 ((m_isSpan hm.1 hm.2.1).u (fun _ => br1 (m_wipe1 q p3 (fun _ => m_wipe_loop hm.1 z2.1 z3.2 (by omega) _ 0 0 a2 I (Nat.zero_add _) (by omega) rfl q) (fun z => absurd z nd) (a3.toInt + 1 - a2.toInt).toNat a2.toInt.toNat a2 (by omega) (by omega) rfl)) (fun z => absurd ⟨p2, p3, le⟩ z))
  · refine Call.st S (-1) (fun dr tl I J q => ?_) (fun dr tl I J q => ?_)
    · have hc := q.cb
      refine w170_0 hc.2.1 ((s_told hc.2.1).v ((s_hasSpan hc.1 hc.2.1 hc.2.2.1).u (fun sp => br1 ?_) (fun z => br0 ⟨-1, I, J, rfl, rfl, rfl, keepM_refl, q⟩)))
      have z2 := plc_isP.mp sp.1
      have z3 := plc_isP.mp sp.2.1
      have dr' : PB ((d + 5), 142, 0, [some (.ref 30), some (.int a1), some (.int a2), some (.int a3), none], [], (xSH L dr tl, I, J)) (dryIn S a1.toInt a3.toInt a2.toInt.toNat) (xSH L dr tl, I, J) := w142_0 (hasDry_loop hc z3.2 (a3.toInt + 1 - a2.toInt).toNat a2.toInt.toNat a2 (by have := sp.2.2; omega) (by omega))
      exact dr'.u (fun z => br1 ⟨-1, I, J, rfl, rfl, rfl, keepM_refl, q⟩) (fun nd => absurd ⟨sp, nd⟩ h)
    · have hm := q.mb
      refine w269_0 ((m_isSpan hm.1 hm.2.1).u (fun sp => br1 ?_) (fun z => br0 ⟨-1, I, J, rfl, rfl, rfl, keepC_refl, q⟩))
      have z2 := plc_isP.mp sp.1
      exact m_wipe1 q sp.2.1 (fun nd => absurd ⟨sp, nd⟩ h) (fun z => ⟨-1, I, J, rfl, rfl, rfl, keepC_refl, q⟩) (a3.toInt + 1 - a2.toInt).toNat a2.toInt.toNat a2 (by have := sp.2.2; omega) (by omega) rfl
end WIPE
