/-! ===== write, read ===== -/
section WRITE
variable {S T : aS} {L d dr tl : Nat} {I I2 : Nat → Nat → Int32} {J : Nat → Nat → Int64} {a1 a2 a3 a4 a5 a6 : Int32} {x j : Nat} {v e t n : Int}
/-- a sign written with an ink -/
def penS (S : aS) (l p v k : Int) : aS := ink3 (chT S (slot l p) v) (slot l p) v (eyesV S l p v (S 2 k.toNat)) (sHr S)
theorem eyesV_b {l p : Int} {k : Nat} (hw : WF S) (h : (k : Int) < sNI S) : 0 ≤ eyesV S l p v (S 2 k) ∧ eyesV S l p v (S 2 k) ≤ 99 := by
  have := hw.2.1.2.2 k h
  exact eyF_b ⟨by omega, by omega⟩ _ _
theorem s_pen {R : (Nat → Nat → Int32) → (Nat → Nat → Int64) → Prop} (q : CInv S dr tl I J) (hP : isP S a1.toInt a2.toInt) (h3 : 1 ≤ a3.toInt ∧ a3.toInt ≤ 26) (h4 : 0 ≤ a4.toInt ∧ a4.toInt < sNI S)
    (K : ∀ I1 : Nat → Nat → Int32, keepM I I1 J J → CInv (penS S a1.toInt a2.toInt a3.toInt a4.toInt) dr tl I1 J → R I1 J) :
    WP ((d + 6), 149, 0, [some (.ref 30), some (.int a1), some (.int a2), some (.int a3), some (.int a4), none], [], (xSH L dr tl, I, J)) (fun v M => ∃ (I2 : Nat → Nat → Int32) (J2 : Nat → Nat → Int64), v = none ∧ M = (xSH L dr tl, I2, J2) ∧ R I2 J2) := by
  have hc := q.cb
  have hB := isP_b hc.1 hP
  have hi := hc.1.2.1.2.2 a4.toInt.toNat (by omega)
  have eb := eyesV_b (l := a1.toInt) (p := a2.toInt) (v := a3.toInt) (k := a4.toInt.toNat) hc.1 (by omega)
  refine w149_0 hc.2.1 ((s_eyesOf hc.1 hc.2.1 hc.2.2.1).u fun r1 e1 => ?_)
  rw [if_pos h4] at e1
  refine s_eyesFor q ⟨by omega, by omega⟩ ⟨by omega, by omega⟩ ⟨by omega, by omega⟩ ⟨by omega, by omega⟩ fun r2 I1 e2 f1 q1 => s_setLetter q1 hP (by omega) (by rw [e2, e1]; exact eb) (fun z => by omega) fun I2 f2 q2 => ⟨_, _, rfl, rfl, K I2 (f1.tr f2) ?_⟩
  rw [e2, e1] at q2
  exact q2
theorem ink3_2 {x : Nat} {v' e' t' : Int} : ink3 (ink3 S x v' e' t') x v e t = ink3 S x v e t := by
  funext f k
  unfold ink3 sset
  by_cases e1 : f = 17 ∧ k = x
  · simp only [if_pos e1]
  · by_cases e2 : f = 16 ∧ k = x
    · simp only [if_neg e1, if_pos e2]
    · by_cases e3 : f = 15 ∧ k = x
      · simp only [if_neg e1, if_neg e2, if_pos e3]
      · simp only [if_neg e1, if_neg e2, if_neg e3]
theorem eyF_c {g : Nat → Int} {nd : Int} (h13 : T 13 = S 13) (h14 : T 14 = S 14) : ∀ m u : Nat, eyF T g nd m u = eyF S g nd m u := by
  intro m
  induction m with
  | zero => intro u; rfl
  | succ m ih =>
    intro u
    unfold eyF tstV sumV
    rw [h13, h14, ih]
theorem eyesV_c {l p nd : Int} (h13 : T 13 = S 13) (h14 : T 14 = S 14) (h4 : T 0 4 = S 0 4) : eyesV T l p v nd = eyesV S l p v nd := by
  unfold eyesV sNU
  rw [h4]
  exact eyF_c h13 h14 _ _
theorem m_pen {R : (Nat → Nat → Int32) → (Nat → Nat → Int64) → Prop} (q : MInv S I J) (hRW : RW S) (hP : isP S a1.toInt a2.toInt) (h3 : 1 ≤ a3.toInt ∧ a3.toInt ≤ 26) (h4 : 0 ≤ a4.toInt ∧ a4.toInt < sNI S)
    (K : ∀ (I1 : Nat → Nat → Int32) (J1 : Nat → Nat → Int64), keepC I I1 J J1 → MInv (penS S a1.toInt a2.toInt a3.toInt a4.toInt) I1 J1 → R I1 J1) :
    WP ((d + 5), 267, 0, [some (.ref 71), some (.int ((64 * a1) + a2)), some (.int a3), none], [], (xSH L dr tl, I, J)) (fun v M => ∃ (I9 : Nat → Nat → Int32) (J9 : Nat → Nat → Int64), v = none ∧ M = (xSH L dr tl, I9, J9) ∧ WP ((d + 5), 254, 0, [some (.ref 71), some (.int a1), some (.int a2), some (.int a3), some (.int a4), none], [], (xSH L dr tl, I9, J9)) (fun v M => ∃ (I10 : Nat → Nat → Int32) (J10 : Nat → Nat → Int64), v = none ∧ M = (xSH L dr tl, I10, J10) ∧ R I10 J10)) := by
  have hm := q.mb
  have hB := isP_b q.1 hP
  obtain ⟨s1, s2, s3⟩ := slot_m q.1 hP
  obtain ⟨k1, k2, k3, k4⟩ := hm.2.2.2.1 _ _ hP
  have hb := q.1.2.2.2.2.2.2.2.1 _ _ hP
  have eb := eyesV_b (l := a1.toInt) (p := a2.toInt) (v := a3.toInt) (k := a4.toInt.toNat) q.1 (by omega)
  refine m_comes q hP s1 fun I1 o1 o2 o3 o4 => w254_0 ⟨s3, ?_⟩
  rw [s2]
  have e110 : xwI I1 110 (slot a1.toInt a2.toInt) a3 = I1 := by
    funext a k
    by_cases ea : a = 110
    · rw [ea]
      by_cases ek : k = slot a1.toInt a2.toInt
      · rw [ek, xg, o3, xg]
      · rw [xgn ek]
    · rw [xwI_ne ea]
  rw [e110]
  have hU := chT_or S (slot a1.toInt a2.toInt) a3.toInt
  have q1 : MInv (ink3 (chT S (slot a1.toInt a2.toInt) a3.toInt) (slot a1.toInt a2.toInt) a3.toInt (S 16 (slot a1.toInt a2.toInt)) ((I 112 (slot a1.toInt a2.toInt)).toInt)) I1 J := by
    refine q.made hU (q.1.chTd hP) (by omega) ⟨hb.2.2.1, hb.2.2.2.1⟩ (fun z => by omega) o4 (fun a g1 g2 g3 g4 g5 g6 g7 => o1 a g1 g2 g5 g6 g7) o2 ?_ (fun j hj => ?_) ?_ (fun j hj => ?_) (fun _ _ => ?_) (fun j hj => ?_)
    · rw [o3, xg]
    · rw [o3, xgn hj]
    · rw [o1 111 (by decide) (by decide) (by decide) (by decide) (by decide)]; exact k2
    · rw [o1 111 (by decide) (by decide) (by decide) (by decide) (by decide)]
    · rw [o1 112 (by decide) (by decide) (by decide) (by decide) (by decide)]
    · rw [o1 112 (by decide) (by decide) (by decide) (by decide) (by decide)]
  have kc : keepC I I1 J J := fun a ha => ⟨o1 a (by omega) (by omega) (by omega) (by omega) (by omega), rfl⟩
  have rw1 : RW (ink3 (chT S (slot a1.toInt a2.toInt) a3.toInt) (slot a1.toInt a2.toInt) a3.toInt (S 16 (slot a1.toInt a2.toInt)) ((I 112 (slot a1.toInt a2.toInt)).toInt)) := by
    rcases hU with h | ⟨_, _, h⟩ <;> rw [h] <;> exact hRW
  have ev1 : eyesV (ink3 (chT S (slot a1.toInt a2.toInt) a3.toInt) (slot a1.toInt a2.toInt) a3.toInt (S 16 (slot a1.toInt a2.toInt)) ((I 112 (slot a1.toInt a2.toInt)).toInt)) a1.toInt a2.toInt a3.toInt (ink3 (chT S (slot a1.toInt a2.toInt) a3.toInt) (slot a1.toInt a2.toInt) a3.toInt (S 16 (slot a1.toInt a2.toInt)) ((I 112 (slot a1.toInt a2.toInt)).toInt) 2 a4.toInt.toNat) = eyesV S a1.toInt a2.toInt a3.toInt (S 2 a4.toInt.toNat) := by
    rcases hU with h | ⟨_, _, h⟩ <;> rw [h] <;> exact eyesV_c rfl rfl rfl
  have h4' : 0 ≤ a4.toInt ∧ a4.toInt < sNI (ink3 (chT S (slot a1.toInt a2.toInt) a3.toInt) (slot a1.toInt a2.toInt) a3.toInt (S 16 (slot a1.toInt a2.toInt)) ((I 112 (slot a1.toInt a2.toInt)).toInt)) := by
    rcases hU with h | ⟨_, _, h⟩ <;> rw [h] <;> exact h4
  have hr1 : sHr (ink3 (chT S (slot a1.toInt a2.toInt) a3.toInt) (slot a1.toInt a2.toInt) a3.toInt (S 16 (slot a1.toInt a2.toInt)) ((I 112 (slot a1.toInt a2.toInt)).toInt)) = sHr S := by
    rcases hU with h | ⟨_, _, h⟩ <;> rw [h] <;> rfl
  refine m_eyesFor q1 rw1 ⟨by omega, by omega⟩ ⟨by omega, by omega⟩ ⟨by omega, by omega⟩ h4' fun r2 I2 J2 e2 f2 q2 => ⟨s3, s3, ?_⟩
  rw [ev1] at e2
  have fin : ∀ I3 : Nat → Nat → Int32, (∀ a : Nat, a ≠ 111 → a ≠ 112 → I3 a = I2 a) → (I3 111 (slot a1.toInt a2.toInt)) = r2 → (∀ j, j ≠ slot a1.toInt a2.toInt → I3 111 j = I2 111 j) → (r2.toInt = 0 → (I3 112 (slot a1.toInt a2.toInt)).toInt = sHr S) → (∀ j, j ≠ slot a1.toInt a2.toInt → I3 112 j = I2 112 j) → R I3 J2 := by
    intro I3 p1 p2 p3 p4 p5
    refine K I3 J2 (kc.tr (f2.tr fun a ha => ⟨p1 a (by omega) (by omega), rfl⟩)) ?_
    have cc : MIc (ink3 (chT S (slot a1.toInt a2.toInt) a3.toInt) (slot a1.toInt a2.toInt) a3.toInt (S 16 (slot a1.toInt a2.toInt)) ((I 112 (slot a1.toInt a2.toInt)).toInt)) I3 := by
      have g := q2.2.2.2.2.1
      unfold MIc at *
      rw [p1 71 (by decide) (by decide), p1 116 (by decide) (by decide), p1 117 (by decide) (by decide), p1 118 (by decide) (by decide)]; exact g
    have q3 := q2.made (I2 := I3) (x := slot a1.toInt a2.toInt) (v := a3.toInt) (e := eyesV S a1.toInt a2.toInt a3.toInt (S 2 a4.toInt.toNat)) (t := sHr S) (Or.inl rfl) q2.1 (by omega) eb (fun z => by omega) cc (fun a g1 g2 g3 g4 g5 g6 g7 => p1 a g3 g4) (fun j _ _ => by rw [p1 71 (by decide) (by decide)]) (by
      rw [p1 110 (by decide) (by decide)]
      have := (q2.2.2.2.1.2.1 a1.toInt a2.toInt (by rcases hU with h | ⟨_, _, h⟩ <;> rw [h] <;> exact hP)).1
      rw [this, ink15]) (fun j hj => by rw [p1 110 (by decide) (by decide)]) (by rw [p2]; exact e2) p3 (fun _ z => p4 (by rw [e2]; exact z)) p5
    rw [ink3_2] at q3
    exact q3
  rw [xg]
  refine brz eq0 (fun z => ⟨s3, _, _, rfl, rfl, fin _ (fun a g1 g2 => by rw [xwI_ne g2, xwI_ne g1]) (by rw [xwI_ne (by decide), xg]) (fun j hj => by rw [xwI_ne (by decide), xgn hj]) (fun _ => ?_) (fun j hj => by rw [xgn hj, xwI_ne (by decide)])⟩) (fun z => ⟨s3, _, _, rfl, rfl, fin _ (fun a g1 g2 => by rw [xwI_ne g2, xwI_ne g1]) (by rw [xwI_ne (by decide), xg]) (fun j hj => by rw [xwI_ne (by decide), xgn hj]) (fun y => absurd y z) (fun j hj => by rw [xgn hj, xwI_ne (by decide)])⟩)
  rw [xg, xwI_ne (by decide), q2.2.2.2.1.1]; exact hr1
theorem lt1 {a : Int32} : a < 1 ↔ a.toInt < 1 := lt_ti
theorem gt26 {a : Int32} : 26 < a ↔ 26 < a.toInt := lt_ti
theorem gt99 {a : Int32} : 99 < a ↔ 99 < a.toInt := lt_ti
theorem pen_e {l p k : Int} : penS S l p v k 16 (slot l p) = eyesV S l p v (S 2 k.toNat) := ink16
theorem pen_P {l p k l' p' : Int} : isP (penS S l p v k) l' p' ↔ isP S l' p' := by
  unfold penS
  have := chT_5 (S := S) (x := slot l p) (v := v)
  exact isP_f (T := ink3 (chT S (slot l p) v) (slot l p) v (eyesV S l p v (S 2 k.toNat)) (sHr S)) this.1 this.2
theorem call_write : Call L (d + 7) 171 270 [.int a1, .int a2, .int a3, .int a4] [.int a1, .int a2, .int a3, .int a4] S := by
  refine Call.rw fun hRW => ?_
  by_cases h : isP S a1.toInt a2.toInt ∧ (1 ≤ a3.toInt ∧ a3.toInt ≤ 26) ∧ (0 ≤ a4.toInt ∧ a4.toInt < sNI S) ∧ ¬ such S (slot a1.toInt a2.toInt) 1 = true
  · obtain ⟨hP, h3, h4, nd⟩ := h
    refine Call.st (penS S a1.toInt a2.toInt a3.toInt a4.toInt) (eyesV S a1.toInt a2.toInt a3.toInt (S 2 a4.toInt.toNat)) (fun dr tl I J q => ?_) (fun dr tl I J q => ?_)
    · have hc := q.cb
      refine w171_0 hc.2.1 ((s_told hc.2.1).v ((s_hasPlace hc.1 hc.2.1 hc.2.2.1).u (fun _ => br1 (brz lt1 (fun z => by omega) (fun _ => brz gt26 (fun z => by omega) (fun _ => (s_hasInk hc.2.1 hc.2.2.1).u (fun _ => br1 ((s_isSuch hc).u (fun z => absurd z.2 nd) (fun _ => br0 (s_pen q hP h3 h4 fun I1 f1 q1 => (s_eyesAt q1.cb).u fun r er => ⟨r, I1, J, rfl, ?_, rfl, f1, q1⟩)))) (fun z => absurd h4 z))))) (fun z => absurd hP z)))
      rw [er, if_pos (pen_P.mpr hP), pen_e]
    · have hm := q.mb
      obtain ⟨s1, s2, s3⟩ := slot_m q.1 hP
      have e5 : (I 93 5 - 1).toInt = sNI S - 1 := by rw [sub1 (by have := q.1.2.1.1; rw [q.2.1.1.1]; omega), q.2.1.1.1]
      refine w270_0 ((m_isPlace hm.1 hm.2.1).u (fun _ => br1 (m_isIn.u (fun _ => br1 (m_isIn.u (fun _ => br1 ((m_isDry hm.1 hm.2.2 hP s1).u (fun z => absurd z nd) (fun _ => br0 (m_pen q hRW hP h3 h4 fun I1 J1 f1 q1 => ⟨s3, _, I1, J1, rfl, ?_, rfl, f1, q1⟩)))) (fun z => ?_))) (fun z => ?_))) (fun z => absurd hP z))
      · rw [s2, (q1.2.2.2.1.2.1 _ _ (pen_P.mpr hP)).2.1, pen_e]
      · rw [t64, t64, e5] at z; exact absurd ⟨show (0 : Int) ≤ _ from h4.1, by omega⟩ z
      · rw [t64] at z; exact absurd (show (1 : Int) ≤ _ ∧ _ ≤ (26 : Int) from h3) z
  · refine Call.st S (-1) (fun dr tl I J q => ?_) (fun dr tl I J q => ?_)
    · have hc := q.cb
      refine w171_0 hc.2.1 ((s_told hc.2.1).v ((s_hasPlace hc.1 hc.2.1 hc.2.2.1).u (fun hP => br1 (brz lt1 (fun z => ⟨-1, I, J, rfl, rfl, rfl, keepM_refl, q⟩) (fun z1 => brz gt26 (fun z => ⟨-1, I, J, rfl, rfl, rfl, keepM_refl, q⟩) (fun z2 => (s_hasInk hc.2.1 hc.2.2.1).u (fun h4 => br1 ((s_isSuch hc).u (fun z => br1 ⟨-1, I, J, rfl, rfl, rfl, keepM_refl, q⟩) (fun z => absurd ⟨hP, by omega, h4, fun y => z ⟨hP, y⟩⟩ h))) (fun z => br0 ⟨-1, I, J, rfl, rfl, rfl, keepM_refl, q⟩))))) (fun z => br0 ⟨-1, I, J, rfl, rfl, rfl, keepM_refl, q⟩)))
    · have hm := q.mb
      have e5 : (I 93 5 - 1).toInt = sNI S - 1 := by rw [sub1 (by have := q.1.2.1.1; rw [q.2.1.1.1]; omega), q.2.1.1.1]
      refine w270_0 ((m_isPlace hm.1 hm.2.1).u (fun hP => br1 (m_isIn.u (fun z3 => br1 (m_isIn.u (fun z4 => br1 ((m_isDry hm.1 hm.2.2 hP (slot_m q.1 hP).1).u (fun z => br1 ⟨-1, I, J, rfl, rfl, rfl, keepC_refl, q⟩) (fun z => ?_))) (fun z => br0 ⟨-1, I, J, rfl, rfl, rfl, keepC_refl, q⟩))) (fun z => br0 ⟨-1, I, J, rfl, rfl, rfl, keepC_refl, q⟩))) (fun z => br0 ⟨-1, I, J, rfl, rfl, rfl, keepC_refl, q⟩))
      rw [t64] at z3
      rw [t64, t64, e5] at z4
      have y3 : (1 : Int) ≤ a3.toInt ∧ a3.toInt ≤ (26 : Int) := z3
      have y4 : (0 : Int) ≤ a4.toInt ∧ a4.toInt ≤ sNI S - 1 := z4
      exact absurd ⟨hP, y3, ⟨y4.1, by omega⟩, z⟩ h
/-- n eyes over m signs from place a on -/
def rdS (S : aS) (l : Int) (a : Nat) (n : Int) : Nat → aS × Int
  | 0 => (S, 0)
  | m + 1 => (seenS (rdS S l a n m).1 (slot l (a + m : Nat)) n (sHr S), (rdS S l a n m).2 + seenN (rdS S l a n m).1 (slot l (a + m : Nat)) n)
theorem rdS_f {l : Int} {a f : Nat} (h1 : f ≠ 15) (h2 : f ≠ 16) (h3 : f ≠ 17) : ∀ m : Nat, (rdS S l a n m).1 f = S f := by
  intro m
  induction m with
  | zero => rfl
  | succ m ih => rw [rdS]; exact (seenS_f h1 h2 h3).trans ih
theorem rdS_c {l : Int} {a : Nat} : ∀ m : Nat, 0 ≤ (rdS S l a n m).2 ∧ (rdS S l a n m).2 ≤ m := by
  intro m
  induction m with
  | zero => exact ⟨(by decide : (0 : Int) ≤ 0), (by decide : (0 : Int) ≤ 0)⟩
  | succ m ih =>
    have := seenN_b (S := (rdS S l a n m).1) (x := slot l (a + m : Nat)) (n := n)
    rw [rdS]; dsimp only; omega
theorem c_read_loop {n : Nat} (hS : WF S) (h2 : 0 ≤ a2.toInt) (h3 : a3.toInt < plc S a1.toInt) (h4 : 1 ≤ a4.toInt ∧ a4.toInt ≤ 99) (hn : (n : Int) = a3.toInt - a2.toInt + 1) : ∀ (m k : Nat) (c i : Int32) (I : Nat → Nat → Int32), k + m = n → i.toInt = a2.toInt + k → c.toInt = (rdS S a1.toInt a2.toInt.toNat a4.toInt k).2 → CInv (rdS S a1.toInt a2.toInt.toNat a4.toInt k).1 dr tl I J → WP ((d + 5), 169, 37, [some (.ref 2), some (.int a1), none, some (.int a3), some (.int a4), some (.int c), some (.int i)], [], (xSH L dr tl, I, J)) (altPost (rdS S a1.toInt a2.toInt.toNat a4.toInt n).1 L dr tl I J (rdS S a1.toInt a2.toInt.toNat a4.toInt n).2) := by
  have hpl := plc_le hS a1.toInt
  intro m
  induction m with
  | zero =>
    intro k c i I hk hi hcn q
    have hk' : k = n := by omega
    subst hk'
    exact w169_37 (brz lt_ti (fun h => ⟨c, I, J, rfl, hcn, rfl, keepM_refl, q⟩) (fun h => by omega))
  | succ m ih =>
    intro k c i I hk hi hcn q
    have hc := q.cb
    have cb := rdS_c (S := S) (l := a1.toInt) (a := a2.toInt.toNat) (n := a4.toInt) k
    have f5 := rdS_f (S := S) (l := a1.toInt) (a := a2.toInt.toNat) (n := a4.toInt) (f := 5) (by decide) (by decide) (by decide) k
    have f0 := rdS_f (S := S) (l := a1.toInt) (a := a2.toInt.toNat) (n := a4.toInt) (f := 0) (by decide) (by decide) (by decide) k
    have ei : i.toInt = ((a2.toInt.toNat + k : Nat) : Int) := by omega
    have hP : isP (rdS S a1.toInt a2.toInt.toNat a4.toInt k).1 a1.toInt i.toInt := (isP_f f5 (by rw [f0])).mpr (plc_isP.mpr ⟨by omega, by omega⟩)
    have e1 : (i + 1).toInt = a2.toInt + ((k + 1 : Nat) : Int) := by rw [add1 (by omega) (by omega), hi]; omega
    have nb := seenN_b (S := (rdS S a1.toInt a2.toInt.toNat a4.toInt k).1) (x := slot a1.toInt i.toInt) (n := a4.toInt)
    have E : rdS S a1.toInt a2.toInt.toNat a4.toInt (k + 1) = (seenS (rdS S a1.toInt a2.toInt.toNat a4.toInt k).1 (slot a1.toInt i.toInt) a4.toInt (sHr S), (rdS S a1.toInt a2.toInt.toNat a4.toInt k).2 + seenN (rdS S a1.toInt a2.toInt.toNat a4.toInt k).1 (slot a1.toInt i.toInt) a4.toInt) := by rw [rdS, ei]
    refine w169_37 (brz lt_ti (fun h => by omega) (fun h => (s_hour hc.2.2.2).u fun r1 h1 => s_giveEyes q hP (by omega) fun r2 I1 h2 f1 q1 => ?_))
    have hh : r1.toInt = sHr S := by rw [h1]; show (rdS S a1.toInt a2.toInt.toNat a4.toInt k).1 0 8 = S 0 8; rw [f0]
    rw [hh] at q1
    refine WP.mono (ih (k + 1) _ _ I1 (by omega) e1 (by rw [E, add_ti (by omega) (by omega), hcn, h2]) (by rw [E]; exact q1)) (fun v M z => ?_)
    obtain ⟨r, I3, J3, z1, z2, z3, z4, z5⟩ := z
    exact ⟨r, I3, J3, z1, z2, z3, f1.tr z4, z5⟩
theorem m_read_loop {n : Nat} (hS : WF S) (h2 : 0 ≤ a2.toInt) (h3 : a3.toInt < plc S a1.toInt) (h4 : 1 ≤ a4.toInt ∧ a4.toInt ≤ 99) (hn : (n : Int) = a3.toInt - a2.toInt + 1) : ∀ (m k : Nat) (c i : Int32) (I : Nat → Nat → Int32), k + m = n → i.toInt = a2.toInt + k → c.toInt = (rdS S a1.toInt a2.toInt.toNat a4.toInt k).2 → MInv (rdS S a1.toInt a2.toInt.toNat a4.toInt k).1 I J → WP ((d + 5), 268, 31, [some (.ref 71), some (.int a1), none, some (.int a3), some (.int a4), some (.int c), some (.int i)], [], (xSH L dr tl, I, J)) (fun v M => ∃ (r : Int32) (I1 : Nat → Nat → Int32) (J1 : Nat → Nat → Int64), v = some (.int r) ∧ r.toInt = (rdS S a1.toInt a2.toInt.toNat a4.toInt n).2 ∧ M = (xSH L dr tl, I1, J1) ∧ keepC I I1 J J1 ∧ MInv (rdS S a1.toInt a2.toInt.toNat a4.toInt n).1 I1 J1) := by
  have hpl := plc_le hS a1.toInt
  intro m
  induction m with
  | zero =>
    intro k c i I hk hi hcn q
    have hk' : k = n := by omega
    subst hk'
    exact w268_31 (brz lt_ti (fun h => ⟨c, I, J, rfl, hcn, rfl, keepC_refl, q⟩) (fun h => by omega))
  | succ m ih =>
    intro k c i I hk hi hcn q
    have hm := q.mb
    have cb := rdS_c (S := S) (l := a1.toInt) (a := a2.toInt.toNat) (n := a4.toInt) k
    have f5 := rdS_f (S := S) (l := a1.toInt) (a := a2.toInt.toNat) (n := a4.toInt) (f := 5) (by decide) (by decide) (by decide) k
    have f0 := rdS_f (S := S) (l := a1.toInt) (a := a2.toInt.toNat) (n := a4.toInt) (f := 0) (by decide) (by decide) (by decide) k
    have ei : i.toInt = ((a2.toInt.toNat + k : Nat) : Int) := by omega
    have hP : isP (rdS S a1.toInt a2.toInt.toNat a4.toInt k).1 a1.toInt i.toInt := (isP_f f5 (by rw [f0])).mpr (plc_isP.mpr ⟨by omega, by omega⟩)
    have e1 : (i + 1).toInt = a2.toInt + ((k + 1 : Nat) : Int) := by rw [add1 (by omega) (by omega), hi]; omega
    have nb := seenN_b (S := (rdS S a1.toInt a2.toInt.toNat a4.toInt k).1) (x := slot a1.toInt i.toInt) (n := a4.toInt)
    have E : rdS S a1.toInt a2.toInt.toNat a4.toInt (k + 1) = (seenS (rdS S a1.toInt a2.toInt.toNat a4.toInt k).1 (slot a1.toInt i.toInt) a4.toInt (sHr S), (rdS S a1.toInt a2.toInt.toNat a4.toInt k).2 + seenN (rdS S a1.toInt a2.toInt.toNat a4.toInt k).1 (slot a1.toInt i.toInt) a4.toInt) := by rw [rdS, ei]
    have hh : (I 71 55).toInt = sHr S := by rw [hm.2.2.1]; show (rdS S a1.toInt a2.toInt.toNat a4.toInt k).1 0 8 = S 0 8; rw [f0]
    refine w268_31 (brz lt_ti (fun h => by omega) (fun h => m_seen q hP (slot_m hm.1 hP).1 (by omega) fun r2 I1 h2 f1 q1 => ?_))
    rw [hh] at q1
    refine WP.mono (ih (k + 1) _ _ I1 (by omega) e1 (by rw [E, add_ti (by omega) (by omega), hcn, h2]) (by rw [E]; exact q1)) (fun v M z => ?_)
    obtain ⟨r, I3, J3, z1, z2, z3, z4, z5⟩ := z
    exact ⟨r, I3, J3, z1, z2, z3, f1.kc.tr z4, z5⟩
theorem call_read : Call L (d + 6) 169 268 [.int a1, .int a2, .int a3, .int a4] [.int a1, .int a2, .int a3, .int a4] S := by
  by_cases h : (isP S a1.toInt a2.toInt ∧ isP S a1.toInt a3.toInt ∧ a2.toInt ≤ a3.toInt) ∧ 1 ≤ a4.toInt ∧ a4.toInt ≤ 99
  · obtain ⟨⟨p2, p3, le⟩, h4⟩ := h
    have z2 := plc_isP.mp p2
    have z3 := plc_isP.mp p3
    refine Call.st (rdS S a1.toInt a2.toInt.toNat a4.toInt (a3.toInt - a2.toInt + 1).toNat).1 (rdS S a1.toInt a2.toInt.toNat a4.toInt (a3.toInt - a2.toInt + 1).toNat).2 (fun dr tl I J q => ?_) (fun dr tl I J q => ?_)
    · have hc := q.cb
      exact w169_0 hc.2.1 ((s_told hc.2.1).v ((s_hasSpan hc.1 hc.2.1 hc.2.2.1).u (fun _ => br1 (brz lt1 (fun z => by omega) (fun _ => brz gt99 (fun z => by omega) (fun _ => c_read_loop hc.1 z2.1 z3.2 h4 (by omega) _ 0 0 a2 I (Nat.zero_add _) (by omega) rfl q)))) (fun z => absurd ⟨p2, p3, le⟩ z)))
    · have hm := q.mb
      refine w268_0 ((m_isSpan hm.1 hm.2.1).u (fun _ => br1 (m_isIn.u (fun _ => br1 (m_read_loop hm.1 z2.1 z3.2 h4 (by omega) _ 0 0 a2 I (Nat.zero_add _) (by omega) rfl q)) (fun z => ?_))) (fun z => absurd ⟨p2, p3, le⟩ z))
      rw [t64] at z; exact absurd (show (1 : Int) ≤ _ ∧ _ ≤ (99 : Int) from h4) z
  · refine Call.st S (-1) (fun dr tl I J q => ?_) (fun dr tl I J q => ?_)
    · have hc := q.cb
      exact w169_0 hc.2.1 ((s_told hc.2.1).v ((s_hasSpan hc.1 hc.2.1 hc.2.2.1).u (fun sp => br1 (brz lt1 (fun z => ⟨-1, I, J, rfl, rfl, rfl, keepM_refl, q⟩) (fun z1 => brz gt99 (fun z => ⟨-1, I, J, rfl, rfl, rfl, keepM_refl, q⟩) (fun z2 => absurd ⟨sp, by omega, by omega⟩ h)))) (fun z => br0 ⟨-1, I, J, rfl, rfl, rfl, keepM_refl, q⟩)))
    · have hm := q.mb
      refine w268_0 ((m_isSpan hm.1 hm.2.1).u (fun sp => br1 (m_isIn.u (fun z => ?_) (fun z => br0 ⟨-1, I, J, rfl, rfl, rfl, keepC_refl, q⟩))) (fun z => br0 ⟨-1, I, J, rfl, rfl, rfl, keepC_refl, q⟩))
      rw [t64] at z
      have z' : (1 : Int) ≤ a4.toInt ∧ a4.toInt ≤ (99 : Int) := z
      exact absurd ⟨sp, z'⟩ h
end WRITE
