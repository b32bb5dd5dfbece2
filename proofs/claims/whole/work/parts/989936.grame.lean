/-! ===== book: the class reads parts, facts and tests ===== -/
section GRAME
variable {t : Tp} {L d dr tl : Nat} {I I0 I1 : Nat → Nat → Int32} {J : Nat → Nat → Int64} {a0 a1 a2 a3 a4 x : Int32} {r m p D : Nat} {s : Lx} {b op : Bool} {Q : Option Value → xMem → Prop} {k l v lo hi : Int} {R : (Nat → Nat → Int32) → (Nat → Nat → Int64) → Prop} {c : List Int} {sf pf ff nf tf : Lx → RL}
theorem pair_cm (hd : dr = 8 ∨ dr = 31) (ho : op = true ↔ a1.toInt < 6) (hf : op = true → CM L dr tl t 69 [some (.ref 7), some (.int (a1 + 1)), none, none] sf (D + 6)) : CM L dr tl t 72 [some (.ref 7), some (.int a1)] (pairF t sf op) (D + 7) := by
  refine ⟨fun s c I J R tp h K => w72_0 ((s_isMark (k := 40) tp h.1 rfl).u (fun y => br1 (g_canOpen hd tp h (fun lt I1 f1 g1 => br1 ?_) (fun lt I1 f1 g1 => br0 ⟨I1, J, rfl, rfl, K I1 f1 ?_⟩))) (fun y => br0 (g_fail (k := 1) hd tp h rfl (by decide) h.1.2.1 fun I1 f1 g1 => ⟨I1, J, rfl, rfl, K I1 f1 ?_⟩))), fun k l I J R tp h K => w72_0 ((s_isMarkF h.1).u (fun y => y.elim) (fun _ => br0 (g_failF hd tp h fun I1 f1 g1 => ⟨I1, J, rfl, rfl, K I1 f1 g1⟩)))⟩
  · have o1 : op = true := ho.mpr lt
    have hs := hf o1
    have E : pairF t sf op s = bnd (sf (adv t s)) fun x => bnd (mkF t 44 x.1) fun s3 => bnd (sf s3) fun y => bnd (mkF t 41 y.1) fun s5 => .ok (s5, x.2 ++ y.2) := by
      unfold pairF
      rw [if_pos y, if_pos o1]
    have tp1 := tp.fq hd f1
    -- behind a fault in the first sum
    refine hs.1 _ _ _ _ _ tp1 g1 fun I5 f5 g5 => ?_
    have tp5 := tp1.fq hd f5
    have f05 := f1.tr f5
    cases hx : sf (adv t s) with
    | error e =>
      rw [hx] at g5 E
      exact g_takeMarkF hd tp5 g5 fun I6 f6 g6 => hs.2 _ _ _ _ _ (tp5.fq hd f6) g6 fun I7 f7 g7 => g_takeMarkF hd ((tp5.fq hd f6).fq hd f7) g7 fun I8 f8 g8 => ⟨I8, J, rfl, rfl, K I8 (((f05.tr f6).tr f7).tr f8) (by rw [E]; exact g8)⟩
    | ok y1 =>
      rw [hx] at g5 E
      refine g_takeMark (k := 44) hd tp5 g5 rfl fun I6 f6 g6 => ?_
      have tp6 := tp5.fq hd f6
      have f06 := f05.tr f6
      have E2 : pairF t sf op s = bnd (mkF t 44 y1.1) fun s3 => bnd (sf s3) fun y => bnd (mkF t 41 y.1) fun s5 => .ok (s5, y1.2 ++ y.2) := E
      cases h3 : mkF t 44 y1.1 with
      | error e =>
        rw [h3] at g6 E2
        exact hs.2 _ _ _ _ _ tp6 g6 fun I7 f7 g7 => g_takeMarkF hd (tp6.fq hd f7) g7 fun I8 f8 g8 => ⟨I8, J, rfl, rfl, K I8 ((f06.tr f7).tr f8) (by rw [E2]; exact g8)⟩
      | ok s3 =>
        rw [h3] at g6 E2
        refine hs.1 _ _ _ _ _ tp6 g6 fun I7 f7 g7 => ?_
        have tp7 := tp6.fq hd f7
        have f07 := f06.tr f7
        have E3 : pairF t sf op s = bnd (sf s3) fun y => bnd (mkF t 41 y.1) fun s5 => .ok (s5, y1.2 ++ y.2) := E2
        cases h4 : sf s3 with
        | error e =>
          rw [h4] at g7 E3
          exact g_takeMarkF hd tp7 g7 fun I8 f8 g8 => ⟨I8, J, rfl, rfl, K I8 (f07.tr f8) (by rw [E3]; exact g8)⟩
        | ok y4 =>
          rw [h4] at g7 E3
          refine g_takeMark (k := 41) hd tp7 g7 rfl fun I8 f8 g8 => ⟨I8, J, rfl, rfl, K I8 (f07.tr f8) ?_⟩
          have E4 : pairF t sf op s = bnd (mkF t 41 y4.1) fun s5 => .ok (s5, y1.2 ++ y4.2) := E3
          rw [E4]
          cases h5 : mkF t 41 y4.1 with
          | error e => rw [h5] at g8; exact g8
          | ok s5 =>
            rw [h5] at g8
            have g8' : PG dr t s5 (c ++ y1.2 ++ y4.2) I8 := g8
            rw [List.append_assoc] at g8'
            exact g8'
  · have E : pairF t sf op s = .error (4, (qq t s : Int)) := by
      unfold pairF
      rw [if_pos y, if_neg (fun z => lt (ho.mp z))]
    rw [E]; exact g1
  · have E : pairF t sf op s = .error (1, (qq t s : Int)) := by
      unfold pairF
      rw [if_neg y]
    rw [E]; exact g1
theorem part_cm (hd : dr = 8 ∨ dr = 31) (ho : op = true ↔ a1.toInt < 6) (hl : lenOK t sf) (hf : op = true → ∀ D' : Nat, D + 6 ≤ D' → CM L dr tl t 69 [some (.ref 7), some (.int (a1 + 1)), none, none] sf D') : CM L dr tl t 71 [some (.ref 7), some (.int a1), none] (partF t sf op) (D + 8) := by
  have hp := pair_cm (L := L) (tl := tl) (t := t) (D := D) hd ho (fun o => hf o _ (Nat.le_refl _))
  refine ⟨fun s c I J R tp h K => ?_, fun k l I J R tp h K => ?_⟩
  · have n1 := tp.1.1
    have h5 := h.1.2.2.2.2.1
    have P0 : ∀ w : Int, (I 7 5).toInt = w → ow t s = w := fun w e => h5.symm.trans e
    have one : ∀ (w v : Int), (I 7 5).toInt = w → 0 ≤ w → w ≤ 100 → -1 - w = stepOf v → partF t sf op s = .ok (adv t s, [v]) → WP (D + 7, 93, 0, [some (.ref (dr + 13)), some (.int (I 7 5))], [], (xSH L dr tl, I, J)) (fun v M => ∃ (I2 : Nat → Nat → Int32) (J2 : Nat → Nat → Int64), v = none ∧ M = (xSH L dr tl, I2, J2) ∧ WP (D + 7, 74, 0, [some (.ref 7), none, none], [], (xSH L dr tl, I2, J2)) (fun v M => ∃ (I3 : Nat → Nat → Int32) (J3 : Nat → Nat → Int64), v = none ∧ M = (xSH L dr tl, I3, J3) ∧ (∃ (I2 : Nat → Nat → Int32) (J2 : Nat → Nat → Int64), (none : Option Value) = none ∧ (xSH L dr tl, I3, J3) = (xSH L dr tl, I2, J2) ∧ R I2 J2))) := by
      intro w v ew w0 w1 hst hE
      have k0 : kd t s ≠ 0 := ow_0 (by rw [P0 w ew]; omega)
      have lt := kd_lt k0
      have gt := adv_gt k0
      have hq := qq_le (t := t) (s := s)
      have hh := h.2.2
      refine w93_0 (by omega) (g_step0 (v := v) hd h.1 h.2.1 (by omega) (by rw [sub_ti (by show _ ≤ -1 - (I 7 5).toInt; omega) (by show -1 - (I 7 5).toInt < _; omega)]; show -1 - (I 7 5).toInt = _; omega) fun I1 f1 g1 g2 => ⟨I1, J, rfl, rfl, s_adv (tp.fq hd f1) g1 fun I2 f2 y2 => ⟨I2, J, rfl, rfl, K I2 (f1.tr (f2.fq hd)) ?_⟩⟩)
      rw [hE]
      refine ⟨y2, g2.f hd f2, ?_⟩
      rw [List.length_append]
      show c.length + 1 ≤ (adv t s).1
      omega
    have two : ∀ (w v : Int), (I 7 5).toInt = w → 0 ≤ w → w ≤ 100 → -1 - w = stepOf v → (partF t sf op s = bnd (pairF t sf op (adv t s)) fun x => .ok (x.1, x.2 ++ [v])) → WP (D + 7, 74, 0, [some (.ref 7), none, none], [], (xSH L dr tl, I, J)) (fun v M => ∃ (I2 : Nat → Nat → Int32) (J2 : Nat → Nat → Int64), v = none ∧ M = (xSH L dr tl, I2, J2) ∧ WP (D + 7, 72, 0, [some (.ref 7), some (.int a1)], [], (xSH L dr tl, I2, J2)) (fun v M => ∃ (I3 : Nat → Nat → Int32) (J3 : Nat → Nat → Int64), v = none ∧ M = (xSH L dr tl, I3, J3) ∧ WP (D + 7, 93, 0, [some (.ref (dr + 13)), some (.int (I 7 5))], [], (xSH L dr tl, I3, J3)) (fun v M => ∃ (I4 : Nat → Nat → Int32) (J4 : Nat → Nat → Int64), v = none ∧ M = (xSH L dr tl, I4, J4) ∧ (∃ (I2 : Nat → Nat → Int32) (J2 : Nat → Nat → Int64), (none : Option Value) = none ∧ (xSH L dr tl, I4, J4) = (xSH L dr tl, I2, J2) ∧ R I2 J2)))) := by
      intro w v ew w0 w1 hst hE
      have k0 : kd t s ≠ 0 := ow_0 (by rw [P0 w ew]; omega)
      have gt := adv_gt k0
      have hh := h.2.2
      refine g_adv hd tp h fun I1 f1 g1 => hp.1 _ _ _ _ _ (tp.fq hd f1) g1 fun I2 f2 g2 => ?_
      have tp2 := (tp.fq hd f1).fq hd f2
      cases hx : pairF t sf op (adv t s) with
      | error e =>
        rw [hx] at g2 hE
        exact g_ownF hd g2 fun I3 f3 g3 => ⟨I3, J, rfl, rfl, K I3 ((f1.tr f2).tr f3) (by rw [hE]; exact g3)⟩
      | ok y =>
        rw [hx] at g2 hE
        have l := len_pair (s' := y.1) (c := y.2) hl (adv_n h.1.1) hx
        refine g_own (v := v) hd tp2 g2 (by rw [List.length_append]; omega) (by omega) (by rw [ew]; exact hst) fun I3 f3 g3 => ⟨I3, J, rfl, rfl, K I3 ((f1.tr f2).tr f3) ?_⟩
        rw [hE]
        have g3' : PG dr t y.1 (c ++ y.2 ++ [v]) I3 := g3
        rw [List.append_assoc] at g3'
        exact g3'
    have t14 : (14 : Int32).toInt = 14 := rfl
    have t2 : (2 : Int32).toInt = 2 := rfl
    have t15 : (15 : Int32).toInt = 15 := rfl
    have t16 : (16 : Int32).toInt = 16 := rfl
    have t17 : (17 : Int32).toInt = 17 := rfl
    have t18 : (18 : Int32).toInt = 18 := rfl
    refine w71_0 hd (brz eq_ti (fun e1 => one 14 7 e1 (by decide) (by decide) rfl ?_) (fun e1 => brz eq_ti (fun e2 => one 2 8 e2 (by decide) (by decide) rfl ?_) (fun e2 => brz eq_ti (fun e3 => one 15 9 e3 (by decide) (by decide) rfl ?_) (fun e3 => brz eq_ti (fun e4 => one 16 10 e4 (by decide) (by decide) rfl ?_) (fun e4 => brz eq_ti (fun e5 => two 17 5 e5 (by decide) (by decide) rfl ?_) (fun e5 => brz eq_ti (fun e6 => two 18 6 e6 (by decide) (by decide) rfl ?_) (fun e6 => ?_)))))))
    · unfold partF; rw [if_pos (by omega)]
    · unfold partF; rw [if_neg (by omega), if_pos (by omega)]
    · unfold partF; rw [if_neg (by omega), if_neg (by omega), if_pos (by omega)]
    · unfold partF; rw [if_neg (by omega), if_neg (by omega), if_neg (by omega), if_pos (by omega)]
    · unfold partF; rw [if_neg (by omega), if_neg (by omega), if_neg (by omega), if_neg (by omega), if_pos (by omega)]
    · unfold partF; rw [if_neg (by omega), if_neg (by omega), if_neg (by omega), if_neg (by omega), if_neg (by omega), if_pos (by omega)]
    · have E : partF t sf op s = @ite _ (isMk t 40 s) (Classical.propDecidable _) (if op = true then bnd (sf (adv t s)) fun x => bnd (mkF t 41 x.1) fun s3 => .ok (s3, x.2) else .error (4, (qq t s : Int))) (bnd (numF t 0 9999 s) fun x => .ok (x.1, [1000 + x.2])) := by
        unfold partF; rw [if_neg (by omega), if_neg (by omega), if_neg (by omega), if_neg (by omega), if_neg (by omega), if_neg (by omega)]
      refine (s_isMark (k := 40) tp h.1 rfl).u (fun y => br1 (g_canOpen hd tp h (fun lt I1 f1 g1 => br1 ?_) (fun lt I1 f1 g1 => br0 ⟨I1, J, rfl, rfl, K I1 f1 ?_⟩))) (fun y => br0 (g_number (lo := 0) (hi := 9999) hd tp h rfl rfl fun r18 I1 f1 g1 => ?_))
      · have o1 : op = true := ho.mpr lt
        rw [if_pos y, if_pos o1] at E
        refine (hf o1 (D + 7) (by omega)).1 _ _ _ _ _ (tp.fq hd f1) g1 fun I2 f2 g2 => ?_
        have tp2 := (tp.fq hd f1).fq hd f2
        cases hx : sf (adv t s) with
        | error e =>
          rw [hx] at g2 E
          exact g_takeMarkF hd tp2 g2 fun I3 f3 g3 => ⟨I3, J, rfl, rfl, K I3 ((f1.tr f2).tr f3) (by rw [E]; exact g3)⟩
        | ok y1 =>
          rw [hx] at g2 E
          refine g_takeMark (k := 41) hd tp2 g2 rfl fun I3 f3 g3 => ⟨I3, J, rfl, rfl, K I3 ((f1.tr f2).tr f3) ?_⟩
          have E2 : partF t sf op s = bnd (mkF t 41 y1.1) fun s3 => .ok (s3, y1.2) := E
          rw [E2]
          cases h3 : mkF t 41 y1.1 with
          | error e => rw [h3] at g3; exact g3
          | ok s3 => rw [h3] at g3; exact g3
      · rw [if_pos y, if_neg (fun z => lt (ho.mp z))] at E
        rw [E]; exact g1
      · rw [if_neg y] at E
        cases hx : numF t 0 9999 s with
        | error e =>
          rw [hx] at g1 E
          exact w91_0 (by omega) (g_stepF hd g1 fun I3 f3 g3 => ⟨I3, J, rfl, rfl, I3, J, rfl, rfl, K I3 (f1.tr f3) (by rw [E]; exact g3)⟩)
        | ok y1 =>
          rw [hx] at g1 E
          have nb := numF_ok (s' := y1.1) (v := y1.2) h.1.1 hx
          have hh := h.2.2
          refine w91_0 (by omega) (g_step (v := 1000 + y1.2) hd (tp.fq hd f1) g1.1 (by omega) (by unfold stepOf; rw [if_pos (by omega), g1.2]; omega) fun I3 f3 g3 => ⟨I3, J, rfl, rfl, I3, J, rfl, rfl, K I3 (f1.tr f3) (by rw [E]; exact g3)⟩)
  · have em : ∀ z : Int32, 0 ≤ z.toInt → ¬ (I 7 5) = z := fun z hz e => by rw [eq_ti, h.1.2.2.2.1] at e; omega
    exact w71_0 hd (sk (em _ (by decide)) (sk (em _ (by decide)) (sk (em _ (by decide)) (sk (em _ (by decide)) (sk (em _ (by decide)) (sk (em _ (by decide)) ((s_isMarkF h.1).u (fun y => y.elim) (fun _ => br0 (g_numberF hd tp h fun I1 f1 g1 => w91_0 (by omega) (g_stepF hd g1 fun I2 f2 g2 => ⟨I2, J, rfl, rfl, I2, J, rfl, rfl, K I2 (f1.tr f2) g2⟩))))))))))
theorem sumO_cm (hd : dr = 8 ∨ dr = 31) : ∀ (k : Nat) (a1 : Int32), k ≤ 6 → a1.toInt = 6 - (k : Int) → ∀ D : Nat, 10 + 4 * k ≤ D → CM L dr tl t 69 [some (.ref 7), some (.int a1), none, none] (sumO t k) D := by
  intro k
  induction k with
  | zero =>
    intro a1 hk h1 D hD
    obtain ⟨D', rfl⟩ : ∃ D' : Nat, D = D' + 10 := ⟨D - 10, by omega⟩
    have hp := part_cm (L := L) (tl := tl) (t := t) (D := D') (a1 := a1) (op := false) (sf := fun _ => .error (4, 0)) hd ⟨fun z => absurd z (by decide), fun z => by omega⟩ len_err (fun z => absurd z (by decide))
    exact sum_cm (D := D' + 4) hd (prod_cm (D := D' + 3) hd hp (len_part len_err)) (len_prod (len_part len_err))
  | succ k ih =>
    intro a1 hk h1 D hD
    obtain ⟨D', rfl⟩ : ∃ D' : Nat, D = D' + 10 := ⟨D - 10, by omega⟩
    have h2 : (a1 + 1).toInt = 6 - (k : Int) := by rw [add1 (by omega) (by omega), h1]; omega
    have hp := part_cm (L := L) (tl := tl) (t := t) (D := D') (a1 := a1) (op := true) (sf := sumO t k) hd ⟨fun z => by omega, fun _ => rfl⟩ (len_sumO k) (fun _ D2 h3 => ih (a1 + 1) (by omega) h2 D2 (by omega))
    exact sum_cm (D := D' + 4) hd (prod_cm (D := D' + 3) hd hp (len_part (len_sumO k))) (len_prod (len_part (len_sumO k)))
/-- the loop of both -/
theorem both_loop (hd : dr = 8 ∨ dr = 31) (hf : CM L dr tl t 67 [some (.ref 7), some (.int a1), none] pf (D + 5)) (hl : lenOK t pf) (cp : List Int) (K : ∀ (I1 : Nat → Nat → Int32) (z : RL), frQ dr I0 I1 → z = loopT t 11 14 pf m s c → PGE dr t z cp I1 → Q none (xSH L dr tl, I1, J)) : ∀ (i : Nat) (a2 : Int32) (I : Nat → Nat → Int32), i + m = 1600 → a2.toInt = i → TP t I → frQ dr I0 I → PG dr t s (cp ++ c) I → WP ((D + 6), 66, 7, [some (.ref 7), some (.int a1), some (.int a2)], [], (xSH L dr tl, I, J)) Q := by
  have e1600 : (1600 : Int32).toInt = 1600 := rfl
  induction m generalizing s c with
  | zero =>
    intro i a2 I hi h2 tp fr0 h
    exact w66_7 hd (sk (fun z => by rw [lt_ti, h2] at z; omega) (K I _ fr0 rfl h))
  | succ m ih =>
    intro i a2 I hi h2 tp fr0 h
    have E : loopT t 11 14 pf (m + 1) s c = if ow t s = 11 then bnd (pf (adv t s)) fun x => loopT t 11 14 pf m x.1 (c ++ x.2 ++ [14]) else .ok (s, c) := rfl
    have i2 : (a2 + 1).toInt = ((i + 1 : Nat) : Int) := by rw [add1 (by omega) (by omega), h2]; rfl
    refine w66_7 hd (hit (lt_ti.mpr (by rw [h2]; omega)) (brz eq_ti (fun y => ?_) (fun y => K I _ fr0 rfl ?_)))
    · have yw : ow t s = 11 := h.1.2.2.2.2.1.symm.trans y
      have hE : loopT t 11 14 pf (m + 1) s c = bnd (pf (adv t s)) fun x => loopT t 11 14 pf m x.1 (c ++ x.2 ++ [14]) := by rw [E, if_pos yw]
      refine g_adv hd tp h fun I5 f5 g5 => hf.1 _ _ _ _ _ (tp.fq hd f5) g5 fun I6 f6 g6 => ?_
      have tp6 := (tp.fq hd f5).fq hd f6
      have gt := adv_gt (ow_0 (t := t) (s := s) (by rw [yw]; decide))
      cases hx : pf (adv t s) with
      | error e =>
        rw [hx] at g6 hE
        refine g_ownF hd g6 fun I7 f7 g7 => w66_7 hd (brz lt_ti (fun _ => sk (fun z => ?_) (K I7 _ (((fr0.tr f5).tr f6).tr f7) hE.symm g7)) (fun _ => K I7 _ (((fr0.tr f5).tr f6).tr f7) hE.symm g7))
        rw [eq_ti, g7.1.2.2.2.1] at z
        exact absurd z (by decide)
      | ok y1 =>
        rw [hx] at g6 hE
        have l := hl _ y1.1 y1.2 (adv_n h.1.1) hx
        have hh := h.2.2
        refine g_own (v := 14) hd tp6 g6 (by rw [List.length_append]; omega) (by decide) rfl fun I7 f7 g7 => ih (s := y1.1) (c := c ++ y1.2 ++ [14]) (fun I1 z fz ez gz => K I1 z fz (ez.trans hE.symm) gz) (i + 1) _ I7 (by omega) i2 (tp6.fq hd f7) (((fr0.tr f5).tr f6).tr f7) ?_
        have g7' : PG dr t y1.1 (cp ++ c ++ y1.2 ++ [14]) I7 := g7
        rw [List.append_assoc, List.append_assoc] at g7'
        rw [List.append_assoc c]
        exact g7'
    · have yw : ¬ ow t s = 11 := fun z => y (h.1.2.2.2.2.1.trans z)
      rw [E, if_neg yw]; exact h
theorem both_cm (hd : dr = 8 ∨ dr = 31) (hf : CM L dr tl t 67 [some (.ref 7), some (.int a1), none] pf (D + 5)) (hl : lenOK t pf) : CM L dr tl t 66 [some (.ref 7), some (.int a1), none] (bothF t pf) (D + 6) := by
  have em : ∀ (k l : Int) (I1 : Nat → Nat → Int32), PH dr t k l I1 → ¬ (I1 7 5) = 11 := fun k l I1 h z => by rw [eq_ti, h.1.2.2.2.1] at z; exact absurd z (by decide)
  refine ⟨fun s c I J R tp h K => w66_0 (hf.1 _ _ _ _ _ tp h fun I1 f1 g1 => ?_), fun k l I J R tp h K => w66_0 (hf.2 _ _ _ _ _ tp h fun I1 f1 g1 => ?_)⟩
  · have E : bothF t pf s = bnd (pf s) fun x => loopT t 11 14 pf 1600 x.1 x.2 := rfl
    cases hx : pf s with
    | error e =>
      rw [hx] at g1 E
      exact w66_7 hd (brz lt_ti (fun _ => sk (em _ _ _ g1) ⟨I1, J, rfl, rfl, K I1 f1 (by rw [E]; exact g1)⟩) (fun _ => ⟨I1, J, rfl, rfl, K I1 f1 (by rw [E]; exact g1)⟩))
    | ok y =>
      rw [hx] at g1 E
      exact both_loop (I0 := I) hd hf hl c (fun I2 z f2 ez g2 => ⟨I2, J, rfl, rfl, K I2 f2 (by rw [E]; have ez' : z = loopT t 11 14 pf 1600 y.1 y.2 := ez; rw [ez'] at g2; exact g2)⟩) 0 0 I1 rfl rfl (tp.fq hd f1) f1 g1
  · exact w66_7 hd (brz lt_ti (fun _ => sk (em _ _ _ g1) ⟨I1, J, rfl, rfl, K I1 f1 g1⟩) (fun _ => ⟨I1, J, rfl, rfl, K I1 f1 g1⟩))
/-- the loop of test -/
theorem test_loop (hd : dr = 8 ∨ dr = 31) (hf : CM L dr tl t 66 [some (.ref 7), some (.int a1), none] pf (D + 5)) (hl : lenOK t pf) (cp : List Int) (K : ∀ (I1 : Nat → Nat → Int32) (z : RL), frQ dr I0 I1 → z = loopT t 10 15 pf m s c → PGE dr t z cp I1 → Q none (xSH L dr tl, I1, J)) : ∀ (i : Nat) (a2 : Int32) (I : Nat → Nat → Int32), i + m = 1600 → a2.toInt = i → TP t I → frQ dr I0 I → PG dr t s (cp ++ c) I → WP ((D + 6), 65, 7, [some (.ref 7), some (.int a1), some (.int a2)], [], (xSH L dr tl, I, J)) Q := by
  have e1600 : (1600 : Int32).toInt = 1600 := rfl
  induction m generalizing s c with
  | zero =>
    intro i a2 I hi h2 tp fr0 h
    exact w65_7 hd (sk (fun z => by rw [lt_ti, h2] at z; omega) (K I _ fr0 rfl h))
  | succ m ih =>
    intro i a2 I hi h2 tp fr0 h
    have E : loopT t 10 15 pf (m + 1) s c = if ow t s = 10 then bnd (pf (adv t s)) fun x => loopT t 10 15 pf m x.1 (c ++ x.2 ++ [15]) else .ok (s, c) := rfl
    have i2 : (a2 + 1).toInt = ((i + 1 : Nat) : Int) := by rw [add1 (by omega) (by omega), h2]; rfl
    refine w65_7 hd (hit (lt_ti.mpr (by rw [h2]; omega)) (brz eq_ti (fun y => ?_) (fun y => K I _ fr0 rfl ?_)))
    · have yw : ow t s = 10 := h.1.2.2.2.2.1.symm.trans y
      have hE : loopT t 10 15 pf (m + 1) s c = bnd (pf (adv t s)) fun x => loopT t 10 15 pf m x.1 (c ++ x.2 ++ [15]) := by rw [E, if_pos yw]
      refine g_adv hd tp h fun I5 f5 g5 => hf.1 _ _ _ _ _ (tp.fq hd f5) g5 fun I6 f6 g6 => ?_
      have tp6 := (tp.fq hd f5).fq hd f6
      have gt := adv_gt (ow_0 (t := t) (s := s) (by rw [yw]; decide))
      cases hx : pf (adv t s) with
      | error e =>
        rw [hx] at g6 hE
        refine g_ownF hd g6 fun I7 f7 g7 => w65_7 hd (brz lt_ti (fun _ => sk (fun z => ?_) (K I7 _ (((fr0.tr f5).tr f6).tr f7) hE.symm g7)) (fun _ => K I7 _ (((fr0.tr f5).tr f6).tr f7) hE.symm g7))
        rw [eq_ti, g7.1.2.2.2.1] at z
        exact absurd z (by decide)
      | ok y1 =>
        rw [hx] at g6 hE
        have l := hl _ y1.1 y1.2 (adv_n h.1.1) hx
        have hh := h.2.2
        refine g_own (v := 15) hd tp6 g6 (by rw [List.length_append]; omega) (by decide) rfl fun I7 f7 g7 => ih (s := y1.1) (c := c ++ y1.2 ++ [15]) (fun I1 z fz ez gz => K I1 z fz (ez.trans hE.symm) gz) (i + 1) _ I7 (by omega) i2 (tp6.fq hd f7) (((fr0.tr f5).tr f6).tr f7) ?_
        have g7' : PG dr t y1.1 (cp ++ c ++ y1.2 ++ [15]) I7 := g7
        rw [List.append_assoc, List.append_assoc] at g7'
        rw [List.append_assoc c]
        exact g7'
    · have yw : ¬ ow t s = 10 := fun z => y (h.1.2.2.2.2.1.trans z)
      rw [E, if_neg yw]; exact h
theorem test_cm (hd : dr = 8 ∨ dr = 31) (hf : CM L dr tl t 66 [some (.ref 7), some (.int a1), none] pf (D + 5)) (hl : lenOK t pf) : CM L dr tl t 65 [some (.ref 7), some (.int a1), none] (testX t pf) (D + 6) := by
  have em : ∀ (k l : Int) (I1 : Nat → Nat → Int32), PH dr t k l I1 → ¬ (I1 7 5) = 10 := fun k l I1 h z => by rw [eq_ti, h.1.2.2.2.1] at z; exact absurd z (by decide)
  refine ⟨fun s c I J R tp h K => w65_0 (hf.1 _ _ _ _ _ tp h fun I1 f1 g1 => ?_), fun k l I J R tp h K => w65_0 (hf.2 _ _ _ _ _ tp h fun I1 f1 g1 => ?_)⟩
  · have E : testX t pf s = bnd (pf s) fun x => loopT t 10 15 pf 1600 x.1 x.2 := rfl
    cases hx : pf s with
    | error e =>
      rw [hx] at g1 E
      exact w65_7 hd (brz lt_ti (fun _ => sk (em _ _ _ g1) ⟨I1, J, rfl, rfl, K I1 f1 (by rw [E]; exact g1)⟩) (fun _ => ⟨I1, J, rfl, rfl, K I1 f1 (by rw [E]; exact g1)⟩))
    | ok y =>
      rw [hx] at g1 E
      exact test_loop (I0 := I) hd hf hl c (fun I2 z f2 ez g2 => ⟨I2, J, rfl, rfl, K I2 f2 (by rw [E]; have ez' : z = loopT t 10 15 pf 1600 y.1 y.2 := ez; rw [ez'] at g2; exact g2)⟩) 0 0 I1 rfl rfl (tp.fq hd f1) f1 g1
  · exact w65_7 hd (brz lt_ti (fun _ => sk (em _ _ _ g1) ⟨I1, J, rfl, rfl, K I1 f1 g1⟩) (fun _ => ⟨I1, J, rfl, rfl, K I1 f1 g1⟩))
theorem fact_cm (hd : dr = 8 ∨ dr = 31) (ho : op = true ↔ a1.toInt < 6) (hl : lenOK t sf) (hln : lenOK t nf) (hs : CM L dr tl t 69 [some (.ref 7), some (.int a1), none, none] sf (D + 10)) (hn : op = true → CM L dr tl t 67 [some (.ref 7), some (.int (a1 + 1)), none] nf (D + 10)) (ht : op = true → CM L dr tl t 65 [some (.ref 7), some (.int (a1 + 1)), none] tf (D + 10)) : CM L dr tl t 67 [some (.ref 7), some (.int a1), none] (factB t sf nf tf op) (D + 11) := by
  have t13 : (13 : Int32).toInt = 13 := rfl
  have t12 : (12 : Int32).toInt = 12 := rfl
  refine ⟨fun s c I J R tp h K => ?_, fun k l I J R tp h K => ?_⟩
  · have h5 := h.1.2.2.2.2.1
    have hh := h.2.2
    refine w67_0 hd (brz eq_ti (fun e1 => ?_) (fun e1 => brz eq_ti (fun e2 => ?_) (fun e2 => (s_isMark (k := 91) tp h.1 rfl).u (fun y => br1 ?_) (fun y => br0 ?_))))
    · have o : ow t s = 13 := h5.symm.trans e1
      have E : factB t sf nf tf op s = .ok (adv t s, [17]) := by unfold factB; rw [if_pos o]
      have gt := adv_gt (ow_0 (t := t) (s := s) (by rw [o]; decide))
      exact g_adv hd tp h fun I1 f1 g1 => g_own (v := 17) hd (tp.fq hd f1) g1 (by omega) (by decide) rfl fun I2 f2 g2 => ⟨I2, J, rfl, rfl, K I2 (f1.tr f2) (by rw [E]; exact g2)⟩
    · have o : ow t s = 12 := h5.symm.trans e2
      have o' : ¬ ow t s = 13 := by omega
      have gt := adv_gt (ow_0 (t := t) (s := s) (by rw [o]; decide))
      refine g_canOpen hd tp h (fun lt I1 f1 g1 => br1 ?_) (fun lt I1 f1 g1 => br0 ⟨I1, J, rfl, rfl, K I1 f1 ?_⟩)
      · have o1 : op = true := ho.mpr lt
        have E : factB t sf nf tf op s = bnd (nf (adv t s)) fun x => .ok (x.1, x.2 ++ [16]) := by unfold factB; rw [if_neg o', if_pos o, if_pos o1]
        refine (hn o1).1 _ _ _ _ _ (tp.fq hd f1) g1 fun I2 f2 g2 => ?_
        have tp2 := (tp.fq hd f1).fq hd f2
        cases hx : nf (adv t s) with
        | error e =>
          rw [hx] at g2 E
          exact g_ownF hd g2 fun I3 f3 g3 => ⟨I3, J, rfl, rfl, K I3 ((f1.tr f2).tr f3) (by rw [E]; exact g3)⟩
        | ok y =>
          rw [hx] at g2 E
          have l := hln _ y.1 y.2 (adv_n h.1.1) hx
          refine g_own (v := 16) hd tp2 g2 (by rw [List.length_append]; omega) (by decide) rfl fun I3 f3 g3 => ⟨I3, J, rfl, rfl, K I3 ((f1.tr f2).tr f3) ?_⟩
          rw [E]
          have g3' : PG dr t y.1 (c ++ y.2 ++ [16]) I3 := g3
          rw [List.append_assoc] at g3'
          exact g3'
      · have E : factB t sf nf tf op s = .error (4, (qq t s : Int)) := by unfold factB; rw [if_neg o', if_pos o, if_neg (fun z => lt (ho.mp z))]
        rw [E]; exact g1
    · have o' : ¬ ow t s = 13 := fun z => e1 (h5.trans z)
      have o2 : ¬ ow t s = 12 := fun z => e2 (h5.trans z)
      refine g_canOpen hd tp h (fun lt I1 f1 g1 => br1 ?_) (fun lt I1 f1 g1 => br0 ⟨I1, J, rfl, rfl, K I1 f1 ?_⟩)
      · have o1 : op = true := ho.mpr lt
        have E : factB t sf nf tf op s = bnd (tf (adv t s)) fun x => bnd (mkF t 93 x.1) fun s3 => .ok (s3, x.2) := by unfold factB; rw [if_neg o', if_neg o2, if_pos y, if_pos o1]
        refine (ht o1).1 _ _ _ _ _ (tp.fq hd f1) g1 fun I2 f2 g2 => ?_
        have tp2 := (tp.fq hd f1).fq hd f2
        cases hx : tf (adv t s) with
        | error e =>
          rw [hx] at g2 E
          exact g_takeMarkF hd tp2 g2 fun I3 f3 g3 => ⟨I3, J, rfl, rfl, K I3 ((f1.tr f2).tr f3) (by rw [E]; exact g3)⟩
        | ok y1 =>
          rw [hx] at g2 E
          refine g_takeMark (k := 93) hd tp2 g2 rfl fun I3 f3 g3 => ⟨I3, J, rfl, rfl, K I3 ((f1.tr f2).tr f3) ?_⟩
          have E2 : factB t sf nf tf op s = bnd (mkF t 93 y1.1) fun s3 => .ok (s3, y1.2) := E
          rw [E2]
          cases h3 : mkF t 93 y1.1 with
          | error e => rw [h3] at g3; exact g3
          | ok s3 => rw [h3] at g3; exact g3
      · have E : factB t sf nf tf op s = .error (4, (qq t s : Int)) := by unfold factB; rw [if_neg o', if_neg o2, if_pos y, if_neg (fun z => lt (ho.mp z))]
        rw [E]; exact g1
    · have o' : ¬ ow t s = 13 := fun z => e1 (h5.trans z)
      have o2 : ¬ ow t s = 12 := fun z => e2 (h5.trans z)
      have E : factB t sf nf tf op s = bnd (sf s) fun x => cmpA t sf x := by unfold factB; rw [if_neg o', if_neg o2, if_neg y]
      refine hs.1 _ _ _ _ _ tp h fun I5 f5 g5 => (s_tbyte (tp.fq hd f5)).u fun r6 h6 => ?_
      have tp5 := tp.fq hd f5
      cases hx : sf s with
      | error e =>
        rw [hx] at g5 E
        have E' : factB t sf nf tf op s = .error e := E
        exact (s_isMarkF g5.1).u (fun y => y.elim) (fun _ => br0 ((s_isMarkF g5.1).u (fun y => y.elim) (fun _ => br0 ((s_isMarkF g5.1).u (fun y => y.elim) (fun _ => br0 (g_failF hd tp5 g5 fun I6 f6 g6 => g_advF hd (tp5.fq hd f6) g6 fun I7 f7 g7 => hs.2 _ _ _ _ _ ((tp5.fq hd f6).fq hd f7) g7 fun I8 f8 g8 => g_markF hd g8 fun I9 f9 g9 => ⟨I9, J, rfl, rfl, K I9 ((((f5.tr f6).tr f7).tr f8).tr f9) (by rw [E']; exact g9)⟩))))))
      | ok x =>
        rw [hx] at g5 E
        have E' : factB t sf nf tf op s = cmpA t sf x := E
        have l1 := hl _ x.1 x.2 h.1.1 hx
        have g5' : PG dr t x.1 (c ++ x.2) I5 := g5
        have cmp : ∀ mk cc : Int, isMk t mk x.1 → 0 ≤ mk → - mk = stepOf cc → cmpA t sf x = cmpF t sf x cc → WP (D + 10, 74, 0, [some (.ref 7), none, none], [], (xSH L dr tl, I5, J)) (fun v M => ∃ (I9 : Nat → Nat → Int32) (J9 : Nat → Nat → Int64), v = none ∧ M = (xSH L dr tl, I9, J9) ∧ WP (D + 10, 69, 0, [some (.ref 7), some (.int a1), none, none], [], (xSH L dr tl, I9, J9)) (fun v M => ∃ (I10 : Nat → Nat → Int32) (J10 : Nat → Nat → Int64), v = none ∧ M = (xSH L dr tl, I10, J10) ∧ WP (D + 10, 92, 0, [some (.ref (dr + 13)), some (.int r6)], [], (xSH L dr tl, I10, J10)) (fun v M => ∃ (I11 : Nat → Nat → Int32) (J11 : Nat → Nat → Int64), v = none ∧ M = (xSH L dr tl, I11, J11) ∧ (∃ (I2 : Nat → Nat → Int32) (J2 : Nat → Nat → Int64), (none : Option Value) = none ∧ (xSH L dr tl, I11, J11) = (xSH L dr tl, I2, J2) ∧ R I2 J2)))) := by
          intro mk cc hmk m0 hst hE
          have k0 := isMk_0 hmk
          have lt := kd_lt k0
          have gt := adv_gt k0
          have r6' : r6.toInt = mk := by
            have z := h6
            rw [g5'.1.2.1, if_pos (by omega), Int.toNat_natCast, hmk.2] at z
            exact z
          have EE : factB t sf nf tf op s = bnd (sf (adv t x.1)) fun y => .ok (y.1, x.2 ++ y.2 ++ [cc]) := E'.trans hE
          refine g_adv hd tp5 g5' fun I9 f9 g9 => hs.1 _ _ _ _ _ (tp5.fq hd f9) g9 fun I10 f10 g10 => ?_
          have tp10 := (tp5.fq hd f9).fq hd f10
          cases hy : sf (adv t x.1) with
          | error e =>
            rw [hy] at g10 EE
            exact g_markF hd g10 fun I11 f11 g11 => ⟨I11, J, rfl, rfl, K I11 (((f5.tr f9).tr f10).tr f11) (by rw [EE]; exact g11)⟩
          | ok y1 =>
            rw [hy] at g10 EE
            have l2 := hl _ y1.1 y1.2 (adv_n l1.1) hy
            refine g_mark (v := cc) hd tp10 g10 (by rw [List.length_append, List.length_append]; omega) (by omega) (by rw [r6']; exact hst) fun I11 f11 g11 => ⟨I11, J, rfl, rfl, K I11 (((f5.tr f9).tr f10).tr f11) ?_⟩
            rw [EE]
            have g3' : PG dr t y1.1 (c ++ x.2 ++ y1.2 ++ [cc]) I11 := g11
            rw [List.append_assoc, List.append_assoc] at g3'
            show PG dr t y1.1 (c ++ (x.2 ++ y1.2 ++ [cc])) I11
            rw [List.append_assoc x.2]
            exact g3'
        refine (s_isMark (k := 60) tp5 g5'.1 rfl).u (fun y1 => br1 (cmp 60 11 y1 (by decide) rfl (if_pos y1))) (fun y1 => br0 ((s_isMark (k := 62) tp5 g5'.1 rfl).u (fun y2 => br1 (cmp 62 12 y2 (by decide) rfl (by unfold cmpA; rw [if_neg y1, if_pos y2]))) (fun y2 => br0 ((s_isMark (k := 61) tp5 g5'.1 rfl).u (fun y3 => br1 (cmp 61 13 y3 (by decide) rfl (by unfold cmpA; rw [if_neg y1, if_neg y2, if_pos y3]))) (fun y3 => br0 (g_fail (k := 1) hd tp5 g5' rfl (by decide) g5'.1.2.1 fun I6 f6 g6 => g_advF hd (tp5.fq hd f6) g6 fun I7 f7 g7 => hs.2 _ _ _ _ _ ((tp5.fq hd f6).fq hd f7) g7 fun I8 f8 g8 => g_markF hd g8 fun I9 f9 g9 => ⟨I9, J, rfl, rfl, K I9 ((((f5.tr f6).tr f7).tr f8).tr f9) ?_⟩))))))
        have EE : cmpA t sf x = .error (1, (qq t x.1 : Int)) := by unfold cmpA; rw [if_neg y1, if_neg y2, if_neg y3]
        rw [E', EE]; exact g9
  · have em : ∀ z : Int32, 0 ≤ z.toInt → ¬ (I 7 5) = z := fun z hz e => by rw [eq_ti, h.1.2.2.2.1] at e; omega
    exact w67_0 hd (sk (em _ (by decide)) (sk (em _ (by decide)) ((s_isMarkF h.1).u (fun y => y.elim) (fun _ => br0 (hs.2 _ _ _ _ _ tp h fun I5 f5 g5 => (s_tbyte (tp.fq hd f5)).u fun r6 h6 => (s_isMarkF g5.1).u (fun y => y.elim) (fun _ => br0 ((s_isMarkF g5.1).u (fun y => y.elim) (fun _ => br0 ((s_isMarkF g5.1).u (fun y => y.elim) (fun _ => br0 (g_failF hd (tp.fq hd f5) g5 fun I6 f6 g6 => g_advF hd ((tp.fq hd f5).fq hd f6) g6 fun I7 f7 g7 => hs.2 _ _ _ _ _ (((tp.fq hd f5).fq hd f6).fq hd f7) g7 fun I8 f8 g8 => g_markF hd g8 fun I9 f9 g9 => ⟨I9, J, rfl, rfl, K I9 ((((f5.tr f6).tr f7).tr f8).tr f9) g9⟩)))))))))))
theorem factO_cm (hd : dr = 8 ∨ dr = 31) : ∀ (k : Nat) (a1 : Int32), k ≤ 6 → a1.toInt = 6 - (k : Int) → ∀ D : Nat, 11 + 4 * k ≤ D → CM L dr tl t 67 [some (.ref 7), some (.int a1), none] (factO t k) D := by
  intro k
  induction k with
  | zero =>
    intro a1 hk h1 D hD
    obtain ⟨D', rfl⟩ : ∃ D' : Nat, D = D' + 11 := ⟨D - 11, by omega⟩
    exact fact_cm (op := false) hd ⟨fun z => absurd z (by decide), fun z => by omega⟩ (len_sumO 0) len_err (sumO_cm hd 0 a1 (by omega) h1 _ (by omega)) (fun z => absurd z (by decide)) (fun z => absurd z (by decide))
  | succ k ih =>
    intro a1 hk h1 D hD
    obtain ⟨D', rfl⟩ : ∃ D' : Nat, D = D' + 11 := ⟨D - 11, by omega⟩
    have h2 : (a1 + 1).toInt = 6 - (k : Int) := by rw [add1 (by omega) (by omega), h1]; omega
    refine fact_cm (op := true) hd ⟨fun z => by omega, fun _ => rfl⟩ (len_sumO (k + 1)) (len_factO k) (sumO_cm hd (k + 1) a1 (by omega) h1 _ (by omega)) (fun _ => ih (a1 + 1) (by omega) h2 _ (by omega)) (fun _ => ?_)
    exact test_cm (D := D' + 4) hd (both_cm (D := D' + 3) hd (ih (a1 + 1) (by omega) h2 _ (by omega)) (len_factO k)) (len_both (len_factO k))
theorem testO_cm (hd : dr = 8 ∨ dr = 31) : ∀ D : Nat, 37 ≤ D → CM L dr tl t 65 [some (.ref 7), some (.int 0), none] (testF t (factO t 6)) D := by
  intro D hD
  obtain ⟨D', rfl⟩ : ∃ D' : Nat, D = D' + 37 := ⟨D - 37, by omega⟩
  exact test_cm (D := D' + 31) hd (both_cm (D := D' + 30) hd (factO_cm hd 6 0 (by omega) rfl _ (by omega)) (len_factO 6)) (len_both (len_factO 6))
end GRAME
