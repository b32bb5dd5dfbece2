/-! ===== book: the class reads sums and tests ===== -/
/-- a method of the class's parser reads f -/
def CM (L dr tl : Nat) (t : Tp) (mt : Nat) (ls : xLs) (f : Lx → RL) (D : Nat) : Prop :=
  (∀ (s : Lx) (c : List Int) (I : Nat → Nat → Int32) (J : Nat → Nat → Int64) (R : (Nat → Nat → Int32) → (Nat → Nat → Int64) → Prop), TP t I → PG dr t s c I → (∀ I1 : Nat → Nat → Int32, frQ dr I I1 → PGE dr t (f s) c I1 → R I1 J) → WP (D, mt, 0, ls, [], (xSH L dr tl, I, J)) (fun v M => ∃ (I2 : Nat → Nat → Int32) (J2 : Nat → Nat → Int64), v = none ∧ M = (xSH L dr tl, I2, J2) ∧ R I2 J2)) ∧
  (∀ (k l : Int) (I : Nat → Nat → Int32) (J : Nat → Nat → Int64) (R : (Nat → Nat → Int32) → (Nat → Nat → Int64) → Prop), TP t I → PH dr t k l I → (∀ I1 : Nat → Nat → Int32, frQ dr I I1 → PH dr t k l I1 → R I1 J) → WP (D, mt, 0, ls, [], (xSH L dr tl, I, J)) (fun v M => ∃ (I2 : Nat → Nat → Int32) (J2 : Nat → Nat → Int64), v = none ∧ M = (xSH L dr tl, I2, J2) ∧ R I2 J2))
section GRAMD
variable {t : Tp} {L d dr tl : Nat} {I I0 I1 : Nat → Nat → Int32} {J : Nat → Nat → Int64} {a0 a1 a2 a3 a4 x : Int32} {r m p D : Nat} {s : Lx} {b op : Bool} {Q : Option Value → xMem → Prop} {k l v lo hi : Int} {R : (Nat → Nat → Int32) → (Nat → Nat → Int64) → Prop} {c : List Int} {sf pf ff nf tf : Lx → RL}
theorem gd_l {e : List Int} {j : Nat} (h : j < c.length) : (c ++ e).getD j 0 = c.getD j 0 := by simp [List.getD, List.getElem?_append_left h]
theorem gd_r : (c ++ [v]).getD c.length 0 = v := by simp [List.getD]
theorem g_step0 (hd : dr = 8 ∨ dr = 31) (h1 : PS t s I) (h2 : CC dr c I) (hc : c.length < 1600) (hv : a1.toInt = stepOf v) (K : ∀ I1 : Nat → Nat → Int32, frQ dr I I1 → PS t s I1 → CC dr (c ++ [v]) I1 → R I1 J) : WP ((d + 1), 94, 0, [some (.ref (dr + 13)), some (.int a1)], [], (xSH L dr tl, I, J)) (fun v M => ∃ (I2 : Nat → Nat → Int32) (J2 : Nat → Nat → Int64), v = none ∧ M = (xSH L dr tl, I2, J2) ∧ R I2 J2) := by
  have e1600 : (1600 : Int32).toInt = 1600 := rfl
  have xi : xIx (I (dr + 13) 3) = c.length := by rw [xIx_ti, h2.1]; exact Int.toNat_natCast _
  have hl := h2.1
  refine w94_0 (by omega) (hit (lt_ti.mpr (by rw [h2.1]; omega)) ⟨by rw [xin_iff, h2.1]; omega, ⟨_, J, rfl, rfl, K _ ⟨fun a g1 g2 g3 => ?_, fun j g => ?_, fun j g => ?_⟩ ?_ ⟨?_, fun j hj => ?_⟩⟩⟩)
  · rw [xwI_ne g2, xwI_ne g3]
  · rw [xwI_ne (by omega), xwI_ne (by omega)]
  · rw [xgn g, xwI_ne (by omega)]
  · unfold PS at *
    rw [xwI_ne (show 7 ≠ dr + 13 by omega), xwI_ne (show 7 ≠ dr + 13 + 1 by omega)]; exact h1
  · rw [xg, xwI_ne (show dr + 13 ≠ dr + 13 + 1 by omega), add1 (by omega) (by omega), h2.1, List.length_append]; rfl
  · rw [List.length_append] at hj
    have hj' : j < c.length + 1 := hj
    rw [xwI_ne (show dr + 14 ≠ dr + 13 by omega), xi]
    by_cases e : j = c.length
    · rw [e, show dr + 14 = dr + 13 + 1 from rfl, xg, hv, gd_r]
    · rw [show dr + 14 = dr + 13 + 1 from rfl, xgn e, gd_l (by omega)]
      exact h2.2 j (by omega)
theorem g_step (hd : dr = 8 ∨ dr = 31) (tp : TP t I) (h : PG dr t s c I) (hc : c.length + 1 ≤ s.1) (hv : a1.toInt = stepOf v) (K : ∀ I1 : Nat → Nat → Int32, frQ dr I I1 → PG dr t s (c ++ [v]) I1 → R I1 J) : WP ((d + 1), 94, 0, [some (.ref (dr + 13)), some (.int a1)], [], (xSH L dr tl, I, J)) (fun v M => ∃ (I2 : Nat → Nat → Int32) (J2 : Nat → Nat → Int64), v = none ∧ M = (xSH L dr tl, I2, J2) ∧ R I2 J2) := by
  have n1 := tp.1.1
  have n2 := h.1.1
  exact g_step0 hd h.1 h.2.1 (by omega) hv fun I1 f1 g1 g2 => K I1 f1 ⟨g1, g2, by rw [List.length_append]; exact hc⟩
theorem g_stepF (hd : dr = 8 ∨ dr = 31) (h : PH dr t k l I) (K : ∀ I1 : Nat → Nat → Int32, frQ dr I I1 → PH dr t k l I1 → R I1 J) : WP ((d + 1), 94, 0, [some (.ref (dr + 13)), some (.int a1)], [], (xSH L dr tl, I, J)) (fun v M => ∃ (I2 : Nat → Nat → Int32) (J2 : Nat → Nat → Int64), v = none ∧ M = (xSH L dr tl, I2, J2) ∧ R I2 J2) := by
  obtain ⟨h1, h2, h3⟩ := h
  have e1600 : (1600 : Int32).toInt = 1600 := rfl
  refine w94_0 (by omega) (brz lt_ti (fun y => ⟨by rw [xin_iff]; omega, ⟨_, J, rfl, rfl, K _ ⟨fun a g1 g2 g3 => ?_, fun j g => ?_, fun j g => ?_⟩ ⟨?_, ?_⟩⟩⟩) (fun y => ⟨I, J, rfl, rfl, K I frQ_refl ⟨h1, h2, h3⟩⟩))
  · rw [xwI_ne g2, xwI_ne g3]
  · rw [xwI_ne (by omega), xwI_ne (by omega)]
  · rw [xgn g, xwI_ne (by omega)]
  · unfold PF at *
    rw [xwI_ne (show 7 ≠ dr + 13 by omega), xwI_ne (show 7 ≠ dr + 13 + 1 by omega)]; exact h1
  · rw [xg, xwI_ne (show dr + 13 ≠ dr + 13 + 1 by omega), add1 (by omega) (by omega)]
    omega
theorem g_mark (hd : dr = 8 ∨ dr = 31) (tp : TP t I) (h : PG dr t s c I) (hc : c.length + 1 ≤ s.1) (h0 : 0 ≤ a1.toInt) (hv : - a1.toInt = stepOf v) (K : ∀ I1 : Nat → Nat → Int32, frQ dr I I1 → PG dr t s (c ++ [v]) I1 → R I1 J) : WP ((d + 2), 92, 0, [some (.ref (dr + 13)), some (.int a1)], [], (xSH L dr tl, I, J)) (fun v M => ∃ (I2 : Nat → Nat → Int32) (J2 : Nat → Nat → Int64), v = none ∧ M = (xSH L dr tl, I2, J2) ∧ R I2 J2) := w92_0 (by omega) (g_step hd tp h hc (by rw [neg_ti (by omega)]; exact hv) fun I1 f1 g1 => ⟨I1, J, rfl, rfl, K I1 f1 g1⟩)
theorem g_markF (hd : dr = 8 ∨ dr = 31) (h : PH dr t k l I) (K : ∀ I1 : Nat → Nat → Int32, frQ dr I I1 → PH dr t k l I1 → R I1 J) : WP ((d + 2), 92, 0, [some (.ref (dr + 13)), some (.int a1)], [], (xSH L dr tl, I, J)) (fun v M => ∃ (I2 : Nat → Nat → Int32) (J2 : Nat → Nat → Int64), v = none ∧ M = (xSH L dr tl, I2, J2) ∧ R I2 J2) := w92_0 (by omega) (g_stepF hd h fun I1 f1 g1 => ⟨I1, J, rfl, rfl, K I1 f1 g1⟩)
theorem g_own (hd : dr = 8 ∨ dr = 31) (tp : TP t I) (h : PG dr t s c I) (hc : c.length + 1 ≤ s.1) (h0 : 0 ≤ a1.toInt ∧ a1.toInt ≤ 100) (hv : -1 - a1.toInt = stepOf v) (K : ∀ I1 : Nat → Nat → Int32, frQ dr I I1 → PG dr t s (c ++ [v]) I1 → R I1 J) : WP ((d + 2), 93, 0, [some (.ref (dr + 13)), some (.int a1)], [], (xSH L dr tl, I, J)) (fun v M => ∃ (I2 : Nat → Nat → Int32) (J2 : Nat → Nat → Int64), v = none ∧ M = (xSH L dr tl, I2, J2) ∧ R I2 J2) := w93_0 (by omega) (g_step hd tp h hc (by rw [sub_ti (by show _ ≤ -1 - a1.toInt; omega) (by show -1 - a1.toInt < _; omega)]; exact hv) fun I1 f1 g1 => ⟨I1, J, rfl, rfl, K I1 f1 g1⟩)
theorem g_ownF (hd : dr = 8 ∨ dr = 31) (h : PH dr t k l I) (K : ∀ I1 : Nat → Nat → Int32, frQ dr I I1 → PH dr t k l I1 → R I1 J) : WP ((d + 2), 93, 0, [some (.ref (dr + 13)), some (.int a1)], [], (xSH L dr tl, I, J)) (fun v M => ∃ (I2 : Nat → Nat → Int32) (J2 : Nat → Nat → Int64), v = none ∧ M = (xSH L dr tl, I2, J2) ∧ R I2 J2) := w93_0 (by omega) (g_stepF hd h fun I1 f1 g1 => ⟨I1, J, rfl, rfl, K I1 f1 g1⟩)
/-- the loop of prod -/
theorem prod_loop (hd : dr = 8 ∨ dr = 31) (hf : CM L dr tl t 71 [some (.ref 7), some (.int a1), none] pf (D + 5)) (hl : lenOK t pf) (cp : List Int) (K : ∀ (I1 : Nat → Nat → Int32) (z : RL), frQ dr I0 I1 → z = loopM t 42 47 3 4 pf m s c → PGE dr t z cp I1 → Q none (xSH L dr tl, I1, J)) : ∀ (i : Nat) (a2 : Int32) (I : Nat → Nat → Int32), i + m = 1600 → a2.toInt = i → TP t I → frQ dr I0 I → PG dr t s (cp ++ c) I → WP ((D + 6), 70, 7, [some (.ref 7), some (.int a1), some (.int a2), none], [], (xSH L dr tl, I, J)) Q := by
  have e1600 : (1600 : Int32).toInt = 1600 := rfl
  induction m generalizing s c with
  | zero =>
    intro i a2 I hi h2 tp fr0 h
    exact w70_7 hd (sk (fun z => by rw [lt_ti, h2] at z; omega) (K I _ fr0 rfl h))
  | succ m ih =>
    intro i a2 I hi h2 tp fr0 h
    have E : loopM t 42 47 3 4 pf (m + 1) s c = @ite _ (isMk t 42 s) (Classical.propDecidable _) (bnd (pf (adv t s)) fun x => loopM t 42 47 3 4 pf m x.1 (c ++ x.2 ++ [3])) (@ite _ (isMk t 47 s) (Classical.propDecidable _) (bnd (pf (adv t s)) fun x => loopM t 42 47 3 4 pf m x.1 (c ++ x.2 ++ [4])) (.ok (s, c))) := rfl
    have i2 : (a2 + 1).toInt = ((i + 1 : Nat) : Int) := by rw [add1 (by omega) (by omega), h2]; rfl
    -- behind a fault
    have bad : ∀ (k l : Int) (I1 : Nat → Nat → Int32) (i' : Int32), TP t I1 → frQ dr I0 I1 → PH dr t k l I1 → loopM t 42 47 3 4 pf (m + 1) s c = .error (k, l) → WP ((D + 6), 70, 7, [some (.ref 7), some (.int a1), some (.int i'), none], [], (xSH L dr tl, I1, J)) Q := by
      intro k l I1 i' tp1 f1 g1 ee
      exact w70_7 hd (brz lt_ti (fun _ => (s_isMarkF g1.1).u (fun y => y.elim) (fun _ => br0 ((s_isMarkF g1.1).u (fun y => y.elim) (fun _ => br0 (K I1 _ f1 ee.symm g1))))) (fun _ => K I1 _ f1 ee.symm g1))
    have step : ∀ (mk cc : Int) (r4 : Int32), r4.toInt = mk → 0 ≤ mk → - mk = stepOf cc → isMk t mk s → loopM t 42 47 3 4 pf (m + 1) s c = (bnd (pf (adv t s)) fun x => loopM t 42 47 3 4 pf m x.1 (c ++ x.2 ++ [cc])) → WP (D + 5, 74, 0, [some (.ref 7), none, none], [], (xSH L dr tl, I, J)) (fun v M => ∃ (I5 : Nat → Nat → Int32) (J5 : Nat → Nat → Int64), v = none ∧ M = (xSH L dr tl, I5, J5) ∧ WP (D + 5, 71, 0, [some (.ref 7), some (.int a1), none], [], (xSH L dr tl, I5, J5)) (fun v M => ∃ (I6 : Nat → Nat → Int32) (J6 : Nat → Nat → Int64), v = none ∧ M = (xSH L dr tl, I6, J6) ∧ WP (D + 5, 92, 0, [some (.ref (dr + 13)), some (.int r4)], [], (xSH L dr tl, I6, J6)) (fun v M => ∃ (I7 : Nat → Nat → Int32) (J7 : Nat → Nat → Int64), v = none ∧ M = (xSH L dr tl, I7, J7) ∧ WP ((D + 6), 70, 7, [some (.ref 7), some (.int a1), some (.int (a2 + 1)), none], [], (xSH L dr tl, I7, J7)) Q))) := by
      intro mk cc r4 hr h0 hst hmk hE
      refine g_adv hd tp h fun I5 f5 g5 => hf.1 _ _ _ _ _ (tp.fq hd f5) g5 fun I6 f6 g6 => ?_
      have tp6 := (tp.fq hd f5).fq hd f6
      have gt := adv_gt (isMk_0 hmk)
      cases hx : pf (adv t s) with
      | error e =>
        rw [hx] at g6 hE
        refine g_markF hd g6 fun I7 f7 g7 => bad e.1 e.2 I7 _ (tp6.fq hd f7) (((fr0.tr f5).tr f6).tr f7) g7 hE
      | ok y =>
        rw [hx] at g6 hE
        have l := hl _ y.1 y.2 (adv_n h.1.1) hx
        have hh := h.2.2
        refine g_mark (v := cc) hd tp6 g6 (by rw [List.length_append]; omega) (by omega) (by rw [hr]; exact hst) fun I7 f7 g7 => ih (s := y.1) (c := c ++ y.2 ++ [cc]) (fun I1 z fz ez gz => K I1 z fz (ez.trans hE.symm) gz) (i + 1) _ I7 (by omega) i2 (tp6.fq hd f7) (((fr0.tr f5).tr f6).tr f7) ?_
        have g7' : PG dr t y.1 (cp ++ c ++ y.2 ++ [cc]) I7 := g7
        rw [List.append_assoc, List.append_assoc] at g7'
        rw [List.append_assoc c]
        exact g7'
    have byt : ∀ mk : Int, isMk t mk s → PI (D + 5, 117, 0, [some (.ref 3), some (.int (I 7 2))], [], (xSH L dr tl, I, J)) mk (xSH L dr tl, I, J) := by
      intro mk hmk
      have lt := kd_lt (isMk_0 hmk)
      have w := s_tbyte (L := L) (d := D + 4) (dr := dr) (tl := tl) (J := J) (a1 := I 7 2) tp
      rw [h.1.2.1, if_pos (by omega), Int.toNat_natCast, hmk.2] at w
      exact w
    refine w70_7 hd (hit (lt_ti.mpr (by rw [h2]; omega)) ((s_isMark (k := 42) tp h.1 rfl).u (fun y => br1 ((byt _ y).u fun r4 g4 => step 42 3 r4 g4 (by decide) rfl y (by rw [E, if_pos y]))) (fun y => br0 ((s_isMark (k := 47) tp h.1 rfl).u (fun z => br1 ((byt _ z).u fun r4 g4 => step 47 4 r4 g4 (by decide) rfl z (by rw [E, if_neg y, if_pos z]))) (fun z => br0 (K I _ fr0 rfl ?_))))))
    rw [E, if_neg y, if_neg z]; exact h
theorem prod_cm (hd : dr = 8 ∨ dr = 31) (hf : CM L dr tl t 71 [some (.ref 7), some (.int a1), none] pf (D + 5)) (hl : lenOK t pf) : CM L dr tl t 70 [some (.ref 7), some (.int a1), none, none] (prodF t pf) (D + 6) := by
  refine ⟨fun s c I J R tp h K => w70_0 (hf.1 _ _ _ _ _ tp h fun I1 f1 g1 => ?_), fun k l I J R tp h K => w70_0 (hf.2 _ _ _ _ _ tp h fun I1 f1 g1 => ?_)⟩
  · have E : prodF t pf s = bnd (pf s) fun x => loopM t 42 47 3 4 pf 1600 x.1 x.2 := rfl
    cases hx : pf s with
    | error e =>
      rw [hx] at g1 E
      exact w70_7 hd (brz lt_ti (fun _ => (s_isMarkF g1.1).u (fun y => y.elim) (fun _ => br0 ((s_isMarkF g1.1).u (fun y => y.elim) (fun _ => br0 ⟨I1, J, rfl, rfl, K I1 f1 (by rw [E]; exact g1)⟩)))) (fun _ => ⟨I1, J, rfl, rfl, K I1 f1 (by rw [E]; exact g1)⟩))
    | ok y =>
      rw [hx] at g1 E
      exact prod_loop (I0 := I) hd hf hl c (fun I2 z f2 ez g2 => ⟨I2, J, rfl, rfl, K I2 f2 (by rw [E]; have ez' : z = loopM t 42 47 3 4 pf 1600 y.1 y.2 := ez; rw [ez'] at g2; exact g2)⟩) 0 0 I1 rfl rfl (tp.fq hd f1) f1 g1
  · exact w70_7 hd (brz lt_ti (fun _ => (s_isMarkF g1.1).u (fun y => y.elim) (fun _ => br0 ((s_isMarkF g1.1).u (fun y => y.elim) (fun _ => br0 ⟨I1, J, rfl, rfl, K I1 f1 g1⟩)))) (fun _ => ⟨I1, J, rfl, rfl, K I1 f1 g1⟩))
/-- the loop of sum -/
theorem sum_loop (hd : dr = 8 ∨ dr = 31) (hf : CM L dr tl t 70 [some (.ref 7), some (.int a1), none, none] pf (D + 5)) (hl : lenOK t pf) (cp : List Int) (K : ∀ (I1 : Nat → Nat → Int32) (z : RL), frQ dr I0 I1 → z = loopM t 43 45 1 2 pf m s c → PGE dr t z cp I1 → Q none (xSH L dr tl, I1, J)) : ∀ (i : Nat) (a2 : Int32) (I : Nat → Nat → Int32), i + m = 1600 → a2.toInt = i → TP t I → frQ dr I0 I → PG dr t s (cp ++ c) I → WP ((D + 6), 69, 7, [some (.ref 7), some (.int a1), some (.int a2), none], [], (xSH L dr tl, I, J)) Q := by
  have e1600 : (1600 : Int32).toInt = 1600 := rfl
  induction m generalizing s c with
  | zero =>
    intro i a2 I hi h2 tp fr0 h
    exact w69_7 hd (sk (fun z => by rw [lt_ti, h2] at z; omega) (K I _ fr0 rfl h))
  | succ m ih =>
    intro i a2 I hi h2 tp fr0 h
    have E : loopM t 43 45 1 2 pf (m + 1) s c = @ite _ (isMk t 43 s) (Classical.propDecidable _) (bnd (pf (adv t s)) fun x => loopM t 43 45 1 2 pf m x.1 (c ++ x.2 ++ [1])) (@ite _ (isMk t 45 s) (Classical.propDecidable _) (bnd (pf (adv t s)) fun x => loopM t 43 45 1 2 pf m x.1 (c ++ x.2 ++ [2])) (.ok (s, c))) := rfl
    have i2 : (a2 + 1).toInt = ((i + 1 : Nat) : Int) := by rw [add1 (by omega) (by omega), h2]; rfl
    -- behind a fault
    have bad : ∀ (k l : Int) (I1 : Nat → Nat → Int32) (i' : Int32), TP t I1 → frQ dr I0 I1 → PH dr t k l I1 → loopM t 43 45 1 2 pf (m + 1) s c = .error (k, l) → WP ((D + 6), 69, 7, [some (.ref 7), some (.int a1), some (.int i'), none], [], (xSH L dr tl, I1, J)) Q := by
      intro k l I1 i' tp1 f1 g1 ee
      exact w69_7 hd (brz lt_ti (fun _ => (s_isMarkF g1.1).u (fun y => y.elim) (fun _ => br0 ((s_isMarkF g1.1).u (fun y => y.elim) (fun _ => br0 (K I1 _ f1 ee.symm g1))))) (fun _ => K I1 _ f1 ee.symm g1))
    have step : ∀ (mk cc : Int) (r4 : Int32), r4.toInt = mk → 0 ≤ mk → - mk = stepOf cc → isMk t mk s → loopM t 43 45 1 2 pf (m + 1) s c = (bnd (pf (adv t s)) fun x => loopM t 43 45 1 2 pf m x.1 (c ++ x.2 ++ [cc])) → WP (D + 5, 74, 0, [some (.ref 7), none, none], [], (xSH L dr tl, I, J)) (fun v M => ∃ (I5 : Nat → Nat → Int32) (J5 : Nat → Nat → Int64), v = none ∧ M = (xSH L dr tl, I5, J5) ∧ WP (D + 5, 70, 0, [some (.ref 7), some (.int a1), none, none], [], (xSH L dr tl, I5, J5)) (fun v M => ∃ (I6 : Nat → Nat → Int32) (J6 : Nat → Nat → Int64), v = none ∧ M = (xSH L dr tl, I6, J6) ∧ WP (D + 5, 92, 0, [some (.ref (dr + 13)), some (.int r4)], [], (xSH L dr tl, I6, J6)) (fun v M => ∃ (I7 : Nat → Nat → Int32) (J7 : Nat → Nat → Int64), v = none ∧ M = (xSH L dr tl, I7, J7) ∧ WP ((D + 6), 69, 7, [some (.ref 7), some (.int a1), some (.int (a2 + 1)), none], [], (xSH L dr tl, I7, J7)) Q))) := by
      intro mk cc r4 hr h0 hst hmk hE
      refine g_adv hd tp h fun I5 f5 g5 => hf.1 _ _ _ _ _ (tp.fq hd f5) g5 fun I6 f6 g6 => ?_
      have tp6 := (tp.fq hd f5).fq hd f6
      have gt := adv_gt (isMk_0 hmk)
      cases hx : pf (adv t s) with
      | error e =>
        rw [hx] at g6 hE
        refine g_markF hd g6 fun I7 f7 g7 => bad e.1 e.2 I7 _ (tp6.fq hd f7) (((fr0.tr f5).tr f6).tr f7) g7 hE
      | ok y =>
        rw [hx] at g6 hE
        have l := hl _ y.1 y.2 (adv_n h.1.1) hx
        have hh := h.2.2
        refine g_mark (v := cc) hd tp6 g6 (by rw [List.length_append]; omega) (by omega) (by rw [hr]; exact hst) fun I7 f7 g7 => ih (s := y.1) (c := c ++ y.2 ++ [cc]) (fun I1 z fz ez gz => K I1 z fz (ez.trans hE.symm) gz) (i + 1) _ I7 (by omega) i2 (tp6.fq hd f7) (((fr0.tr f5).tr f6).tr f7) ?_
        have g7' : PG dr t y.1 (cp ++ c ++ y.2 ++ [cc]) I7 := g7
        rw [List.append_assoc, List.append_assoc] at g7'
        rw [List.append_assoc c]
        exact g7'
    have byt : ∀ mk : Int, isMk t mk s → PI (D + 5, 117, 0, [some (.ref 3), some (.int (I 7 2))], [], (xSH L dr tl, I, J)) mk (xSH L dr tl, I, J) := by
      intro mk hmk
      have lt := kd_lt (isMk_0 hmk)
      have w := s_tbyte (L := L) (d := D + 4) (dr := dr) (tl := tl) (J := J) (a1 := I 7 2) tp
      rw [h.1.2.1, if_pos (by omega), Int.toNat_natCast, hmk.2] at w
      exact w
    refine w69_7 hd (hit (lt_ti.mpr (by rw [h2]; omega)) ((s_isMark (k := 43) tp h.1 rfl).u (fun y => br1 ((byt _ y).u fun r4 g4 => step 43 1 r4 g4 (by decide) rfl y (by rw [E, if_pos y]))) (fun y => br0 ((s_isMark (k := 45) tp h.1 rfl).u (fun z => br1 ((byt _ z).u fun r4 g4 => step 45 2 r4 g4 (by decide) rfl z (by rw [E, if_neg y, if_pos z]))) (fun z => br0 (K I _ fr0 rfl ?_))))))
    rw [E, if_neg y, if_neg z]; exact h
theorem sum_cm (hd : dr = 8 ∨ dr = 31) (hf : CM L dr tl t 70 [some (.ref 7), some (.int a1), none, none] pf (D + 5)) (hl : lenOK t pf) : CM L dr tl t 69 [some (.ref 7), some (.int a1), none, none] (sumX t pf) (D + 6) := by
  refine ⟨fun s c I J R tp h K => w69_0 (hf.1 _ _ _ _ _ tp h fun I1 f1 g1 => ?_), fun k l I J R tp h K => w69_0 (hf.2 _ _ _ _ _ tp h fun I1 f1 g1 => ?_)⟩
  · have E : sumX t pf s = bnd (pf s) fun x => loopM t 43 45 1 2 pf 1600 x.1 x.2 := rfl
    cases hx : pf s with
    | error e =>
      rw [hx] at g1 E
      exact w69_7 hd (brz lt_ti (fun _ => (s_isMarkF g1.1).u (fun y => y.elim) (fun _ => br0 ((s_isMarkF g1.1).u (fun y => y.elim) (fun _ => br0 ⟨I1, J, rfl, rfl, K I1 f1 (by rw [E]; exact g1)⟩)))) (fun _ => ⟨I1, J, rfl, rfl, K I1 f1 (by rw [E]; exact g1)⟩))
    | ok y =>
      rw [hx] at g1 E
      exact sum_loop (I0 := I) hd hf hl c (fun I2 z f2 ez g2 => ⟨I2, J, rfl, rfl, K I2 f2 (by rw [E]; have ez' : z = loopM t 43 45 1 2 pf 1600 y.1 y.2 := ez; rw [ez'] at g2; exact g2)⟩) 0 0 I1 rfl rfl (tp.fq hd f1) f1 g1
  · exact w69_7 hd (brz lt_ti (fun _ => (s_isMarkF g1.1).u (fun y => y.elim) (fun _ => br0 ((s_isMarkF g1.1).u (fun y => y.elim) (fun _ => br0 ⟨I1, J, rfl, rfl, K I1 f1 g1⟩)))) (fun _ => ⟨I1, J, rfl, rfl, K I1 f1 g1⟩))
end GRAMD
