/-! ===== book: the class reads a text ===== -/
def B0 : aS := fun _ _ => 0
def frE (dr : Nat) (I I1 : Nat → Nat → Int32) : Prop := (∀ a : Nat, a ≠ 7 → (a < dr ∨ dr + 21 < a) → I1 a = I a) ∧ (∀ j : Nat, j < 2 ∨ 8 < j → I1 7 j = I 7 j) ∧ I1 (dr + 1) 0 = I (dr + 1) 0 ∧ I1 (dr + 4) 0 = I (dr + 4) 0 ∧ I1 (dr + 7) 0 = I (dr + 7) 0 ∧ I1 (dr + 10) 0 = I (dr + 10) 0 ∧ I1 (dr + 15) 0 = I (dr + 15) 0
/-- behind the whole text -/
def BPo (dr : Nat) (x : RX (Bk × Int)) (I : Nat → Nat → Int32) : Prop := match x with
  | .ok y => (I 7 6).toInt = 0 ∧ (I 7 7).toInt = -1 ∧ DB y.1.1 dr I ∧ CC dr y.1.2 I ∧ WB y.1 ∧ (I 7 8).toInt = y.2
  | .error e => e.1 ≠ 0 ∧ (I 7 6).toInt = e.1 ∧ (I 7 7).toInt = e.2
section PARSE
variable {t : Tp} {L d dr tl : Nat} {I I0 I1 I2 : Nat → Nat → Int32} {J : Nat → Nat → Int64} {a0 a1 a2 a3 a4 a5 a6 : Int32} {s s2 : Lx} {k l v n : Int} {R : (Nat → Nat → Int32) → (Nat → Nat → Int64) → Prop} {c : List Int} {B : aS} {b : Bk} {Q : Option Value → xMem → Prop} {Z : RX (Bk × Int)} {v0 : Int32}
theorem frE_refl : frE dr I I := ⟨fun _ _ _ => rfl, fun _ _ => rfl, rfl, rfl, rfl, rfl, rfl⟩
theorem frE.tr (h : frE dr I I1) (h' : frE dr I1 I2) : frE dr I I2 := ⟨fun a g1 g2 => (h'.1 a g1 g2).trans (h.1 a g1 g2), fun j g => (h'.2.1 j g).trans (h.2.1 j g), h'.2.2.1.trans h.2.2.1, h'.2.2.2.1.trans h.2.2.2.1, h'.2.2.2.2.1.trans h.2.2.2.2.1, h'.2.2.2.2.2.1.trans h.2.2.2.2.2.1, h'.2.2.2.2.2.2.trans h.2.2.2.2.2.2⟩
theorem frD.e (h : frD dr I I1) : frE dr I I1 := ⟨h.1, fun j g => h.2.1 j (by omega), h.2.2⟩
theorem frE_8 (hd : dr = 8 ∨ dr = 31) : frE dr I (xwI I 7 8 v0) := ⟨fun a g _ => xwI_ne g, fun j g => xgn (by omega), by rw [xwI_ne (by omega)], by rw [xwI_ne (by omega)], by rw [xwI_ne (by omega)], by rw [xwI_ne (by omega)], by rw [xwI_ne (by omega)]⟩
theorem TP.fe (hd : dr = 8 ∨ dr = 31) (h : TP t I) (e : frE dr I I1) : TP t I1 := by
  unfold TP at *
  rw [e.1 3 (by decide) (by omega), e.1 4 (by decide) (by omega)]; exact h
theorem c_loopF (g : PF t k l I) (q : Q none (xSH L dr tl, I, J)) : WP ((d + 1), 49, 6, [some (.ref 7), some (.int a1)], [], (xSH L dr tl, I, J)) Q := by
  have z : (I 7 4) = 0 := eq0.mpr g.2.2.1
  exact w49_6 ⟨fun _ => hit z (hit z q), fun _ => hit z q⟩
theorem PG.w8 (hd : dr = 8 ∨ dr = 31) (h : PG dr t s c I) : PG dr t s c (xwI I 7 8 v0) := by
  unfold PG PS CC at *
  rw [xwI_ne (show dr + 13 ≠ 7 by omega), xwI_ne (show dr + 14 ≠ 7 by omega)]
  exact h
theorem PF.w8 (h : PF t k l I) : PF t k l (xwI I 7 8 v0) := h
theorem DB.w8 (hd : dr = 8 ∨ dr = 31) (h : DB B dr I) : DB B dr (xwI I 7 8 v0) := by
  have o : ∀ a : Nat, a ≠ 7 → xwI I 7 8 v0 a = I a := fun a h => xwI_ne h
  unfold DB CIo at *
  rw [o (dr + 1) (by omega), o (dr + 2) (by omega), o (dr + 3) (by omega), o (dr + 4) (by omega), o (dr + 5) (by omega), o (dr + 6) (by omega), o (dr + 7) (by omega), o (dr + 8) (by omega), o (dr + 9) (by omega), o (dr + 10) (by omega), o (dr + 11) (by omega), o (dr + 12) (by omega), o (dr + 13) (by omega), o (dr + 15) (by omega), o (dr + 17) (by omega), o (dr + 18) (by omega), o (dr + 19) (by omega), o (dr + 20) (by omega), o (dr + 21) (by omega), o dr (by omega)]
  exact h
theorem c_ploop (hd : dr = 8 ∨ dr = 31) (K : ∀ I1 : Nat → Nat → Int32, frE dr I0 I1 → BPo dr Z I1 → Q none (xSH L dr tl, I1, J)) : ∀ (m i : Nat) (a1 : Int32) (s : Lx) (b : Bk) (n : Int) (I : Nat → Nat → Int32), i + m = 80 → a1.toInt = i → TP t I → frE dr I0 I → PG dr t s b.2 I → DB b.1 dr I → WB b → (I 7 8).toInt = n → 0 ≤ n → n ≤ i → bookF t m s b n = Z → WP ((d + 41), 49, 6, [some (.ref 7), some (.int a1)], [], (xSH L dr tl, I, J)) Q := by
  have e80 : (80 : Int32).toInt = 80 := rfl
  intro m
  induction m with
  | zero =>
    intro i a1 s b n I hi h1 tp fr0 h db w h8 n0 n1 hZ
    have E : bookF t 0 s b n = if kd t s = 0 then .ok (b, n) else .error (5, (qq t s : Int)) := rfl
    rw [E] at hZ
    refine w49_6 (sk (fun z => by rw [lt_ti, h1] at z; omega) (brz eq0 (fun y => K I fr0 ?_) (fun y => g_fail (k := 5) hd tp h rfl (by decide) h.1.2.1 fun I3 f3 g3 => K I3 (fr0.tr (f3.toD hd).e) ?_)))
    · rw [if_pos (h.1.2.2.2.1.symm.trans y)] at hZ
      rw [← hZ]
      exact ⟨h.1.2.2.2.2.2.1, h.1.2.2.2.2.2.2, db, h.2.1, w, h8⟩
    · rw [if_neg (fun z => y (h.1.2.2.2.1.trans z))] at hZ
      rw [← hZ]
      exact ⟨g3.1.1, g3.1.2.2.2.2.1, g3.1.2.2.2.2.2⟩
  | succ m ih =>
    intro i a1 s b n I hi h1 tp fr0 h db w h8 n0 n1 hZ
    have E : bookF t (m + 1) s b n = if kd t s = 0 then .ok (b, n) else bnd (stmF t b s) fun x => bnd (mkF t 59 x.1) fun s' => bookF t m s' x.2 (n + 1) := rfl
    rw [E] at hZ
    refine w49_6 (hit (lt_ti.mpr (by rw [h1]; omega)) (brz eq0 (fun y => hit (eq0.mpr y) (K I fr0 ?_)) (fun y => ?_)))
    · rw [if_pos (h.1.2.2.2.1.symm.trans y)] at hZ
      rw [← hZ]
      exact ⟨h.1.2.2.2.2.2.1, h.1.2.2.2.2.2.2, db, h.2.1, w, h8⟩
    · rw [if_neg (fun z => y (h.1.2.2.2.1.trans z))] at hZ
      have i2 : (a1 + 1).toInt = ((i + 1 : Nat) : Int) := by rw [add1 (by omega) (by omega), h1]; rfl
      have after : ∀ I7 : Nat → Nat → Int32, frD dr I I7 → SPo dr t (stmF t b s) I7 → WP (d + 40, 63, 0, [some (.ref 7), some (.int 59)], [], (xSH L dr tl, I7, J)) (fun v M => ∃ (I8 : Nat → Nat → Int32) (J8 : Nat → Nat → Int64), v = none ∧ M = (xSH L dr tl, I8, J8) ∧ WP ((d + 41), 49, 6, [some (.ref 7), some (.int (a1 + 1))], [], (xSH L dr tl, xwI I8 7 8 (I8 7 8 + 1), J8)) Q) := by
        intro I7 f7 g7
        have tp7 := tp.fd hd f7
        have q8 : (I7 7 8).toInt = n := by rw [f7.2.1 8 (by decide)]; exact h8
        cases hs : stmF t b s with
        | error e =>
          rw [hs] at g7 hZ
          have g7' : PH dr t e.1 e.2 I7 := g7
          refine g_takeMarkF hd tp7 g7' fun I8 f8 g8 => c_loopF g8.1.w8 (K _ (((fr0.tr f7.e).tr (f8.toD hd).e).tr (frE_8 hd)) ?_)
          rw [← hZ]
          exact ⟨g8.1.1, g8.1.2.2.2.2.1, g8.1.2.2.2.2.2⟩
        | ok x =>
          rw [hs] at g7 hZ
          have hZ' : (bnd (mkF t 59 x.1) fun s' => bookF t m s' x.2 (n + 1)) = Z := hZ
          obtain ⟨g7a, g7b⟩ : PG dr t x.1 x.2.2 I7 ∧ DB x.2.1 dr I7 := g7
          obtain ⟨wx, -, -⟩ := stm_wb tp.1.1 w h.1.1 h.2.2 hs
          refine g_takeMark (k := 59) hd tp7 g7a rfl fun I8 f8 g8 => ?_
          have r8 : (I8 7 8).toInt = n := by rw [f8.2.1 8 (by decide)]; exact q8
          cases hm : mkF t 59 x.1 with
          | error e =>
            rw [hm] at g8 hZ'
            have g8' : PH dr t e.1 e.2 I8 := g8
            refine c_loopF g8'.1.w8 (K _ (((fr0.tr f7.e).tr (f8.toD hd).e).tr (frE_8 hd)) ?_)
            rw [← hZ']
            exact ⟨g8'.1.1, g8'.1.2.2.2.2.1, g8'.1.2.2.2.2.2⟩
          | ok s' =>
            rw [hm] at g8 hZ'
            have g8' : PG dr t s' x.2.2 I8 := g8
            refine ih (i + 1) (a1 + 1) s' x.2 (n + 1) _ (by omega) i2 ((tp7.fq hd f8).fe hd (frE_8 hd)) (((fr0.tr f7.e).tr (f8.toD hd).e).tr (frE_8 hd)) (g8'.w8 hd) ((g7b.f hd f8).w8 hd) wx ?_ (by omega) (by omega) hZ'
            rw [xg, add1 (by omega) (by omega), r8]
      have h5 := h.1.2.2.2.2.1
      have t0 : (0 : Int32).toInt = 0 := rfl
      have t1 : (1 : Int32).toInt = 1 := rfl
      have t2 : (2 : Int32).toInt = 2 := rfl
      have t3 : (3 : Int32).toInt = 3 := rfl
      have t4 : (4 : Int32).toInt = 4 := rfl
      have t5 : (5 : Int32).toInt = 5 := rfl
      have t6 : (6 : Int32).toInt = 6 := rfl
      have t7 : (7 : Int32).toInt = 7 := rfl
      have t8 : (8 : Int32).toInt = 8 := rfl
      have t9 : (9 : Int32).toInt = 9 := rfl
      have bad : ow t s ≠ 0 → ow t s ≠ 2 → ow t s ≠ 3 → ow t s ≠ 1 → ow t s ≠ 8 → ow t s ≠ 9 → WP (d + 40, 73, 0, [some (.ref 7), some (.int 1), some (.int (I 7 2))], [], (xSH L dr tl, I, J)) (fun v M => ∃ (I7 : Nat → Nat → Int32) (J7 : Nat → Nat → Int64), v = none ∧ M = (xSH L dr tl, I7, J7) ∧ WP (d + 40, 63, 0, [some (.ref 7), some (.int 59)], [], (xSH L dr tl, I7, J7)) (fun v M => ∃ (I8 : Nat → Nat → Int32) (J8 : Nat → Nat → Int64), v = none ∧ M = (xSH L dr tl, I8, J8) ∧ WP ((d + 41), 49, 6, [some (.ref 7), some (.int (a1 + 1))], [], (xSH L dr tl, xwI I8 7 8 (I8 7 8 + 1), J8)) Q)) := by
        intro u0 u2 u3 u1 u8 u9
        refine g_fail (k := 1) hd tp h rfl (by decide) h.1.2.1 fun I7 f7 g7 => after I7 (f7.toD hd) ?_
        have E' : stmF t b s = .error (1, (qq t s : Int)) := by
          unfold stmF
          rw [if_neg u0, if_neg u2, if_neg u3, if_neg u1, if_neg u8, if_neg u9]
        rw [E']; exact g7
      refine brz eq_ti (fun y0 => ?_) (fun y0 => brz eq_ti (fun y1 => ?_) (fun y1 => brz eq_ti (fun y2 => ?_) (fun y2 => brz eq_ti (fun y3 => ?_) (fun y3 => brz eq_ti (fun y4 => ?_) (fun y4 => brz eq_ti (fun y5 => ?_) (fun y5 => brz eq_ti (fun y6 => ?_) (fun y6 => brz eq_ti (fun y7 => ?_) (fun y7 => brz eq_ti (fun y8 => ?_) (fun y8 => brz eq_ti (fun y9 => ?_) (fun y9 => ?_))))))))))
      · have o : ow t s = 0 := h5.symm.trans y0
        refine c_inkS (d := d + 32) hd s b I J _ tp h db w fun I7 f7 g7 => after I7 f7 ?_
        have E' : stmF t b s = inkF t b s := if_pos o
        rw [E']; exact g7
      · have o : ow t s = 1 := h5.symm.trans y1
        refine c_rule (d := d) hd s b I J _ tp h db w fun I7 f7 g7 => after I7 f7 ?_
        have E' : stmF t b s = ruleF t b s := by unfold stmF; rw [if_neg (by omega), if_neg (by omega), if_neg (by omega), if_pos o]
        rw [E']; exact g7
      · have o : ow t s = 2 := h5.symm.trans y2
        refine c_leafS (d := d + 32) hd s b I J _ tp h db w fun I7 f7 g7 => after I7 f7 ?_
        have E' : stmF t b s = leafF t b s := by unfold stmF; rw [if_neg (by omega), if_pos o]
        rw [E']; exact g7
      · have o : ow t s = 3 := h5.symm.trans y3
        refine c_readS (d := d + 32) hd s b I J _ tp h db w fun I7 f7 g7 => after I7 f7 ?_
        have E' : stmF t b s = readF t b s := by unfold stmF; rw [if_neg (by omega), if_neg (by omega), if_pos o]
        rw [E']; exact g7
      · exact bad (by omega) (by omega) (by omega) (by omega) (by omega) (by omega)
      · exact bad (by omega) (by omega) (by omega) (by omega) (by omega) (by omega)
      · exact bad (by omega) (by omega) (by omega) (by omega) (by omega) (by omega)
      · exact bad (by omega) (by omega) (by omega) (by omega) (by omega) (by omega)
      · have o : ow t s = 8 := h5.symm.trans y8
        refine c_wordS (d := d + 32) hd s b I J _ tp h db w fun I7 f7 g7 => after I7 f7 ?_
        have E' : stmF t b s = wordF t b s := by unfold stmF; rw [if_neg (by omega), if_neg (by omega), if_neg (by omega), if_neg (by omega), if_pos o]
        rw [E']; exact g7
      · have o : ow t s = 9 := h5.symm.trans y9
        refine c_guardS (d := d + 32) hd s b I J _ tp h db w fun I7 f7 g7 => after I7 f7 ?_
        have E' : stmF t b s = guardF t b s := by unfold stmF; rw [if_neg (by omega), if_neg (by omega), if_neg (by omega), if_neg (by omega), if_neg (by omega), if_pos o]
        rw [E']; exact g7
      · exact bad (by omega) (by omega) (by omega) (by omega) (by omega) (by omega)
theorem WB0 : WB (B0, []) := by
  refine ⟨⟨by decide, by decide, fun i hi => ?_⟩, ⟨by decide, by decide, fun i hi => ?_⟩, ⟨by decide, by decide, fun i hi => ?_⟩, ⟨by decide, by decide, fun i hi => ?_⟩, ⟨by decide, by decide, fun z => absurd z (by decide)⟩, ⟨by decide, by decide⟩, rfl, rfl, by decide, fun j hj => absurd hj (Nat.not_lt_zero _), fun u hu => ?_⟩
  · have : (i : Int) < 0 := hi
    omega
  · have : (i : Int) < 0 := hi
    omega
  · have : (i : Int) < 0 := hi
    omega
  · have : (i : Int) < 0 := hi
    omega
  · have : (u : Int) < 0 := hu
    omega
theorem c_begin (hd : dr = 8 ∨ dr = 31) (tp : TP t I) (co : CIo dr I) (h15 : (I (dr + 15) 0).toInt = 0) (K : ∀ I1 : Nat → Nat → Int32, frE dr I I1 → PG dr t (0, false) [] I1 → DB B0 dr I1 → (I1 7 8).toInt = 0 → R I1 J) : WP ((d + 40), 50, 0, [some (.ref 7)], [], (xSH L dr tl, I, J)) (fun v M => ∃ (I2 : Nat → Nat → Int32) (J2 : Nat → Nat → Int64), v = none ∧ M = (xSH L dr tl, I2, J2) ∧ R I2 J2) := by
  refine w50_0 hd (w2_0 hd (w103_0 (sk1 hd).1 ⟨_, J, rfl, rfl, w103_0 (sk4 hd).1 ⟨_, J, rfl, rfl, w103_0 (sk7 hd).1 ⟨_, J, rfl, rfl, w103_0 (sk10 hd).1 ⟨_, J, rfl, rfl, w88_0 (by omega) ⟨_, J, rfl, rfl, _, J, rfl, rfl, ?_⟩⟩⟩⟩⟩))
  generalize hI : xwI (xwI (xwI (xwI (xwI (xwI (xwI (xwI (xwI (xwI (xwI (xwI (xwI I (dr + 1) 3 0) (dr + 4) 3 0) (dr + 7) 3 0) (dr + 10) 3 0) (dr + 13) 3 0) (dr + 13) 4 0) dr 10 0) dr 11 0) 7 6 0) 7 7 (-1)) 7 8 0) 7 3 0) 7 4 0 = I'
  have o : ∀ a : Nat, a ≠ 7 → (a < dr ∨ dr + 21 < a) → I' a = I a := fun a g1 g2 => by rw [← hI, xwI_ne g1, xwI_ne g1, xwI_ne g1, xwI_ne g1, xwI_ne g1, xwI_ne (by omega), xwI_ne (by omega), xwI_ne (by omega), xwI_ne (by omega), xwI_ne (by omega), xwI_ne (by omega), xwI_ne (by omega), xwI_ne (by omega)]
  have o7 : ∀ j : Nat, j < 2 ∨ 8 < j → I' 7 j = I 7 j := fun j g => by rw [← hI, xgn (by omega), xgn (by omega), xgn (by omega), xgn (by omega), xgn (by omega), xwI_ne (by omega), xwI_ne (by omega), xwI_ne (by omega), xwI_ne (by omega), xwI_ne (by omega), xwI_ne (by omega), xwI_ne (by omega), xwI_ne (by omega)]
  have tp' : TP t I' := by
    unfold TP at *
    rw [o 3 (by decide) (by omega), o 4 (by decide) (by omega)]; exact tp
  have z4 : (I' 7 4).toInt = 0 := by rw [← hI]; rfl
  refine s_advance (p := 0) (b := false) tp' (by omega) (by rw [← hI]; rfl) (by rw [z4]; decide) (fun I1 fr1 g2 g3 g4 g5 => ⟨I1, J, rfl, rfl, K I1 ?_ ⟨⟨Nat.zero_le _, g2, g3, g4, g5, ?_, ?_⟩, ⟨?_, fun j hj => absurd hj (Nat.not_lt_zero _)⟩, Nat.zero_le _⟩ ?_ ?_⟩)
  · have e15 : I' (dr + 15) 0 = I (dr + 15) 0 := by rw [← hI]; rcases hd with rfl | rfl <;> rfl
    have e1 : I' (dr + 1) 0 = I (dr + 1) 0 := by rw [← hI]; rcases hd with rfl | rfl <;> rfl
    have e4 : I' (dr + 4) 0 = I (dr + 4) 0 := by rw [← hI]; rcases hd with rfl | rfl <;> rfl
    have e7 : I' (dr + 7) 0 = I (dr + 7) 0 := by rw [← hI]; rcases hd with rfl | rfl <;> rfl
    have e10 : I' (dr + 10) 0 = I (dr + 10) 0 := by rw [← hI]; rcases hd with rfl | rfl <;> rfl
    exact ⟨fun a g1 g2 => by rw [fr1.1 a g1, o a g1 g2], fun j g => by rw [fr1.2 j (by omega) (by omega) (by omega) (by omega), o7 j g], by rw [fr1.1 (dr + 1) (by omega), e1], by rw [fr1.1 (dr + 4) (by omega), e4], by rw [fr1.1 (dr + 7) (by omega), e7], by rw [fr1.1 (dr + 10) (by omega), e10], by rw [fr1.1 (dr + 15) (by omega), e15]⟩
  · rw [fr1.2 6 (by decide) (by decide) (by decide) (by decide), ← hI]; rfl
  · rw [fr1.2 7 (by decide) (by decide) (by decide) (by decide), ← hI]; rfl
  · rw [fr1.1 (dr + 13) (by omega), ← hI]
    rcases hd with rfl | rfl <;> rfl
  · have q : ∀ a : Nat, a ≠ 7 → I1 a = I' a := fr1.1
    have z : ∀ i : Nat, ¬ (i : Int) < 0 := fun i h => by omega
    unfold DB CIo
    rw [q (dr + 1) (by omega), q (dr + 4) (by omega), q (dr + 7) (by omega), q (dr + 10) (by omega), q (dr + 13) (by omega), q (dr + 15) (by omega), q dr (by omega), ← hI]
    refine ⟨?_, ?_, fun i hi => absurd hi (z i), fun i hi => absurd hi (z i), fun i hi => absurd hi (z i), fun i hi => absurd hi (z i), ?_, fun j hj => ?_⟩
    · rcases hd with rfl | rfl <;> exact co
    · rcases hd with rfl | rfl <;> exact ⟨rfl, rfl, rfl, rfl, rfl, fun _ => rfl⟩
    · rcases hd with rfl | rfl <;> rfl
    · have hj' : (j : Int) ≤ 2 * 0 := hj
      have e : j = 0 := by omega
      subst e
      rcases hd with rfl | rfl <;> exact h15
  · rw [fr1.2 8 (by decide) (by decide) (by decide) (by decide), ← hI]; rfl
/-- what a text tells -/
noncomputable def told (t : Tp) : RX (Bk × Int) := bookF t 80 (0, false) (B0, []) 0
theorem c_parse (hd : dr = 8 ∨ dr = 31) (tp : TP t I) (co : CIo dr I) (h15 : (I (dr + 15) 0).toInt = 0) (K : ∀ I1 : Nat → Nat → Int32, frE dr I I1 → BPo dr (told t) I1 → R I1 J) : WP ((d + 41), 49, 0, [some (.ref 7), none], [], (xSH L dr tl, I, J)) (fun v M => ∃ (I2 : Nat → Nat → Int32) (J2 : Nat → Nat → Int64), v = none ∧ M = (xSH L dr tl, I2, J2) ∧ R I2 J2) := by
  refine w49_0 (c_begin hd tp co h15 fun I1 f1 g1 d1 n1 => c_ploop (I0 := I) (Z := told t) hd (fun I2 f2 g2 => ⟨I2, J, rfl, rfl, K I2 f2 g2⟩) 80 0 0 (0, false) (B0, []) 0 I1 rfl rfl (tp.fe hd f1) f1 g1 d1 WB0 n1 (by decide) (by decide) rfl)
end PARSE
