/-! ===== book: the class's readers and rules ===== -/
section STME
variable {t : Tp} {L d dr tl : Nat} {I I0 I1 I2 : Nat → Nat → Int32} {J : Nat → Nat → Int64} {a0 a1 a2 a3 a4 a5 a6 : Int32} {s s2 : Lx} {k l v v1 v2 v3 lo hi n m : Int} {R : (Nat → Nat → Int32) → (Nat → Nat → Int64) → Prop} {c : List Int} {x : RX Lx} {B : aS} {b : Bk} {P : Prop} {q r N M w s0 : Nat}
theorem c_readS (hd : dr = 8 ∨ dr = 31) : CT L dr tl t 53 [some (.ref 7), none, none, none, none, none, none] (readF t) (d + 8) := by
  intro s b I J R tp h db w K
  have n4 : (sNR b.1).toNat ≤ 4 ∧ ((sNR b.1).toNat : Int) = sNR b.1 := by have := w.2.2.1.1; have := w.2.2.1.2.1; omega
  refine w53_0 hd (s_opn (s_full (sk7 hd) (by rw [n4.2]; exact db.2.1.2.2.1)) hd tp h fun I2 f2 g2 => ?_)
  have tp2 := tp.fq hd f2
  refine x_chW hd tp2 w (db.f hd f2) g2 fun I3 f3 g3 => ?_
  have tp3 := tp2.fq hd f3
  refine x_adv hd tp3 g3 fun I4 f4 g4 => ?_
  have tp4 := tp3.fq hd f4
  refine x_own (k := 4) hd tp4 g4 rfl (by decide) fun I5 f5 g5 => ?_
  have tp5 := tp4.fq hd f5
  refine x_num (lo := 1) (hi := 64) hd tp5 g5 rfl (fun _ _ => rfl) fun r6 I6 f6 g6 => ?_
  have tp6 := tp5.fq hd f6
  -- a number's state without its number
  have g6m : PGM dr t (bnd (bnd (bnd (bnd (bnd (opn t (4 ≤ (sNR b.1).toNat) s) (chW t b.1)) fun s => .ok (adv t s)) (owF t 4)) (numF t 1 64)) fun y => .ok y.1) b.2 I6 := by
    generalize bnd (bnd (bnd (bnd (opn t (4 ≤ (sNR b.1).toNat) s) (chW t b.1)) fun s => .ok (adv t s)) (owF t 4)) (numF t 1 64) = z at g6
    cases z with
    | ok y => exact g6.1
    | error e => exact g6
  refine x_own (k := 5) hd tp6 g6m rfl (by decide) fun I7 f7 g7 => ?_
  have tp7 := tp6.fq hd f7
  refine x_num (lo := 0) (hi := 9) hd tp7 g7 rfl (fun _ _ => rfl) fun r8 I8 f8 g8 => ?_
  have tp8 := tp7.fq hd f8
  have F8 := ((((((f2.tr f3).tr f4).tr f5).tr f6).tr f7).tr f8)
  -- what the places of the name are
  have fin : ∀ (z : RX Lx) (r16 : Int32) (I16 : Nat → Nat → Int32), frQ dr I I16 → PGN dr t (bnd (bnd z (owF t 6)) (numF t 0 99)) b.2 r16 I16 →
      ((∃ e : Int × Int, z = .error e ∧ readF t b s = .error e) ∨ ∃ (s2 s9 : Lx) (y6 y8 : Int), z = .ok s9 ∧ ((I3 7 2).toInt = qq t s2 ∧ (I3 7 3).toInt = ps t s2 ∧ qq t s2 ≤ ps t s2 ∧ ps t s2 ≤ t.2 ∧ ps t s2 - qq t s2 ≤ 6) ∧ r6.toInt = y6 ∧ r8.toInt = y8 ∧ (sNR b.1).toNat < 4 ∧ readF t b s = bnd (owF t 6 s9) fun s10 => bnd (numF t 0 99 s10) fun y => .ok (y.1, bRd t b.1 (qq t s2) (ps t s2) y6 y8 y.2, b.2)) →
      ((I16 7 6 = 0 → WP (d + 7, 5, 0, [some (.ref dr), some (.ref 3), some (.int (I3 7 2)), some (.int (I3 7 3)), some (.int r6), some (.int r8), some (.int r16)], [], (xSH L dr tl, I16, J)) (fun v M => ∃ (I13 : Nat → Nat → Int32) (J13 : Nat → Nat → Int64), v = none ∧ M = (xSH L dr tl, I13, J13) ∧ ∃ (I2 : Nat → Nat → Int32) (J2 : Nat → Nat → Int64), (none : Option Value) = none ∧ (xSH L dr tl, I13, J13) = (xSH L dr tl, I2, J2) ∧ R I2 J2)) ∧ (¬ I16 7 6 = 0 → ∃ (I2 : Nat → Nat → Int32) (J2 : Nat → Nat → Int64), (none : Option Value) = none ∧ (xSH L dr tl, I16, J) = (xSH L dr tl, I2, J2) ∧ R I2 J2)) := by
    intro z r16 I16 F g hz
    rcases hz with ⟨e, hz, hE⟩ | ⟨s2, s9, y6, y8, hz, ⟨p1, p2, p3, p4, p5⟩, hy6, hy8, lt, hE⟩
    · rw [hz] at g
      exact sk (no_flt (k := e.1) (l := e.2) g) ⟨I16, J, rfl, rfl, K I16 (F.toD hd) (by rw [hE]; exact g)⟩
    · rw [hz] at g
      have g1 : PGN dr t (bnd (owF t 6 s9) (numF t 0 99)) b.2 r16 I16 := g
      cases h10 : owF t 6 s9 with
      | error e =>
        rw [h10] at g1 hE
        exact sk (no_flt (k := e.1) (l := e.2) g1) ⟨I16, J, rfl, rfl, K I16 (F.toD hd) (by rw [hE]; exact g1)⟩
      | ok s10 =>
        rw [h10] at g1 hE
        have g2 : PGN dr t (numF t 0 99 s10) b.2 r16 I16 := g1
        have hE2 : readF t b s = bnd (numF t 0 99 s10) fun y => .ok (y.1, bRd t b.1 (qq t s2) (ps t s2) y6 y8 y.2, b.2) := hE
        cases h11 : numF t 0 99 s10 with
        | error e =>
          rw [h11] at g2 hE2
          exact sk (no_flt (k := e.1) (l := e.2) g2) ⟨I16, J, rfl, rfl, K I16 (F.toD hd) (by rw [hE2]; exact g2)⟩
        | ok y =>
          rw [h11] at g2 hE2
          obtain ⟨g3, g4⟩ : PG dr t y.1 b.2 I16 ∧ r16.toInt = y.2 := g2
          refine hit g3.f0 (c_addRd hd (tp.fq hd F) w (db.f hd F) n4.2 lt p1 p2 p3 p4 p5 hy6 hy8 g4 fun I9 f9 y1 y2 y3 d9 => ⟨I9, J, rfl, rfl, K I9 ((F.toD hd).tr f9) ?_⟩)
          rw [hE2]
          exact ⟨g3.fd y1 (by rw [y2]) y3, d9⟩
  have H : (∃ e : Int × Int, PH dr t e.1 e.2 I8 ∧ readF t b s = .error e) ∨ ∃ (s2 s7 : Lx) (y6 y8 : Lx × Int), ((I3 7 2).toInt = qq t s2 ∧ (I3 7 3).toInt = ps t s2 ∧ qq t s2 ≤ ps t s2 ∧ ps t s2 ≤ t.2 ∧ ps t s2 - qq t s2 ≤ 6) ∧ r6.toInt = y6.2 ∧ r8.toInt = y8.2 ∧ (sNR b.1).toNat < 4 ∧ PG dr t s7 b.2 I7 ∧ PG dr t y8.1 b.2 I8 ∧ readF t b s = bnd (skF t s7 y8) fun s9 => bnd (owF t 6 s9) fun s10 => bnd (numF t 0 99 s10) fun y => .ok (y.1, bRd t b.1 (qq t s2) (ps t s2) y6.2 y8.2 y.2, b.2) := by
    cases h2 : opn t (4 ≤ (sNR b.1).toNat) s with
    | error e => rw [h2] at g8; exact Or.inl ⟨e, g8, by unfold readF; rw [h2]; rfl⟩
    | ok s1 =>
      rw [h2] at g8 g7 g6 g3
      have E0 : readF t b s = bnd (chW t b.1 s1) fun s2 => bnd (owF t 4 (adv t s2)) fun s4 => bnd (numF t 1 64 s4) fun y6 => bnd (owF t 5 y6.1) fun s7 => bnd (numF t 0 9 s7) fun y8 => bnd (skF t s7 y8) fun s9 => bnd (owF t 6 s9) fun s10 => bnd (numF t 0 99 s10) fun y => .ok (y.1, bRd t b.1 (qq t s2) (ps t s2) y6.2 y8.2 y.2, b.2) := by unfold readF; rw [h2]; rfl
      have o1 := (opn_ok h2).2
      have g8a : PGN dr t (bnd (bnd (bnd (bnd (bnd (bnd (chW t b.1 s1) fun s => .ok (adv t s)) (owF t 4)) (numF t 1 64)) fun y => .ok y.1) (owF t 5)) (numF t 0 9)) b.2 r8 I8 := g8
      have g7a : PGM dr t (bnd (bnd (bnd (bnd (bnd (chW t b.1 s1) fun s => .ok (adv t s)) (owF t 4)) (numF t 1 64)) fun y => .ok y.1) (owF t 5)) b.2 I7 := g7
      have g6a : PGN dr t (bnd (bnd (bnd (chW t b.1 s1) fun s => .ok (adv t s)) (owF t 4)) (numF t 1 64)) b.2 r6 I6 := g6
      have g3a : PGM dr t (chW t b.1 s1) b.2 I3 := g3
      cases h3 : chW t b.1 s1 with
      | error e => rw [h3] at g8a E0; exact Or.inl ⟨e, g8a, E0⟩
      | ok s2 =>
        rw [h3] at g8a g7a g6a g3a E0
        have g3b : PG dr t s2 b.2 I3 := g3a
        obtain ⟨e2', k2, l2, -, -, -⟩ := chW_ok h3
        have hle := ps_le (t := t) (s := s2) g3b.1.1
        have hpn := ps_n (t := t) (s := s2) g3b.1.1
        have g8b : PGN dr t (bnd (bnd (bnd (bnd (owF t 4 (adv t s2)) (numF t 1 64)) fun y => .ok y.1) (owF t 5)) (numF t 0 9)) b.2 r8 I8 := g8a
        have g7b : PGM dr t (bnd (bnd (bnd (owF t 4 (adv t s2)) (numF t 1 64)) fun y => .ok y.1) (owF t 5)) b.2 I7 := g7a
        have g6b : PGN dr t (bnd (owF t 4 (adv t s2)) (numF t 1 64)) b.2 r6 I6 := g6a
        have E1 : readF t b s = bnd (owF t 4 (adv t s2)) fun s4 => bnd (numF t 1 64 s4) fun y6 => bnd (owF t 5 y6.1) fun s7 => bnd (numF t 0 9 s7) fun y8 => bnd (skF t s7 y8) fun s9 => bnd (owF t 6 s9) fun s10 => bnd (numF t 0 99 s10) fun y => .ok (y.1, bRd t b.1 (qq t s2) (ps t s2) y6.2 y8.2 y.2, b.2) := E0
        cases h4 : owF t 4 (adv t s2) with
        | error e => rw [h4] at g8b E1; exact Or.inl ⟨e, g8b, E1⟩
        | ok s4 =>
          rw [h4] at g8b g7b g6b E1
          have g8c : PGN dr t (bnd (bnd (bnd (numF t 1 64 s4) fun y => .ok y.1) (owF t 5)) (numF t 0 9)) b.2 r8 I8 := g8b
          have g7c : PGM dr t (bnd (bnd (numF t 1 64 s4) fun y => .ok y.1) (owF t 5)) b.2 I7 := g7b
          have g6c : PGN dr t (numF t 1 64 s4) b.2 r6 I6 := g6b
          have E2 : readF t b s = bnd (numF t 1 64 s4) fun y6 => bnd (owF t 5 y6.1) fun s7 => bnd (numF t 0 9 s7) fun y8 => bnd (skF t s7 y8) fun s9 => bnd (owF t 6 s9) fun s10 => bnd (numF t 0 99 s10) fun y => .ok (y.1, bRd t b.1 (qq t s2) (ps t s2) y6.2 y8.2 y.2, b.2) := E1
          cases h5 : numF t 1 64 s4 with
          | error e => rw [h5] at g8c E2; exact Or.inl ⟨e, g8c, E2⟩
          | ok y6 =>
            rw [h5] at g8c g7c g6c E2
            have hy6 : r6.toInt = y6.2 := g6c.2
            have g8d : PGN dr t (bnd (owF t 5 y6.1) (numF t 0 9)) b.2 r8 I8 := g8c
            have g7d : PGM dr t (owF t 5 y6.1) b.2 I7 := g7c
            have E3 : readF t b s = bnd (owF t 5 y6.1) fun s7 => bnd (numF t 0 9 s7) fun y8 => bnd (skF t s7 y8) fun s9 => bnd (owF t 6 s9) fun s10 => bnd (numF t 0 99 s10) fun y => .ok (y.1, bRd t b.1 (qq t s2) (ps t s2) y6.2 y8.2 y.2, b.2) := E2
            cases h6 : owF t 5 y6.1 with
            | error e => rw [h6] at g8d E3; exact Or.inl ⟨e, g8d, E3⟩
            | ok s7 =>
              rw [h6] at g8d g7d E3
              have g8e : PGN dr t (numF t 0 9 s7) b.2 r8 I8 := g8d
              have E4 : readF t b s = bnd (numF t 0 9 s7) fun y8 => bnd (skF t s7 y8) fun s9 => bnd (owF t 6 s9) fun s10 => bnd (numF t 0 99 s10) fun y => .ok (y.1, bRd t b.1 (qq t s2) (ps t s2) y6.2 y8.2 y.2, b.2) := E3
              cases h7 : numF t 0 9 s7 with
              | error e => rw [h7] at g8e E4; exact Or.inl ⟨e, g8e, E4⟩
              | ok y8 =>
                rw [h7] at g8e E4
                exact Or.inr ⟨s2, s7, y6, y8, ⟨g3b.1.2.1, g3b.1.2.2.1, hle, hpn, by rw [← e2'] at l2; omega⟩, hy6, g8e.2, by omega, g7d, g8e.1, E4⟩
  rcases H with ⟨e, gz, hE⟩ | ⟨s2, s7, y6, y8, p, hy6, hy8, lt, g7e, g9, E5⟩
  · exact brz (p := r8 = 1) Iff.rfl (fun _ => g_failF hd tp8 gz fun I14 f14 g14 => x_own (x := .error e) (c := b.2) (k := 6) hd (tp8.fq hd f14) g14 rfl (by decide) fun I15 f15 g15 => x_num (lo := 0) (hi := 99) hd ((tp8.fq hd f14).fq hd f15) g15 rfl (fun _ _ => rfl) fun r16 I16 f16 g16 => fin (.error e) r16 I16 (((F8.tr f14).tr f15).tr f16) g16 (Or.inl ⟨e, rfl, hE⟩)) (fun _ => x_own (x := .error e) (c := b.2) (k := 6) hd tp8 gz rfl (by decide) fun I15 f15 g15 => x_num (lo := 0) (hi := 99) hd (tp8.fq hd f15) g15 rfl (fun _ _ => rfl) fun r16 I16 f16 g16 => fin (.error e) r16 I16 ((F8.tr f15).tr f16) g16 (Or.inl ⟨e, rfl, hE⟩))
  · by_cases u : y8.2 = 1
    · have hs : skF t s7 y8 = .error (2, (qq t s7 : Int)) := if_pos u
      rw [hs] at E5
      exact hit (p := r8 = 1) (eq_ti.mpr (by rw [hy8, u]; rfl)) (g_fail (k := 2) hd tp8 g9 rfl (by decide) g7e.1.2.1 fun I14 f14 g14 => x_own (x := .error (2, (qq t s7 : Int))) (c := b.2) (k := 6) hd (tp8.fq hd f14) g14 rfl (by decide) fun I15 f15 g15 => x_num (lo := 0) (hi := 99) hd ((tp8.fq hd f14).fq hd f15) g15 rfl (fun _ _ => rfl) fun r16 I16 f16 g16 => fin (.error (2, (qq t s7 : Int))) r16 I16 (((F8.tr f14).tr f15).tr f16) g16 (Or.inl ⟨_, rfl, E5⟩))
    · have hs : skF t s7 y8 = .ok y8.1 := if_neg u
      rw [hs] at E5
      exact sk (p := r8 = 1) (fun z => u (by rw [← hy8, z]; rfl)) (x_own (x := .ok y8.1) (c := b.2) (k := 6) hd tp8 g9 rfl (by decide) fun I15 f15 g15 => x_num (lo := 0) (hi := 99) hd (tp8.fq hd f15) g15 rfl (fun _ _ => rfl) fun r16 I16 f16 g16 => fin (.ok y8.1) r16 I16 ((F8.tr f15).tr f16) g16 (Or.inr ⟨s2, y8.1, y6.2, y8.2, rfl, p, hy6, hy8, lt, E5⟩))
/-- a part of a rule is closed -/
theorem c_close (hd : dr = 8 ∨ dr = 31) (h4 : (I (dr + 13) 4).toInt = n) (hn : 0 ≤ n ∧ n ≤ 17) (K : ∀ I1 : Nat → Nat → Int32, (∀ a : Nat, a ≠ dr + 13 → a ≠ dr + 15 → I1 a = I a) → (∀ j : Nat, j ≠ 4 → I1 (dr + 13) j = I (dr + 13) j) → (n + 1 < 17 → (I1 (dr + 13) 4).toInt = n + 1 ∧ I1 (dr + 15) (n + 1).toNat = I (dr + 13) 3 ∧ ∀ j : Nat, j ≠ (n + 1).toNat → I1 (dr + 15) j = I (dr + 15) j) → (0 ≤ (I1 (dr + 13) 4).toInt ∧ (I1 (dr + 13) 4).toInt ≤ 17) → I1 (dr + 15) 0 = I (dr + 15) 0 → R I1 J) : WP ((d + 1), 95, 0, [some (.ref (dr + 13))], [], (xSH L dr tl, I, J)) (fun v M => ∃ (I2 : Nat → Nat → Int32) (J2 : Nat → Nat → Int64), v = none ∧ M = (xSH L dr tl, I2, J2) ∧ R I2 J2) := by
  have a1 : (I (dr + 13) 4 + 1).toInt = n + 1 := by rw [add1 (by omega) (by omega), h4]
  have e17 : (17 : Int32).toInt = 17 := rfl
  refine w95_0 (by omega) (brz lt_ti (fun y => ?_) (fun y => ⟨I, J, rfl, rfl, K I (fun _ _ _ => rfl) (fun _ _ => rfl) (fun z => by omega) (by omega) rfl⟩))
  rw [xg, xgn (show 3 ≠ 4 by decide)]
  have xi : xIx (I (dr + 13) 4 + 1) = (n + 1).toNat := by rw [xIx_ti, a1]
  rw [xi]
  refine ⟨by rw [xin_iff, a1]; omega, _, J, rfl, rfl, K _ (fun a g1 g2 => by rw [xwI_ne (show a ≠ dr + 13 + 2 by omega), xwI_ne g1]) (fun j hj => by rw [xwI_ne (by omega), xgn hj]) (fun _ => ⟨by rw [xwI_ne (by omega), xg]; exact a1, by rw [show dr + 15 = dr + 13 + 2 from rfl, xg], fun j hj => by rw [show dr + 15 = dr + 13 + 2 from rfl, xgn hj, xwI_ne (by omega)]⟩) (by rw [xwI_ne (by omega), xg, a1]; omega) ?_⟩
  rw [show dr + 15 = dr + 13 + 2 from rfl, xgn (by omega), xwI_ne (by omega)]
theorem PH.fd (h : PH dr t k l I) (e : I1 7 = I 7) (e1 : I1 (dr + 13) 3 = I (dr + 13) 3) : PH dr t k l I1 := by unfold PH PF at *; rw [e, e1]; exact h
theorem frD_cl (hd : dr = 8 ∨ dr = 31) (o : ∀ a : Nat, a ≠ dr + 13 → a ≠ dr + 15 → I1 a = I a) (z : I1 (dr + 15) 0 = I (dr + 15) 0) : frD dr I I1 := ⟨fun a _ g => o a (by omega) (by omega), fun j _ => by rw [o 7 (by omega) (by omega)], by rw [o (dr + 1) (by omega) (by omega)], by rw [o (dr + 4) (by omega) (by omega)], by rw [o (dr + 7) (by omega) (by omega)], by rw [o (dr + 10) (by omega) (by omega)], z⟩
theorem c_ruleF (hd : dr = 8 ∨ dr = 31) (tp : TP t I) (g : PH dr t k l I) (hn : 0 ≤ (I (dr + 13) 4).toInt ∧ (I (dr + 13) 4).toInt ≤ 17) (K : ∀ I1 : Nat → Nat → Int32, frD dr I I1 → PH dr t k l I1 → R I1 J) : WP ((d + 39), 95, 0, [some (.ref (dr + 13))], [], (xSH L dr tl, I, J)) (fun v M => ∃ (I5 : Nat → Nat → Int32) (J5 : Nat → Nat → Int64), v = none ∧ M = (xSH L dr tl, I5, J5) ∧ WP ((d + 39), 65, 0, [some (.ref 7), some (.int 0), none], [], (xSH L dr tl, I5, J5)) (fun v M => ∃ (I6 : Nat → Nat → Int32) (J6 : Nat → Nat → Int64), v = none ∧ M = (xSH L dr tl, I6, J6) ∧ WP ((d + 39), 95, 0, [some (.ref (dr + 13))], [], (xSH L dr tl, I6, J6)) (fun v M => ∃ (I7 : Nat → Nat → Int32) (J7 : Nat → Nat → Int64), v = none ∧ M = (xSH L dr tl, I7, J7) ∧ R I7 J7))) := by
  refine c_close hd rfl hn fun I5 o5 p5 _ b5 z5 => ?_
  have fd5 := frD_cl hd o5 z5
  refine (testO_cm hd _ (by omega)).2 k l _ _ _ (tp.fd hd fd5) (g.fd (o5 7 (by omega) (by omega)) (p5 3 (by decide))) fun I6 f6 g6 => ?_
  refine c_close hd rfl (by rw [f6.2.2 4 (by decide)]; exact b5) fun I7 o7 p7 _ b7 z7 => K I7 ((fd5.tr (f6.toD hd)).tr (frD_cl hd o7 z7)) (g6.fd (o7 7 (by omega) (by omega)) (p7 3 (by decide)))
theorem c_rule (hd : dr = 8 ∨ dr = 31) : CT L dr tl t 54 [some (.ref 7)] (ruleF t) (d + 40) := by
  intro s b I J R tp h db w K
  have w6 := w.2.2.2.2.2.1
  have n8 : (sNU b.1).toNat ≤ 8 ∧ ((sNU b.1).toNat : Int) = sNU b.1 := by omega
  have full : PB (d + 39, 90, 0, [some (.ref (dr + 13))], [], (xSH L dr tl, I, J)) (8 ≤ (sNU b.1).toNat) (xSH L dr tl, I, J) := by
    have e2 : (2 : Int32).toInt = 2 := rfl
    have e8 : (8 : Int32).toInt = 8 := rfl
    have e4 : (I (dr + 13) 4).toInt = 2 * sNU b.1 := db.2.2.2.2.2.2.1
    have e5 : (I (dr + 13) 4 / 2).toInt = sNU b.1 := by rw [div_ti (by omega) (by decide), e2, e4]; omega
    exact w90_0 (by omega) (w89_0 (by omega) ⟨_, I, J, rfl, rfl, brz lt_ti (fun y => ⟨0, rfl, Or.inr ⟨rfl, by omega⟩, rfl⟩) (fun y => ⟨1, rfl, Or.inl ⟨rfl, by omega⟩, rfl⟩)⟩)
  refine w54_0 hd (s_opn full hd tp h fun I2 f2 g2 => ?_)
  have tp2 := tp.fq hd f2
  refine x_cm (sumO_cm hd 6 0 (by omega) rfl (d + 39) (by omega)) tp2 g2 fun I3 f3 g3 => ?_
  have tp3 := tp2.fq hd f3
  have F3 := f2.tr f3
  have db3 := db.f hd F3
  have h4 : (I3 (dr + 13) 4).toInt = 2 * sNU b.1 := db3.2.2.2.2.2.2.1
  have bF : ∀ I4 : Nat → Nat → Int32, frQ dr I3 I4 → 0 ≤ (I4 (dr + 13) 4).toInt ∧ (I4 (dr + 13) 4).toInt ≤ 17 := fun I4 f4 => by rw [f4.2.2 4 (by decide), h4]; omega
  have E : ruleF t b s = bnd (bnd (opn t (8 ≤ (sNU b.1).toNat) s) (sumO t 6)) fun x => bnd (owF t 7 x.1) fun s4 => bnd (testF t (factO t 6) s4) fun y => .ok (y.1, bRule b.1 b.2 x.2 y.2, b.2 ++ x.2 ++ y.2) := by unfold ruleF; rw [bnd_a]
  cases hx : bnd (opn t (8 ≤ (sNU b.1).toNat) s) (sumO t 6) with
  | error e =>
    rw [hx] at g3 E
    exact x_own (x := .error e) (c := b.2) (k := 7) hd tp3 g3 rfl (by decide) fun I4 f4 g4 => c_ruleF (k := e.1) (l := e.2) hd (tp3.fq hd f4) g4 (bF I4 f4) fun I7 f7 g7 => ⟨I7, J, rfl, rfl, K I7 (((F3.tr f4).toD hd).tr f7) (by rw [E]; exact g7)⟩
  | ok y =>
    obtain ⟨s1, ho, -⟩ := bnd_ok hx
    have o1 := (opn_ok ho).2
    rw [hx] at g3 E
    have g3' : PG dr t y.1 (b.2 ++ y.2) I3 := g3
    have E1 : ruleF t b s = bnd (owF t 7 y.1) fun s4 => bnd (testF t (factO t 6) s4) fun z => .ok (z.1, bRule b.1 b.2 y.2 z.2, b.2 ++ y.2 ++ z.2) := E
    refine g_takeOwn (k := 7) hd tp3 g3' rfl fun I4 f4 g4 => ?_
    have tp4 := tp3.fq hd f4
    have F4 := F3.tr f4
    cases h5 : owF t 7 y.1 with
    | error e =>
      rw [h5] at g4 E1
      exact c_ruleF (k := e.1) (l := e.2) hd tp4 g4 (bF I4 f4) fun I7 f7 g7 => ⟨I7, J, rfl, rfl, K I7 ((F4.toD hd).tr f7) (by rw [E1]; exact g7)⟩
    | ok s4 =>
      rw [h5] at g4 E1
      have g4' : PG dr t s4 (b.2 ++ y.2) I4 := g4
      have E2 : ruleF t b s = bnd (testF t (factO t 6) s4) fun z => .ok (z.1, bRule b.1 b.2 y.2 z.2, b.2 ++ y.2 ++ z.2) := E1
      have h44 : (I4 (dr + 13) 4).toInt = 2 * sNU b.1 := by rw [f4.2.2 4 (by decide)]; exact h4
      have db4 := db.f hd F4
      refine c_close hd h44 (by omega) fun I5 o5 p5 c5 b5 z5 => ?_
      obtain ⟨c51, c52, c53⟩ := c5 (by omega)
      have fd5 := frD_cl hd o5 z5
      have g5 : PG dr t s4 (b.2 ++ y.2) I5 := g4'.fd (o5 7 (by omega) (by omega)) (p5 3 (by decide)) (o5 (dr + 14) (by omega) (by omega))
      refine (testO_cm hd (d + 39) (by omega)).1 s4 (b.2 ++ y.2) _ _ _ (tp4.fd hd fd5) g5 fun I6 f6 g6 => ?_
      have q6 : (I6 (dr + 13) 4).toInt = 2 * sNU b.1 + 1 := by rw [f6.2.2 4 (by decide)]; exact c51
      have r6 : I6 (dr + 15) = I5 (dr + 15) := f6.1 (dr + 15) (by omega) (by omega) (by omega)
      have F6 := ((F4.toD hd).tr fd5).tr (f6.toD hd)
      refine c_close hd q6 (by omega) fun I7 o7 p7 c7 b7 z7 => ?_
      have F7 := F6.tr (frD_cl hd o7 z7)
      cases h6 : testF t (factO t 6) s4 with
      | error e =>
        rw [h6] at g6 E2
        have g6' : PH dr t e.1 e.2 I6 := g6
        exact ⟨I7, J, rfl, rfl, K I7 F7 (by rw [E2]; exact g6'.fd (o7 7 (by omega) (by omega)) (p7 3 (by decide)))⟩
      | ok z =>
        rw [h6] at g6 E2
        have g6' : PG dr t z.1 (b.2 ++ y.2 ++ z.2) I6 := g6
        refine ⟨I7, J, rfl, rfl, K I7 F7 ?_⟩
        rw [E2]
        obtain ⟨c71, c72, c73⟩ := c7 (by omega)
        refine ⟨g6'.fd (o7 7 (by omega) (by omega)) (p7 3 (by decide)) (o7 (dr + 14) (by omega) (by omega)), ?_⟩
        -- the draft
        have oo : ∀ a : Nat, dr ≤ a → a ≠ dr + 13 → a ≠ dr + 14 → a ≠ dr + 15 → I7 a = I4 a := fun a g0 g1 g2 g3 => by rw [o7 a g1 g3, f6.1 a (by omega) g1 g2, o5 a g1 g3]
        obtain ⟨d1, d2, d3, d4, d5, d6, d7⟩ := db4
        have n1 : (2 * sNU b.1 + 1).toNat = 2 * (sNU b.1).toNat + 1 := by omega
        have n2 : (2 * sNU b.1 + 1 + 1).toNat = 2 * (sNU b.1).toNat + 2 := by omega
        show DB (bRule b.1 b.2 y.2 z.2) dr I7
        unfold DB CIo at *
        rw [oo (dr + 1) (by omega) (by omega) (by omega) (by omega), oo (dr + 2) (by omega) (by omega) (by omega) (by omega), oo (dr + 3) (by omega) (by omega) (by omega) (by omega), oo (dr + 4) (by omega) (by omega) (by omega) (by omega), oo (dr + 5) (by omega) (by omega) (by omega) (by omega), oo (dr + 6) (by omega) (by omega) (by omega) (by omega), oo (dr + 7) (by omega) (by omega) (by omega) (by omega), oo (dr + 8) (by omega) (by omega) (by omega) (by omega), oo (dr + 9) (by omega) (by omega) (by omega) (by omega), oo (dr + 10) (by omega) (by omega) (by omega) (by omega), oo (dr + 11) (by omega) (by omega) (by omega) (by omega), oo (dr + 12) (by omega) (by omega) (by omega) (by omega), oo (dr + 17) (by omega) (by omega) (by omega) (by omega), oo (dr + 18) (by omega) (by omega) (by omega) (by omega), oo (dr + 19) (by omega) (by omega) (by omega) (by omega), oo (dr + 20) (by omega) (by omega) (by omega) (by omega), oo (dr + 21) (by omega) (by omega) (by omega) (by omega), oo dr (by omega) (by omega) (by omega) (by omega)]
        refine ⟨d1, d2, d3, d4, d5, d6, ?_, fun j hj => ?_⟩
        · rw [c71]; show _ = 2 * (sNU b.1 + 1); omega
        · have hj' : (j : Int) ≤ 2 * (sNU b.1 + 1) := hj
          by_cases e2 : j = 2 * (sNU b.1).toNat + 2
          · have b2 : bRule b.1 b.2 y.2 z.2 13 j = ((b.2 ++ y.2 ++ z.2).length : Int) := by
              show sset _ 13 (2 * (sNU b.1).toNat + 2) _ 13 j = _
              rw [e2]; exact sg
            rw [b2, e2, ← n2, c72]
            exact g6'.2.1.1
          · have z1 := c73 j (by omega)
            by_cases e1 : j = 2 * (sNU b.1).toNat + 1
            · have b1 : bRule b.1 b.2 y.2 z.2 13 j = ((b.2 ++ y.2).length : Int) := by
                show sset (sset _ 13 (2 * (sNU b.1).toNat + 1) _) 13 (2 * (sNU b.1).toNat + 2) _ 13 j = _
                rw [sgn e2, e1]; exact sg
              rw [b1, z1, r6, e1, ← n1, c52]
              exact g4'.2.1.1
            · have b0 : bRule b.1 b.2 y.2 z.2 13 j = b.1 13 j := by
                show sset (sset _ 13 (2 * (sNU b.1).toNat + 1) _) 13 (2 * (sNU b.1).toNat + 2) _ 13 j = _
                rw [sgn e2, sgn e1]; rfl
              rw [b0, z1, r6, c53 j (by omega)]
              exact d7.2 j (by omega)
end STME
