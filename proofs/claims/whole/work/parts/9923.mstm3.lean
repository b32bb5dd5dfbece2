/-! ===== book: the reference's readers and rules ===== -/
section MSTM3
variable {t : Tp} {L d dr tl : Nat} {I I0 I1 I2 : Nat → Nat → Int32} {J J0 J1 J2 : Nat → Nat → Int64} {a0 a1 a2 a3 a4 : Int32} {b2 : Int64} {s s' : Lx} {v v1 v2 v3 o l : Int} {R : (Nat → Nat → Int32) → (Nat → Nat → Int64) → Prop} {Q : Option Value → xMem → Prop} {x : RX Lx} {c : List Int} {B : aS} {e : Int × Int} {kn N M q r : Nat} {P : Prop}
theorem MN_X {x : RX (Lx × Int)} {r : Int32} (h : MN t x r I) : MX t (bnd x fun y => .ok y.1) I := by
  cases x with
  | ok y => exact h.1
  | error e => exact h
theorem m_readT : MTs L dr tl t 217 4 (readF t) (d + 6) := by
  intro s b a1 I J R mt wa h mc md w hc hs ha K
  have nI := w.nR
  have e93 : (I 93 1).toInt = ((sNR b.1).toNat : Int) := by rw [nI.2]; exact md.1.2.2.1
  refine w217_0 (m_isFull (s := s) (kn := 1) (N := (sNR b.1).toNat) (M := 4) h rfl (by decide) e93 rfl nI.1 ha (fun lt => br0 ?_) (fun ge I1 f1 z1 => br1 ⟨I1, J, rfl, rfl, K I1 J f1.toB ?_⟩))
  · have hO : opn t (4 ≤ (sNR b.1).toNat) s = .ok (adv t s) := if_neg lt
    have E : readF t b s = bnd (chW t b.1 (adv t s)) fun s2 => bnd (owF t 4 (adv t s2)) fun s4 => bnd (numF t 1 64 s4) fun y6 => bnd (owF t 5 y6.1) fun s7 => bnd (numF t 0 9 s7) fun y8 => bnd (skF t s7 y8) fun s9 => bnd (owF t 6 s9) fun s10 => bnd (numF t 0 99 s10) fun y => .ok (y.1, bRd t b.1 (qq t s2) (ps t s2) y6.2 y8.2 y.2, b.2) := by unfold readF; rw [hO]; rfl
    refine m_newName (kn := 1) (N := (sNR b.1).toNat) mt wa w md h rfl (Or.inr ⟨rfl, rfl, by omega⟩) fun r3 I3 J3 q3 f3 g3 hJ => ?_
    refine m_asks (k := 4) (by decide) (mt.fn f3) (wa.fn f3) g3 fun I4 f4 g4 => ?_
    have f34 := f3.tr f4.n
    refine m_number (lo := 1) (hi := 64) (mt.fn f34) g4 rfl (fun _ _ => rfl) fun r5 I5 f5 g5 _ => ?_
    have f35 := f34.tr f5.n
    have g5m := MN_X g5
    refine m_asks (k := 5) (by decide) (mt.fn f35) (wa.fn f35) g5m fun I6 f6 g6 => ?_
    have f36 := f35.tr f6.n
    refine m_number (lo := 0) (hi := 9) (mt.fn f36) g6 rfl (fun _ _ => rfl) fun r7 I7 f7 g7 np => ?_
    have f37 : frNm I I7 := f36.tr f7.n
    have mt7 := mt.fn f37
    have wa7 := wa.fn f37
    have fBJ : frB I I J J3 := by
      rcases hJ with ⟨-, hJ⟩ | ⟨z, -, hJ, -⟩
      · rw [hJ]; exact frB_refl
      · rw [hJ]; exact frB_J (by omega)
    have fin : ∀ (z : RX Lx) (r14 : Int32) (I14 : Nat → Nat → Int32), frNm I I14 → MN t (bnd (bnd z (owF t 6)) (numF t 0 99)) r14 I14 → ((∃ e : Int × Int, z = .error e ∧ readF t b s = .error e) ∨ ∃ (s9 : Lx) (y6 y8 : Int), z = .ok s9 ∧ chW t b.1 (adv t s) = .ok (adv t s) ∧ r5.toInt = y6 ∧ r7.toInt = y8 ∧ readF t b s = bnd (owF t 6 s9) fun s10 => bnd (numF t 0 99 s10) fun y => .ok (y.1, bRd t b.1 (qq t (adv t s)) (ps t (adv t s)) y6 y8 y.2, b.2)) →
        (((I14 71 5) = 0 → (xin (3 * r3) 24 = true ∧ (xin ((3 * r3) + 1) 24 = true ∧ (xin ((3 * r3) + 2) 24 = true ∧ ∃ (I2 : Nat → Nat → Int32) (J2 : Nat → Nat → Int64), (none : Option Value) = none ∧ (xSH L dr tl, (xwI (xwI (xwI (xwI I14 99 (xIx (3 * r3)) r5) 99 (xIx ((3 * r3) + 1)) r7) 99 (xIx ((3 * r3) + 2)) r14) 93 1 (((xwI (xwI (xwI I14 99 (xIx (3 * r3)) r5) 99 (xIx ((3 * r3) + 1)) r7) 99 (xIx ((3 * r3) + 2)) r14) 93 1) + 1)), J3) = (xSH L dr tl, I2, J2) ∧ R I2 J2)))) ∧ (¬ (I14 71 5) = 0 → ∃ (I2 : Nat → Nat → Int32) (J2 : Nat → Nat → Int64), (none : Option Value) = none ∧ (xSH L dr tl, I14, J3) = (xSH L dr tl, I2, J2) ∧ R I2 J2)) := by
      intro z r14 I14 F g hz
      have fB : frB I I14 J J3 := fBJ.tr F.toB
      rcases hz with ⟨e, hz, hE⟩ | ⟨s9, y6, y8, hz, hw, hy6, hy8, hE⟩
      · rw [hz] at g
        have z5 : MZ e I14 := g
        exact sk z5.n0 ⟨I14, J3, rfl, rfl, K I14 J3 fB (by rw [hE]; exact z5)⟩
      · rw [hz] at g
        have g1 : MN t (bnd (owF t 6 s9) (numF t 0 99)) r14 I14 := g
        cases h10 : owF t 6 s9 with
        | error e =>
          rw [h10] at g1 hE
          have z5 : MZ e I14 := g1
          exact sk z5.n0 ⟨I14, J3, rfl, rfl, K I14 J3 fB (by rw [hE]; exact z5)⟩
        | ok s10 =>
          rw [h10] at g1 hE
          have g2 : MN t (numF t 0 99 s10) r14 I14 := g1
          have hE2 : readF t b s = bnd (numF t 0 99 s10) fun y => .ok (y.1, bRd t b.1 (qq t (adv t s)) (ps t (adv t s)) y6 y8 y.2, b.2) := hE
          cases h11 : numF t 0 99 s10 with
          | error e =>
            rw [h11] at g2 hE2
            have z5 : MZ e I14 := g2
            exact sk z5.n0 ⟨I14, J3, rfl, rfl, K I14 J3 fB (by rw [hE2]; exact z5)⟩
          | ok y =>
            rw [h11] at g2 hE2
            obtain ⟨g7', g8⟩ : MR t y.1 I14 ∧ r14.toInt = y.2 := g2
            obtain ⟨zz, -, hJ', hz'⟩ : ∃ z : Int64, chW t b.1 (adv t s) = .ok (adv t s) ∧ J3 = xwJ J 94 (6 * 1 + (sNR b.1).toNat) z ∧ z.toInt = nameN (ltr t (qq t (adv t s))) (ps t (adv t s) - qq t (adv t s)) := by
              rcases hJ with ⟨⟨e, he⟩, -⟩ | hJ
              · rw [hw] at he; cases he
              · exact hJ
            have md5 := md.fn F
            have mc5 := mc.fn F
            have e5 : (I14 93 1).toInt = sNR b.1 := md5.1.2.2.1
            have e3 : (3 : Int32).toInt = 3 := rfl
            have m3 : (3 * r3).toInt = ((3 * (sNR b.1).toNat : Nat) : Int) := by rw [mul_ti (by rw [e3, q3]; omega) (by rw [e3, q3]; omega), e3, q3]; omega
            have m4 : (3 * r3 + 1).toInt = ((3 * (sNR b.1).toNat + 1 : Nat) : Int) := by rw [add1 (by omega) (by omega), m3]; rfl
            have e2 : (2 : Int32).toInt = 2 := rfl
            have m5 : (3 * r3 + 2).toInt = ((3 * (sNR b.1).toNat + 2 : Nat) : Int) := by rw [add_ti (by rw [m3, e2]; omega) (by rw [m3, e2]; omega), m3, e2]; omega
            have x3 : xIx (3 * r3) = 3 * (sNR b.1).toNat := by rw [xIx_ti, m3]; exact Int.toNat_natCast _
            have x4 : xIx (3 * r3 + 1) = 3 * (sNR b.1).toNat + 1 := by rw [xIx_ti, m4]; exact Int.toNat_natCast _
            have x5 : xIx (3 * r3 + 2) = 3 * (sNR b.1).toNat + 2 := by rw [xIx_ti, m5]; exact Int.toNat_natCast _
            refine hit (eq0.mpr g7'.2.2.2) ⟨by rw [xin_iff, m3]; omega, by rw [xin_iff, m4]; omega, by rw [xin_iff, m5]; omega, ⟨_, J3, rfl, rfl, K _ J3 ?_ ?_⟩⟩
            · rw [x3, x4, x5]
              have l99 : lim 99 = 12 := rfl
              exact (((fB.tr (frB_w (a := 99) (Or.inl (by rw [l99]; omega)) (by decide))).tr (frB_w (a := 99) (Or.inl (by rw [l99]; omega)) (by decide))).tr (frB_w (a := 99) (Or.inl (by rw [l99]; omega)) (by decide))).tr (frB_w (a := 93) (Or.inl (by decide)) (by decide))
            · rw [hE2, x3, x4, x5]
              refine ⟨g7', mc5, MD.rdr (N := (sNR b.1).toNat) md5 w nI.2 (by omega) (ps_le h.1) ?_ ?_ ?_ ?_ ?_ (fun j hj => ?_) (fun j hj => ?_) (fun j hj => ?_) (fun a g1 g2 g3 => ?_)⟩
              · show (I14 93 1 + 1).toInt = _
                rw [add1 (by rw [e5]; omega) (by rw [e5]; omega), e5]
              · rw [xwI_ne (by decide), xgn (by omega), xgn (by omega), xg]; exact hy6
              · rw [xwI_ne (by decide), xgn (by omega), xg]; exact hy8
              · rw [xwI_ne (by decide), xg]; exact g8
              · rw [hJ', show 6 * 1 + (sNR b.1).toNat = 6 + (sNR b.1).toNat by omega, jg]; exact hz'
              · rw [xgn hj, xwI_ne (by decide), xwI_ne (by decide), xwI_ne (by decide)]
              · rw [xwI_ne (by decide), xgn (by omega), xgn (by omega), xgn (by omega)]
              · rw [hJ', jgn (by omega)]
              · rw [xwI_ne g1, xwI_ne g2, xwI_ne g2, xwI_ne g2]
    have H : (∃ e : Int × Int, MZ e I7 ∧ readF t b s = .error e) ∨ ∃ (s7 : Lx) (y6 y8 : Lx × Int), chW t b.1 (adv t s) = .ok (adv t s) ∧ r5.toInt = y6.2 ∧ r7.toInt = y8.2 ∧ (I7 71 9).toInt = qq t s7 ∧ MR t y8.1 I7 ∧ readF t b s = bnd (skF t s7 y8) fun s9 => bnd (owF t 6 s9) fun s10 => bnd (numF t 0 99 s10) fun y => .ok (y.1, bRd t b.1 (qq t (adv t s)) (ps t (adv t s)) y6.2 y8.2 y.2, b.2) := by
      cases hw : chW t b.1 (adv t s) with
      | error e =>
        rw [hw] at g7 E
        exact Or.inl ⟨e, g7, E⟩
      | ok s2 =>
        obtain ⟨e2, k2, l2, -, -, -⟩ := chW_ok hw
        subst e2
        rw [hw] at g7 g5 np E
        have g7a : MN t (bnd (bnd (bnd (bnd (owF t 4 (adv t (adv t s))) (numF t 1 64)) fun y => .ok y.1) (owF t 5)) (numF t 0 9)) r7 I7 := g7
        have g5a : MN t (bnd (owF t 4 (adv t (adv t s))) (numF t 1 64)) r5 I5 := g5
        have E1 : readF t b s = bnd (owF t 4 (adv t (adv t s))) fun s4 => bnd (numF t 1 64 s4) fun y6 => bnd (owF t 5 y6.1) fun s7 => bnd (numF t 0 9 s7) fun y8 => bnd (skF t s7 y8) fun s9 => bnd (owF t 6 s9) fun s10 => bnd (numF t 0 99 s10) fun y => .ok (y.1, bRd t b.1 (qq t (adv t s)) (ps t (adv t s)) y6.2 y8.2 y.2, b.2) := E
        cases h4 : owF t 4 (adv t (adv t s)) with
        | error e => rw [h4] at g7a E1; exact Or.inl ⟨e, g7a, E1⟩
        | ok s4 =>
          rw [h4] at g7a g5a E1
          have g7b : MN t (bnd (bnd (bnd (numF t 1 64 s4) fun y => .ok y.1) (owF t 5)) (numF t 0 9)) r7 I7 := g7a
          have g5b : MN t (numF t 1 64 s4) r5 I5 := g5a
          have E2 : readF t b s = bnd (numF t 1 64 s4) fun y6 => bnd (owF t 5 y6.1) fun s7 => bnd (numF t 0 9 s7) fun y8 => bnd (skF t s7 y8) fun s9 => bnd (owF t 6 s9) fun s10 => bnd (numF t 0 99 s10) fun y => .ok (y.1, bRd t b.1 (qq t (adv t s)) (ps t (adv t s)) y6.2 y8.2 y.2, b.2) := E1
          cases h5 : numF t 1 64 s4 with
          | error e => rw [h5] at g7b E2; exact Or.inl ⟨e, g7b, E2⟩
          | ok y6 =>
            rw [h5] at g7b g5b E2
            have g7c : MN t (bnd (owF t 5 y6.1) (numF t 0 9)) r7 I7 := g7b
            have E3 : readF t b s = bnd (owF t 5 y6.1) fun s7 => bnd (numF t 0 9 s7) fun y8 => bnd (skF t s7 y8) fun s9 => bnd (owF t 6 s9) fun s10 => bnd (numF t 0 99 s10) fun y => .ok (y.1, bRd t b.1 (qq t (adv t s)) (ps t (adv t s)) y6.2 y8.2 y.2, b.2) := E2
            cases h6 : owF t 5 y6.1 with
            | error e => rw [h6] at g7c E3; exact Or.inl ⟨e, g7c, E3⟩
            | ok s7 =>
              rw [h6] at g7c E3
              have g7d : MN t (numF t 0 9 s7) r7 I7 := g7c
              have E4 : readF t b s = bnd (numF t 0 9 s7) fun y8 => bnd (skF t s7 y8) fun s9 => bnd (owF t 6 s9) fun s10 => bnd (numF t 0 99 s10) fun y => .ok (y.1, bRd t b.1 (qq t (adv t s)) (ps t (adv t s)) y6.2 y8.2 y.2, b.2) := E3
              cases h7 : numF t 0 9 s7 with
              | error e => rw [h7] at g7d E4; exact Or.inl ⟨e, g7d, E4⟩
              | ok y8 =>
                rw [h7] at g7d E4
                have q9 : (I7 71 9).toInt = qq t s7 := by
                  refine np s7 y8 ?_ h7
                  show bnd (bnd (bnd (owF t 4 (adv t (adv t s))) (numF t 1 64)) fun y => .ok y.1) (owF t 5) = .ok s7
                  rw [h4]
                  show bnd (bnd (numF t 1 64 s4) fun y => .ok y.1) (owF t 5) = .ok s7
                  rw [h5]
                  exact h6
                exact Or.inr ⟨s7, y6, y8, rfl, g5b.2, g7d.2, q9, g7d.1, E4⟩
    rcases H with ⟨e, z7, hE⟩ | ⟨s7, y6, y8, hw, hy6, hy8, q9, g9, hE⟩
    · exact brz (p := r7 = 1) Iff.rfl (fun _ => m_failZ z7 (m_asks (k := 6) (x := .error e) (by decide) mt7 wa7 z7 fun I13 f13 g13 => m_number (lo := 0) (hi := 99) (mt7.f f13) g13 rfl (fun _ _ => rfl) fun r14 I14 f14 g14 _ => fin (.error e) r14 I14 ((f37.tr f13.n).tr f14.n) g14 (Or.inl ⟨e, rfl, hE⟩))) (fun _ => m_asks (k := 6) (x := .error e) (by decide) mt7 wa7 z7 fun I13 f13 g13 => m_number (lo := 0) (hi := 99) (mt7.f f13) g13 rfl (fun _ _ => rfl) fun r14 I14 f14 g14 _ => fin (.error e) r14 I14 ((f37.tr f13.n).tr f14.n) g14 (Or.inl ⟨e, rfl, hE⟩))
    · by_cases u : y8.2 = 1
      · have hsk : skF t s7 y8 = .error (2, (qq t s7 : Int)) := if_pos u
        rw [hsk] at hE
        exact hit (p := r7 = 1) (eq_ti.mpr (by rw [hy8, u]; rfl)) (m_fail0 (k := 2) g9.2.2.2 rfl (by decide) q9 fun I12 f12 g12 => m_asks (k := 6) (x := .error (2, (qq t s7 : Int))) (by decide) (mt7.f f12) (wa7.f f12) g12 fun I13 f13 g13 => m_number (lo := 0) (hi := 99) ((mt7.f f12).f f13) g13 rfl (fun _ _ => rfl) fun r14 I14 f14 g14 _ => fin (.error (2, (qq t s7 : Int))) r14 I14 (((f37.tr f12.n).tr f13.n).tr f14.n) g14 (Or.inl ⟨_, rfl, hE⟩))
      · have hsk : skF t s7 y8 = .ok y8.1 := if_neg u
        rw [hsk] at hE
        exact sk (p := r7 = 1) (fun z => u (by rw [← hy8, z]; rfl)) (m_asks (k := 6) (x := .ok y8.1) (by decide) mt7 wa7 g9 fun I13 f13 g13 => m_number (lo := 0) (hi := 99) (mt7.f f13) g13 rfl (fun _ _ => rfl) fun r14 I14 f14 g14 _ => fin (.ok y8.1) r14 I14 ((f37.tr f13.n).tr f14.n) g14 (Or.inr ⟨y8.1, y6.2, y8.2, rfl, hw, hy6, hy8, hE⟩))
  · have hO : opn t (4 ≤ (sNR b.1).toNat) s = .error (5, (qq t s : Int)) := if_pos ge
    have E : readF t b s = .error (5, (qq t s : Int)) := by unfold readF; rw [hO]; rfl
    rw [E]; exact z1
theorem m_eyesT {b : Bk} (mt : MT t I) (wa : WA I) (h : MR t (adv t s) I) (mc : MC b.2 I) (md : MD b.1 I J) (w : WB b) (hc : b.2.length ≤ s.1) (hs : s.1 ≤ t.2) (ho : ow t s = 1) (ha : a1.toInt = qq t s) (K : ∀ (I1 : Nat → Nat → Int32) (J1 : Nat → Nat → Int64), frB I I1 J J1 → SMo t (ruleF t b s) I1 J1 → R I1 J1) : WP ((d + 10), 220, 0, [some (.ref 71), some (.int a1), none], [], (xSH L dr tl, I, J)) (fun v M => ∃ (I2 : Nat → Nat → Int32) (J2 : Nat → Nat → Int64), v = none ∧ M = (xSH L dr tl, I2, J2) ∧ R I2 J2) := by
  have nU := w.nU
  have n1600 := mt.1.1
  have e93 : (I 93 4).toInt = ((sNU b.1).toNat : Int) := by rw [nU.2]; exact md.1.2.2.2.2.1
  have x93 : ∀ z : Int32, z.toInt = ((sNU b.1).toNat : Int) → xIx z = (sNU b.1).toNat := fun z hz => by rw [xIx_ti, hz]; exact Int.toNat_natCast _
  have wm := ((ow_iff (t := t) (s := s) (k := 1) (by decide)).mp ho).2.1
  have hpos : qq t s + 4 = (adv t s).1 := wm.symm
  have hqq := qq_le (t := t) (s := s)
  refine w220_0 (m_isFull (s := s) (kn := 4) (N := (sNU b.1).toNat) (M := 8) h rfl (by decide) e93 rfl nU.1 ha (fun lt => br0 ?_) (fun ge I1 f1 z1 => br1 ⟨I1, J, rfl, rfl, K I1 J f1.toB ?_⟩))
  · have hO : opn t (8 ≤ (sNU b.1).toNat) s = .ok (adv t s) := if_neg lt
    have E : ruleF t b s = bnd (sumO t 6 (adv t s)) fun x => bnd (owF t 7 x.1) fun s4 => bnd (testF t (factO t 6) s4) fun y => .ok (y.1, bRule b.1 b.2 x.2 y.2, b.2 ++ x.2 ++ y.2) := by unfold ruleF; rw [hO]; rfl
    have ix : xin (I 93 4) 16 = true := by rw [xin_iff, e93]; omega
    have xi := x93 _ e93
    rw [xi]
    have l105 : lim 105 = 8 := rfl
    have l106 : lim 106 = 8 := rfl
    have l107 : lim 107 = 8 := rfl
    -- the start
    have fB1 : frB I (xwI (xwI (xwI (xwI I 105 (sNU b.1).toNat (I 71 44)) 71 46 0) 71 47 0) 71 51 0) J J := (((frB_w (a := 105) (Or.inl (by rw [l105]; omega)) (by decide)).tr (frB_71 (by unfold fre; omega))).tr (frB_71 (by unfold fre; omega))).tr (frB_71 (by unfold fre; omega))
    have g1 : MG t (adv t s) b.2 [] 0 (xwI (xwI (xwI (xwI I 105 (sNU b.1).toNat (I 71 44)) 71 46 0) 71 47 0) 71 51 0) := ⟨h, mc, ⟨rfl, trivial⟩, ⟨rfl, by omega, by decide⟩, by show b.2.length + 0 + 3 ≤ _; omega⟩
    refine ⟨ix, m_sums (k := 6) (o := 0) (w0 := []) (mt.fb fB1) (wa.fb fB1) g1 (by decide) (Or.inl rfl) fun I3 f3 g3 => ⟨ix, ?_⟩⟩
    have fB3 : frB I I3 J J := fB1.tr f3.toB
    -- the last deed, behind a fault
    have badEnd : ∀ (e : Int × Int) (I6 : Nat → Nat → Int32), frB I I6 J J → MZ e I6 → ruleF t b s = .error e → R (xwI (xwI I6 107 (sNU b.1).toNat (I6 71 44)) 93 4 ((xwI I6 107 (sNU b.1).toNat (I6 71 44)) 93 4 + 1)) J := by
      intro e I6 f6 z6 hE
      refine K _ J ((f6.tr (frB_w (a := 107) (Or.inl (by rw [l107]; omega)) (by decide))).tr (frB_w (a := 93) (Or.inl (by decide)) (by decide))) ?_
      rw [hE]; exact z6
    have fB4 : frB I (xwI I3 106 (sNU b.1).toNat (I3 71 44)) J J := fB3.tr (frB_w (a := 106) (Or.inl (by rw [l106]; omega)) (by decide))
    have z0 : ∀ I4 : Nat → Nat → Int32, frB I4 (xwI (xwI (xwI I4 71 46 0) 71 47 0) 71 51 0) J J := fun I4 => ((frB_71 (by unfold fre; omega)).tr (frB_71 (by unfold fre; omega))).tr (frB_71 (by unfold fre; omega))
    cases hx : sumO t 6 (adv t s) with
    | error e =>
      rw [hx] at g3 E
      have z3 : ME 1598 e I3 := g3
      refine m_asks (k := 7) (x := .error e) (by decide) (mt.fb fB4) (wa.fb fB4) z3.1 fun I4 f4 g4 => ?_
      have g4' : MZ e I4 := g4
      exact sk g4'.n0 ⟨ix, ⟨_, J, rfl, rfl, badEnd e _ ((fB4.tr f4.toB).tr (z0 I4)) g4' E⟩⟩
    | ok y =>
      rw [hx] at g3 E
      have g3' : MG t y.1 (b.2 ++ y.2) [] 0 I3 := g3
      have E1 : ruleF t b s = bnd (owF t 7 y.1) fun s4 => bnd (testF t (factO t 6) s4) fun z => .ok (z.1, bRule b.1 b.2 y.2 z.2, b.2 ++ y.2 ++ z.2) := E
      refine m_asks (k := 7) (x := .ok y.1) (by decide) (mt.fb fB4) (wa.fb fB4) g3'.1 fun I4 f4 g4 => ?_
      have E0 : bnd (.ok y.1) (owF t 7) = owF t 7 y.1 := rfl
      have g4' : MX t (owF t 7 y.1) I4 := g4
      have fB5 := fB4.tr f4.toB
      cases h5 : owF t 7 y.1 with
      | error e =>
        rw [h5] at g4' E1
        have g5 : MZ e I4 := g4'
        exact sk g5.n0 ⟨ix, ⟨_, J, rfl, rfl, badEnd e _ (fB5.tr (z0 I4)) g5 E1⟩⟩
      | ok s4 =>
        rw [h5] at g4' E1
        have g5 : MR t s4 I4 := g4'
        have E2 : ruleF t b s = bnd (testF t (factO t 6) s4) fun z => .ok (z.1, bRule b.1 b.2 y.2 z.2, b.2 ++ y.2 ++ z.2) := E1
        have le4 : y.1.1 ≤ s4.1 := by
          obtain ⟨rfl, -⟩ := owF_ok h5
          exact adv_ge g3'.1.1
        have mc4 : MC (b.2 ++ y.2) I4 := by
          have : MC (b.2 ++ y.2) (xwI I3 106 (sNU b.1).toNat (I3 71 44)) := g3'.2.1
          exact this.fx f4
        have l5 : (b.2 ++ y.2).length + 0 + 3 ≤ y.1.1 := g3'.2.2.2.2
        have g6 : MG t s4 (b.2 ++ y.2) [] 0 (xwI (xwI (xwI I4 71 46 0) 71 47 0) 71 51 0) := ⟨g5, mc4, ⟨rfl, trivial⟩, ⟨rfl, by omega, by decide⟩, by show (b.2 ++ y.2).length + 0 + 3 ≤ _; omega⟩
        have fB6 := fB5.tr (z0 I4)
        refine hit (eq0.mpr g5.2.2.2) (m_test (mt.fb fB6) (wa.fb fB6) g6 fun I6 f6 g7 => ⟨ix, ?_⟩)
        have fB7 := fB6.tr (f6.toB (J := J))
        cases h6 : testF t (factO t 6) s4 with
        | error e =>
          rw [h6] at g7 E2
          have z7 : ME 1599 e I6 := g7
          exact ⟨_, J, rfl, rfl, badEnd e I6 fB7 z7.1 E2⟩
        | ok z =>
          rw [h6] at g7 E2
          have g8 : MG t z.1 (b.2 ++ y.2 ++ z.2) [] 0 I6 := g7
          refine ⟨_, J, rfl, rfl, K _ J ((fB7.tr (frB_w (a := 107) (Or.inl (by rw [l107]; omega)) (by decide))).tr (frB_w (a := 93) (Or.inl (by decide)) (by decide))) ?_⟩
          rw [E2]
          refine ⟨g8.1, g8.2.1, ?_⟩
          -- the draft
          show MD (bRule b.1 b.2 y.2 z.2) _ J
          have o4 : ∀ a : Nat, a ≠ 71 → a ≠ 103 → a ≠ 104 → I6 a = I4 a := fun a g1 g2 g3 => by rw [f6.1 a g1 g2 g3, xwI_ne g1, xwI_ne g1, xwI_ne g1]
          have oI : ∀ a : Nat, a ≠ 71 → a ≠ 103 → a ≠ 104 → a ≠ 105 → a ≠ 106 → I6 a = I a := fun a g1 g2 g3 g4 g5 => by rw [o4 a g1 g2 g3, f4.1 a g1, xwI_ne g5, f3.1 a g1 g2 g3, xwI_ne g1, xwI_ne g1, xwI_ne g1, xwI_ne g4]
          have o105 : I6 105 = xwI I 105 (sNU b.1).toNat (I 71 44) 105 := by rw [o4 105 (by decide) (by decide) (by decide), f4.1 105 (by decide), xwI_ne (by decide), f3.1 105 (by decide) (by decide) (by decide)]; rfl
          have o106 : I6 106 = xwI I3 106 (sNU b.1).toNat (I3 71 44) 106 := by rw [o4 106 (by decide) (by decide) (by decide), f4.1 106 (by decide)]
          have o3 : I3 106 = I 106 := by rw [f3.1 106 (by decide) (by decide) (by decide)]; rfl
          obtain ⟨m1, m2, m3, m4, m5, m6⟩ := md
          have q : ∀ a : Nat, a ≠ 93 → a ≠ 107 → xwI (xwI I6 107 (sNU b.1).toNat (I6 71 44)) 93 4 ((xwI I6 107 (sNU b.1).toNat (I6 71 44)) 93 4 + 1) a = I6 a := fun a g1 g2 => by rw [xwI_ne g1, xwI_ne g2]
          have q93 : ∀ j : Nat, j ≠ 4 → xwI (xwI I6 107 (sNU b.1).toNat (I6 71 44)) 93 4 ((xwI I6 107 (sNU b.1).toNat (I6 71 44)) 93 4 + 1) 93 j = I 93 j := fun j hj => by rw [xgn hj, xwI_ne (by decide), oI 93 (by decide) (by decide) (by decide) (by decide) (by decide)]
          have i93 : I6 93 = I 93 := oI 93 (by decide) (by decide) (by decide) (by decide) (by decide)
          have w60 : b.1 13 (2 * (sNU b.1).toNat) = b.2.length := w.2.2.2.2.2.2.2.1
          have tn2 : ∀ j : Nat, j ≤ 2 * (sNU b.1).toNat → bRule b.1 b.2 y.2 z.2 13 j = b.1 13 j := by
            intro j hj
            show sset (sset _ 13 (2 * (sNU b.1).toNat + 1) _) 13 (2 * (sNU b.1).toNat + 2) _ 13 j = _
            rw [sgn (by omega), sgn (by omega)]; rfl
          have b1 : bRule b.1 b.2 y.2 z.2 13 (2 * (sNU b.1).toNat + 1) = ((b.2 ++ y.2).length : Int) := by
            show sset (sset _ 13 (2 * (sNU b.1).toNat + 1) _) 13 (2 * (sNU b.1).toNat + 2) _ 13 (2 * (sNU b.1).toNat + 1) = _
            rw [sgn (by omega)]; exact sg
          have b2' : bRule b.1 b.2 y.2 z.2 13 (2 * (sNU b.1).toNat + 2) = ((b.2 ++ y.2 ++ z.2).length : Int) := by
            show sset _ 13 (2 * (sNU b.1).toNat + 2) _ 13 (2 * (sNU b.1).toNat + 2) = _
            exact sg
          refine ⟨⟨by rw [q93 0 (by decide)]; exact m1.1, by rw [q93 2 (by decide)]; exact m1.2.1, by rw [q93 1 (by decide)]; exact m1.2.2.1, by rw [q93 3 (by decide)]; exact m1.2.2.2.1, ?_, by rw [q 102 (by decide) (by decide), oI 102 (by decide) (by decide) (by decide) (by decide) (by decide)]; exact m1.2.2.2.2.2.1, by rw [q 102 (by decide) (by decide), oI 102 (by decide) (by decide) (by decide) (by decide) (by decide)]; exact m1.2.2.2.2.2.2⟩, fun i hi => ?_, fun l hl => ?_, fun r' hr => ?_, fun w' hw => ?_, fun u hu => ?_⟩
          · show (I6 93 4 + 1).toInt = sNU b.1 + 1
            rw [i93, add1 (by rw [e93]; omega) (by rw [e93]; omega), e93]; omega
          · rw [q 95 (by decide) (by decide), oI 95 (by decide) (by decide) (by decide) (by decide) (by decide)]; exact m2 i hi
          · rw [q 96 (by decide) (by decide), q 97 (by decide) (by decide), q 98 (by decide) (by decide), oI 96 (by decide) (by decide) (by decide) (by decide) (by decide), oI 97 (by decide) (by decide) (by decide) (by decide) (by decide), oI 98 (by decide) (by decide) (by decide) (by decide) (by decide)]; exact m3 l hl
          · rw [q 99 (by decide) (by decide), oI 99 (by decide) (by decide) (by decide) (by decide) (by decide)]; exact m4 r' hr
          · rw [q 100 (by decide) (by decide), q 101 (by decide) (by decide), oI 100 (by decide) (by decide) (by decide) (by decide) (by decide), oI 101 (by decide) (by decide) (by decide) (by decide) (by decide)]; exact m5 w' hw
          · have hu' : (u : Int) < sNU b.1 + 1 := hu
            rw [q 105 (by decide) (by decide), q 106 (by decide) (by decide), xwI_ne (show 107 ≠ 93 by decide), o105, o106]
            by_cases e : u = (sNU b.1).toNat
            · subst e
              rw [xg, xg, xg, tn2 (2 * (sNU b.1).toNat) (by omega), b1, b2', w60]
              exact ⟨mc.1, g3'.2.1.1, g8.2.1.1⟩
            · have lt' : (u : Int) < sNU b.1 := by omega
              rw [xgn e, xgn e, xgn e, oI 107 (by decide) (by decide) (by decide) (by decide) (by decide), o3, tn2 (2 * u) (by omega), tn2 (2 * u + 1) (by omega), tn2 (2 * u + 2) (by omega)]
              exact m6 u lt'
  · have hO : opn t (8 ≤ (sNU b.1).toNat) s = .error (5, (qq t s : Int)) := if_pos ge
    have E : ruleF t b s = .error (5, (qq t s : Int)) := by unfold ruleF; rw [hO]; rfl
    rw [E]; exact z1
end MSTM3
