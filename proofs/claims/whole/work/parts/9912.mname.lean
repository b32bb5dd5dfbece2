/-! ===== book: the reference's names and spellings ===== -/
/-- the frame of names and spellings -/
def frNm (I I1 : Nat → Nat → Int32) : Prop := (∀ a : Nat, a ≠ 71 → a ≠ 92 → I1 a = I a) ∧ ∀ j : Nat, j ≠ 2 → j ≠ 4 → j ≠ 5 → j ≠ 6 → j ≠ 9 → j ≠ 29 → j ≠ 31 → I1 71 j = I 71 j
section MNAME
variable {t : Tp} {L d dr tl : Nat} {I I0 I1 I2 : Nat → Nat → Int32} {J : Nat → Nat → Int64} {a0 a1 a2 a3 a4 : Int32} {s : Lx} {l v lo hi c : Int} {R : (Nat → Nat → Int32) → (Nat → Nat → Int64) → Prop} {Q : Option Value → xMem → Prop} {x : RX Lx} {k : Nat}
theorem frNm_refl : frNm I I := ⟨fun _ _ _ => rfl, fun _ _ _ _ _ _ _ _ => rfl⟩
theorem frNm.tr (h : frNm I I1) (h' : frNm I1 I2) : frNm I I2 := ⟨fun a g g2 => (h'.1 a g g2).trans (h.1 a g g2), fun j g1 g2 g3 g4 g5 g6 g7 => (h'.2 j g1 g2 g3 g4 g5 g6 g7).trans (h.2 j g1 g2 g3 g4 g5 g6 g7)⟩
theorem frX.n (h : frX I I1) : frNm I I1 := ⟨fun a g _ => h.1 a g, fun j g1 g2 g3 g4 g5 _ _ => h.2 j g1 g2 g3 g4 g5⟩
theorem frNm_w {k : Nat} {v : Int32} (h : k = 2 ∨ k = 4 ∨ k = 5 ∨ k = 6 ∨ k = 9 ∨ k = 29 ∨ k = 31) : frNm I (xwI I 71 k v) := ⟨fun a g _ => xwI_ne g, fun j g1 g2 g3 g4 g5 g6 g7 => xgn (by omega)⟩
theorem frNm_92 {k : Nat} {v : Int32} : frNm I (xwI I 92 k v) := ⟨fun a _ g => xwI_ne g, fun j _ _ _ _ _ _ _ => by rw [xwI_ne (by decide)]⟩
theorem MT.fn (h : MT t I) (f : frNm I I1) : MT t I1 := by
  unfold MT at *
  rw [f.1 72 (by decide) (by decide), f.2 3 (by decide) (by decide) (by decide) (by decide) (by decide) (by decide) (by decide)]; exact h
theorem WA.fn (h : WA I) (f : frNm I I1) : WA I1 := fun k hk j hj => by rw [f.1 (73 + k) (by omega) (by omega)]; exact h k hk j hj
theorem m_isOwn {R : Int32 → (Nat → Nat → Int32) → (Nat → Nat → Int64) → Prop} (mt : MT t I) (wa : WA I) (h : MR t s I) (K1 : ow t s ≠ -1 → ∀ I1 : Nat → Nat → Int32, frX I I1 → MQx t s I1 → R 1 I1 J) (K0 : ow t s = -1 → ∀ I1 : Nat → Nat → Int32, frX I I1 → MQx t s I1 → R 0 I1 J) : WP ((d + 3), 209, 0, [some (.ref 71), none], [], (xSH L dr tl, I, J)) (fun v M => ∃ (r : Int32) (I2 : Nat → Nat → Int32) (J2 : Nat → Nat → Int64), v = some (.int r) ∧ M = (xSH L dr tl, I2, J2) ∧ R r I2 J2) := by
  have yes : ∀ (k : Nat) (I1 : Nat → Nat → Int32), k < 19 → ow t s = k → frX I I1 → MQx t s I1 → ∃ (r : Int32) (I2 : Nat → Nat → Int32) (J2 : Nat → Nat → Int64), some (Value.int 1) = some (Value.int r) ∧ (xSH L dr tl, I1, J) = (xSH L dr tl, I2, J2) ∧ R r I2 J2 := fun k I1 hk e f1 g1 => ⟨1, I1, J, rfl, rfl, K1 (by omega) I1 f1 g1⟩
  refine w209_0 (m_isHere (k := 0) (by decide) mt wa h (fun e I1 f g => br1 (yes 0 I1 (by decide) e f g)) (fun u0 I1 f1 g1 => br0 ?_))
  have F1 := f1
  refine m_isHere (k := 1) (by decide) (mt.f F1) (wa.f F1) g1.toR (fun e I2 f g => br1 (yes 1 I2 (by decide) e (F1.tr f) g)) (fun u1 I2 f2 g2 => br0 ?_)
  have F2 := F1.tr f2
  refine m_isHere (k := 2) (by decide) (mt.f F2) (wa.f F2) g2.toR (fun e I3 f g => br1 (yes 2 I3 (by decide) e (F2.tr f) g)) (fun u2 I3 f3 g3 => br0 ?_)
  have F3 := F2.tr f3
  refine m_isHere (k := 3) (by decide) (mt.f F3) (wa.f F3) g3.toR (fun e I4 f g => br1 (yes 3 I4 (by decide) e (F3.tr f) g)) (fun u3 I4 f4 g4 => br0 ?_)
  have F4 := F3.tr f4
  refine m_isHere (k := 4) (by decide) (mt.f F4) (wa.f F4) g4.toR (fun e I5 f g => br1 (yes 4 I5 (by decide) e (F4.tr f) g)) (fun u4 I5 f5 g5 => br0 ?_)
  have F5 := F4.tr f5
  refine m_isHere (k := 5) (by decide) (mt.f F5) (wa.f F5) g5.toR (fun e I6 f g => br1 (yes 5 I6 (by decide) e (F5.tr f) g)) (fun u5 I6 f6 g6 => br0 ?_)
  have F6 := F5.tr f6
  refine m_isHere (k := 6) (by decide) (mt.f F6) (wa.f F6) g6.toR (fun e I7 f g => br1 (yes 6 I7 (by decide) e (F6.tr f) g)) (fun u6 I7 f7 g7 => br0 ?_)
  have F7 := F6.tr f7
  refine m_isHere (k := 7) (by decide) (mt.f F7) (wa.f F7) g7.toR (fun e I8 f g => br1 (yes 7 I8 (by decide) e (F7.tr f) g)) (fun u7 I8 f8 g8 => br0 ?_)
  have F8 := F7.tr f8
  refine m_isHere (k := 8) (by decide) (mt.f F8) (wa.f F8) g8.toR (fun e I9 f g => br1 (yes 8 I9 (by decide) e (F8.tr f) g)) (fun u8 I9 f9 g9 => br0 ?_)
  have F9 := F8.tr f9
  refine m_isHere (k := 9) (by decide) (mt.f F9) (wa.f F9) g9.toR (fun e I10 f g => br1 (yes 9 I10 (by decide) e (F9.tr f) g)) (fun u9 I10 f10 g10 => br0 ?_)
  have F10 := F9.tr f10
  refine m_isHere (k := 10) (by decide) (mt.f F10) (wa.f F10) g10.toR (fun e I11 f g => br1 (yes 10 I11 (by decide) e (F10.tr f) g)) (fun u10 I11 f11 g11 => br0 ?_)
  have F11 := F10.tr f11
  refine m_isHere (k := 11) (by decide) (mt.f F11) (wa.f F11) g11.toR (fun e I12 f g => br1 (yes 11 I12 (by decide) e (F11.tr f) g)) (fun u11 I12 f12 g12 => br0 ?_)
  have F12 := F11.tr f12
  refine m_isHere (k := 12) (by decide) (mt.f F12) (wa.f F12) g12.toR (fun e I13 f g => br1 (yes 12 I13 (by decide) e (F12.tr f) g)) (fun u12 I13 f13 g13 => br0 ?_)
  have F13 := F12.tr f13
  refine m_isHere (k := 13) (by decide) (mt.f F13) (wa.f F13) g13.toR (fun e I14 f g => br1 (yes 13 I14 (by decide) e (F13.tr f) g)) (fun u13 I14 f14 g14 => br0 ?_)
  have F14 := F13.tr f14
  refine m_isHere (k := 14) (by decide) (mt.f F14) (wa.f F14) g14.toR (fun e I15 f g => br1 (yes 14 I15 (by decide) e (F14.tr f) g)) (fun u14 I15 f15 g15 => br0 ?_)
  have F15 := F14.tr f15
  refine m_isHere (k := 15) (by decide) (mt.f F15) (wa.f F15) g15.toR (fun e I16 f g => br1 (yes 15 I16 (by decide) e (F15.tr f) g)) (fun u15 I16 f16 g16 => br0 ?_)
  have F16 := F15.tr f16
  refine m_isHere (k := 16) (by decide) (mt.f F16) (wa.f F16) g16.toR (fun e I17 f g => br1 (yes 16 I17 (by decide) e (F16.tr f) g)) (fun u16 I17 f17 g17 => br0 ?_)
  have F17 := F16.tr f17
  refine m_isHere (k := 17) (by decide) (mt.f F17) (wa.f F17) g17.toR (fun e I18 f g => br1 (yes 17 I18 (by decide) e (F17.tr f) g)) (fun u17 I18 f18 g18 => br0 ?_)
  have F18 := F17.tr f18
  refine m_isHere (k := 18) (by decide) (mt.f F18) (wa.f F18) g18.toR (fun e I19 f g => br1 (yes 18 I19 (by decide) e (F18.tr f) g)) (fun u18 I19 f19 g19 => br0 ?_)
  refine ⟨0, I19, J, rfl, rfl, K0 ?_ I19 (F18.tr f19) g19⟩
  rcases ow_b (t := t) (s := s) with z | ⟨k, hk, z⟩
  · exact z
  · exfalso
    have : k = 0 ∨ k = 1 ∨ k = 2 ∨ k = 3 ∨ k = 4 ∨ k = 5 ∨ k = 6 ∨ k = 7 ∨ k = 8 ∨ k = 9 ∨ k = 10 ∨ k = 11 ∨ k = 12 ∨ k = 13 ∨ k = 14 ∨ k = 15 ∨ k = 16 ∨ k = 17 ∨ k = 18 := by omega
    rcases this with rfl | rfl | rfl | rfl | rfl | rfl | rfl | rfl | rfl | rfl | rfl | rfl | rfl | rfl | rfl | rfl | rfl | rfl | rfl
    · exact u0 z
    · exact u1 z
    · exact u2 z
    · exact u3 z
    · exact u4 z
    · exact u5 z
    · exact u6 z
    · exact u7 z
    · exact u8 z
    · exact u9 z
    · exact u10 z
    · exact u11 z
    · exact u12 z
    · exact u13 z
    · exact u14 z
    · exact u15 z
    · exact u16 z
    · exact u17 z
    · exact u18 z
/-- the step behind a name or a spelling -/
def stp (t : Tp) (s : Lx) : RX Lx := .ok (adv t s)
noncomputable def nmF (t : Tp) (s : Lx) : RX Lx := bnd (chN t s) (stp t)
def spF (t : Tp) (n : Nat) (s : Lx) : RX Lx := bnd (chS t n s) (stp t)
theorem m_name {R : Int64 → (Nat → Nat → Int32) → (Nat → Nat → Int64) → Prop} (mt : MT t I) (wa : WA I) (h : MX t x I) (K : ∀ (r : Int64) (I1 : Nat → Nat → Int32), frNm I I1 → MX t (bnd x (nmF t)) I1 → (∀ (s s' : Lx), x = .ok s → chN t s = .ok s' → (I1 71 29).toInt = qq t s ∧ r.toInt = nameN (ltr t (qq t s)) (ps t s - qq t s)) → R r I1 J) : WP ((d + 4), 210, 0, [some (.ref 71), none, none], [], (xSH L dr tl, I, J)) (fun v M => ∃ (r : Int64) (I2 : Nat → Nat → Int32) (J2 : Nat → Nat → Int64), v = some (.long r) ∧ M = (xSH L dr tl, I2, J2) ∧ R r I2 J2) := by
  cases x with
  | error e => exact w210_0 (sk (MZ.n0 (e := e) h) ⟨0, I, J, rfl, rfl, K 0 I frNm_refl h (fun s s' z => by cases z)⟩)
  | ok s =>
    have h' : MR t s I := h
    have n1600 := mt.1.1
    have hqn := qq_n (t := t) (s := s) h'.1
    have hpn := ps_n (t := t) (s := s) h'.1
    have E0 : bnd (.ok s) (nmF t) = bnd (chN t s) (stp t) := rfl
    rw [E0] at K
    have bad : chN t s = .error (1, (qq t s : Int)) → ∀ I2 : Nat → Nat → Int32, frX I I2 → MQx t s I2 → WP ((d + 3), 199, 0, [some (.ref 71), some (.int 1), some (.int (I2 71 2))], [], (xSH L dr tl, I2, J)) (fun v M => ∃ (I5 : Nat → Nat → Int32) (J5 : Nat → Nat → Int64), v = none ∧ M = (xSH L dr tl, I5, J5) ∧ ∃ (r : Int64) (I6 : Nat → Nat → Int32) (J6 : Nat → Nat → Int64), some (Value.long 0) = some (Value.long r) ∧ (xSH L dr tl, I5, J5) = (xSH L dr tl, I6, J6) ∧ R r I6 J6) := by
      intro E I2 f2 g2
      rw [E] at K
      refine m_fail0 (k := 1) g2.2.2.2 rfl (by decide) g2.2.1 fun I5 f5 g5 => ⟨0, I5, J, rfl, rfl, K 0 I5 (f2.n.tr f5.n) g5 (fun s1 s2 z e => ?_)⟩
      cases z
      rw [E] at e; cases e
    have no2 : kd t s ≠ 2 → chN t s = .error (1, (qq t s : Int)) := by
      intro k2
      have o1 : ow t s = -1 := if_neg k2
      unfold chN
      rw [if_neg (fun z => z o1)]
      exact if_pos k2
    refine w210_0 (hit (eq0.mpr h'.2.2.2) (m_look mt h' fun r2 I2 f2 g2 e2 => m_isLet.u (fun y => br1 (brz g2.near (fun z => bad (no2 (fun u => (kd_2 u).2.2 z)) I2 f2 g2) (fun z => m_isOwn (mt.f f2) (wa.f f2) g2.toR (fun o I8 f8 g8 => br1 (bad ?_ I8 (f2.tr f8) g8)) (fun o I8 f8 g8 => br0 ?_)))) (fun y => br0 (bad (no2 (fun u => y ?_)) I2 f2 g2))))
    · unfold chN
      rw [if_pos o]
    · rw [e2, tb_k2] at y
      have k2 := kd_of2 y z
      have hps := (kd_2 k2).2.1
      have lets := word_let k2
      have CE : chN t s = chS t 6 s := if_neg (fun u => u o)
      have SE : chS t 6 s = if qq t s + 6 < ps t s then .error (1, ((qq t s + 6 : Nat) : Int)) else .ok s := if_neg (fun u => u k2)
      rw [SE] at CE
      have t6 : (6 : Int32).toInt = 6 := rfl
      have F8 : frNm I (xwI I8 71 29 (I8 71 2)) := (f2.tr f8).n.tr (frNm_w (by decide))
      have fin : ∀ (j : Nat) (a1 : Int64) (I5 : Nat → Nat → Int32), frNm I I5 → I5 71 4 = I8 71 4 → (I5 71 5 = I8 71 5 ∧ I5 71 6 = I8 71 6) → (I5 71 29).toInt = qq t s → (I5 71 2).toInt = ((qq t s + j : Nat) : Int) → ps t s = qq t s + j → j ≤ 6 → a1.toInt = nameN (ltr t (qq t s)) j → ∃ (r : Int64) (I6 : Nat → Nat → Int32) (J6 : Nat → Nat → Int64), some (Value.long a1) = some (Value.long r) ∧ (xSH L dr tl, xwI I5 71 4 (I5 71 2), J) = (xSH L dr tl, I6, J6) ∧ R r I6 J6 := by
        intro j a1 I5 f5 q4 q5 q9 q2 hp hj h3
        rw [if_neg (by omega)] at CE
        refine ⟨a1, _, J, rfl, rfl, K a1 _ (f5.tr (frNm_w (by decide))) ?_ (fun s1 s2 z e => ?_)⟩
        · rw [CE]
          refine g8.adv (by omega) (by show I5 71 5 = _ ∧ I5 71 6 = _; exact q5) ?_ (fun _ => ?_) (fun w => absurd (Or.inl k2) w)
          · show (I5 71 2).toInt = _; rw [q2, hp]
          · show (I5 71 2).toInt = _; rw [q2, hp]
        · cases z
          exact ⟨q9, by rw [show ps t s - qq t s = j by omega]; exact h3⟩
      have loop : ∀ (m j : Nat) (a1 : Int64) (I5 : Nat → Nat → Int32), t.2 - (qq t s + j) ≤ m → j ≤ 6 → frNm I I5 → I5 71 4 = I8 71 4 → (I5 71 5 = I8 71 5 ∧ I5 71 6 = I8 71 6) → (I5 71 29).toInt = qq t s → (I5 71 2).toInt = ((qq t s + j : Nat) : Int) → rE t 2 (qq t s + j) = ps t s → a1.toInt = nameN (ltr t (qq t s)) j → WP ((d + 4), 210, 58, [some (.ref 71), some (.long a1), none], [], (xSH L dr tl, I5, J)) (fun v M => ∃ (r : Int64) (I2 : Nat → Nat → Int32) (J2 : Nat → Nat → Int64), v = some (.long r) ∧ M = (xSH L dr tl, I2, J2) ∧ R r I2 J2) := by
        intro m
        induction m with
        | zero =>
          intro j a1 I5 hm hj f5 q4 q5 q9 q2 hr h3
          have mt5 := mt.fn f5
          have k0 := kA_end (t := t) (q := qq t s + j) (by omega)
          rw [rE_e (by omega)] at hr
          exact w210_58 (sk (fun u => by rw [lt_ti, q2, mt5.2.1] at u; omega) (fin j a1 I5 f5 q4 q5 q9 q2 hr.symm hj h3))
        | succ m ih =>
          intro j a1 I5 hm hj f5 q4 q5 q9 q2 hr h3
          have mt5 := mt.fn f5
          by_cases lt : qq t s + j < t.2
          · have xi : xIx (I5 71 2) = qq t s + j := by rw [xIx_ti, q2]; exact Int.toNat_natCast _
            have e72 : (I5 72 (xIx (I5 71 2))).toInt = t.1 (qq t s + j) := by rw [xi]; exact mt5.2.2 _ lt
            have ix : xin (I5 71 2) 1600 = true := by rw [xin_iff, q2]; omega
            refine w210_58 (hit (lt_ti.mpr (by rw [q2, mt5.2.1]; omega)) ⟨ix, m_isLet.u (fun u => br1 ?_) (fun u => br0 ?_)⟩)
            · rw [e72] at u
              have k3' := kA_2i lt u
              have hr' : rE t 2 (qq t s + (j + 1)) = ps t s := by rw [← hr, rE_s k3' (by decide)]; rfl
              have gt := rE_le (t := t) (c := 2) (q := qq t s + (j + 1)) (by decide)
              have es : (I5 71 2 - I5 71 29).toInt = j := by rw [sub_ti (by rw [q2, q9]; omega) (by rw [q2, q9]; omega), q2, q9]; omega
              refine brz eq_ti (fun u4 => ?_) (fun u4 => ⟨ix, ?_⟩)
              · rw [es, t6] at u4
                have e4 : j = 6 := by omega
                subst e4
                rw [if_pos (by omega)] at CE
                rw [CE] at K
                refine m_fail0 (k := 1) (by rw [q5.1]; exact g8.2.2.2) rfl (by decide) q2 fun I9 f9 g9 => ⟨0, I9, J, rfl, rfl, K 0 I9 (f5.tr f9.n) g9 (fun s1 s2 z e => ?_)⟩
                cases z
                rw [CE] at e; cases e
              · rw [es, t6] at u4
                have nb := nameN_6 (f := ltr t (qq t s)) (n := j) hj (fun i hi' => lets i (by omega))
                have e27 : (27 : Int64).toInt = 27 := rfl
                have e97 : (97 : Int64).toInt = 97 := rfl
                have e1 : (1 : Int64).toInt = 1 := rfl
                have m1 : (27 * a1).toInt = 27 * a1.toInt := by rw [lmul (by rw [e27]; omega) (by rw [e27]; omega), e27]
                have m2 : (27 * a1 + Int32.toInt64 (I5 72 (xIx (I5 71 2)))).toInt = 27 * a1.toInt + t.1 (qq t s + j) := by rw [ladd (by rw [m1, t64, e72]; omega) (by rw [m1, t64, e72]; omega), m1, t64, e72]
                have m3 : (27 * a1 + Int32.toInt64 (I5 72 (xIx (I5 71 2))) - 97).toInt = 27 * a1.toInt + t.1 (qq t s + j) - 97 := by rw [lsub (by rw [m2, e97]; omega) (by rw [m2, e97]; omega), m2, e97]
                refine ih (j + 1) _ _ (by omega) (by omega) (f5.tr (frNm_w (by decide))) q4 q5 q9 ?_ hr' ?_
                · rw [xg, add1 (by rw [q2]; omega) (by rw [q2]; omega), q2]; rfl
                · rw [ladd (by rw [m3, e1]; omega) (by rw [m3, e1]; omega), m3, e1, h3]
                  show _ = 27 * nameN (ltr t (qq t s)) j + (t.1 (qq t s + j) - 96)
                  omega
            · rw [e72] at u
              rw [rE_e (fun w => u (kA_2 w))] at hr
              exact fin j a1 I5 f5 q4 q5 q9 q2 hr.symm hj h3
          · have k0 := kA_end (t := t) (q := qq t s + j) (by omega)
            rw [rE_e (by omega)] at hr
            exact w210_58 (sk (fun u => by rw [lt_ti, q2, mt5.2.1] at u; omega) (fin j a1 I5 f5 q4 q5 q9 q2 hr.symm hj h3))
      exact loop (t.2 - qq t s) 0 0 _ (by omega) (by omega) F8 rfl ⟨rfl, rfl⟩ (by rw [xg]; exact g8.2.1) g8.2.1 hps.symm rfl
    · rw [e2, tb_k2]
      exact (kd_2 u).1
/-- what was spelt -/
def SPT (t : Tp) (q n : Nat) (I : Nat → Nat → Int32) : Prop := (I 71 31).toInt = n ∧ ∀ j : Nat, j < n → (I 92 j).toInt = t.1 (q + j) - 96
theorem m_spell {n : Nat} (hn : n ≤ 64) (mt : MT t I) (h : MX t x I) (ha : a1.toInt = n) (K : ∀ (I1 : Nat → Nat → Int32), frNm I I1 → MX t (bnd x (spF t n)) I1 → (0 ≤ (I1 71 31).toInt ∧ (I1 71 31).toInt ≤ n) → (∀ (s s' : Lx), x = .ok s → chS t n s = .ok s' → (I1 71 29).toInt = qq t s ∧ SPT t (qq t s) (ps t s - qq t s) I1) → R I1 J) : WP ((d + 2), 211, 0, [some (.ref 71), some (.int a1)], [], (xSH L dr tl, I, J)) (fun v M => ∃ (I2 : Nat → Nat → Int32) (J2 : Nat → Nat → Int64), v = none ∧ M = (xSH L dr tl, I2, J2) ∧ R I2 J2) := by
  have F0 : frNm I (xwI I 71 31 0) := frNm_w (by decide)
  cases x with
  | error e =>
    have h' : MZ e I := h
    exact w211_0 (sk (MZ.n0 (e := e) h) ⟨_, J, rfl, rfl, K _ F0 h (by rw [xg]; exact ⟨by decide, by show (0 : Int) ≤ n; omega⟩) (fun s s' z => by cases z)⟩)
  | ok s =>
    have h' : MR t s I := h
    have n1600 := mt.1.1
    have hqn := qq_n (t := t) (s := s) h'.1
    have hpn := ps_n (t := t) (s := s) h'.1
    have E0 : bnd (.ok s) (spF t n) = bnd (chS t n s) (stp t) := rfl
    rw [E0] at K
    have mt0 : MT t (xwI I 71 31 0) := mt.fn F0
    have h0 : MR t s (xwI I 71 31 0) := h'
    have bad : kd t s ≠ 2 → ∀ I2 : Nat → Nat → Int32, frX (xwI I 71 31 0) I2 → MQx t s I2 → WP ((d + 1), 199, 0, [some (.ref 71), some (.int 1), some (.int (I2 71 2))], [], (xSH L dr tl, I2, J)) (fun v M => ∃ (I5 : Nat → Nat → Int32) (J5 : Nat → Nat → Int64), v = none ∧ M = (xSH L dr tl, I5, J5) ∧ ∃ (I6 : Nat → Nat → Int32) (J6 : Nat → Nat → Int64), (none : Option Value) = none ∧ (xSH L dr tl, I5, J5) = (xSH L dr tl, I6, J6) ∧ R I6 J6) := by
      intro k2 I2 f2 g2
      have E : chS t n s = .error (1, (qq t s : Int)) := if_pos k2
      rw [E] at K
      refine m_fail0 (k := 1) g2.2.2.2 rfl (by decide) g2.2.1 fun I5 f5 g5 => ⟨I5, J, rfl, rfl, K I5 ((F0.tr f2.n).tr f5.n) g5 ?_ (fun s1 s2 z e => ?_)⟩
      · rw [f5.2 31 (by decide) (by decide) (by decide) (by decide) (by decide), f2.2 31 (by decide) (by decide) (by decide) (by decide) (by decide), xg]
        exact ⟨by decide, by show (0 : Int) ≤ n; omega⟩
      · cases z
        rw [E] at e; cases e
    refine w211_0 (hit (eq0.mpr h'.2.2.2) (m_look mt0 h0 fun r2 I2 f2 g2 e2 => m_isLet.u (fun y => br1 (brz g2.near (fun z => bad (fun u => (kd_2 u).2.2 z) I2 f2 g2) (fun z => ?_))) (fun y => br0 (bad (fun u => y ?_) I2 f2 g2))))
    · rw [e2, tb_k2] at y
      have k2 := kd_of2 y z
      have hps := (kd_2 k2).2.1
      have lets := word_let k2
      have SE : chS t n s = if qq t s + n < ps t s then .error (1, ((qq t s + n : Nat) : Int)) else .ok s := if_neg (fun u => u k2)
      have F8 : frNm I (xwI I2 71 29 (I2 71 2)) := (F0.tr f2.n).tr (frNm_w (by decide))
      have z31 : (I2 71 31).toInt = 0 := by rw [f2.2 31 (by decide) (by decide) (by decide) (by decide) (by decide), xg]; rfl
      have fin : ∀ (j : Nat) (I5 : Nat → Nat → Int32), frNm I I5 → I5 71 4 = I2 71 4 → (I5 71 5 = I2 71 5 ∧ I5 71 6 = I2 71 6) → (I5 71 29).toInt = qq t s → (I5 71 2).toInt = ((qq t s + j : Nat) : Int) → ps t s = qq t s + j → j ≤ n → SPT t (qq t s) j I5 → ∃ (I6 : Nat → Nat → Int32) (J6 : Nat → Nat → Int64), (none : Option Value) = none ∧ (xSH L dr tl, xwI I5 71 4 (I5 71 2), J) = (xSH L dr tl, I6, J6) ∧ R I6 J6 := by
        intro j I5 f5 q4 q5 q9 q2 hp hj h3
        rw [if_neg (by omega)] at SE
        rw [SE] at K
        refine ⟨_, J, rfl, rfl, K _ (f5.tr (frNm_w (by decide))) ?_ ?_ (fun s1 s2 z e => ?_)⟩
        · refine g2.adv (by omega) (by show I5 71 5 = _ ∧ I5 71 6 = _; exact q5) ?_ (fun _ => ?_) (fun w => absurd (Or.inl k2) w)
          · show (I5 71 2).toInt = _; rw [q2, hp]
          · show (I5 71 2).toInt = _; rw [q2, hp]
        · rw [xgn (by decide), h3.1]; omega
        · cases z
          refine ⟨q9, ?_⟩
          rw [show ps t s - qq t s = j by omega]
          exact h3
      have loop : ∀ (m j : Nat) (I5 : Nat → Nat → Int32), t.2 - (qq t s + j) ≤ m → j ≤ n → frNm I I5 → I5 71 4 = I2 71 4 → (I5 71 5 = I2 71 5 ∧ I5 71 6 = I2 71 6) → (I5 71 29).toInt = qq t s → (I5 71 2).toInt = ((qq t s + j : Nat) : Int) → rE t 2 (qq t s + j) = ps t s → SPT t (qq t s) j I5 → WP ((d + 2), 211, 52, [some (.ref 71), some (.int a1)], [], (xSH L dr tl, I5, J)) (fun v M => ∃ (I2 : Nat → Nat → Int32) (J2 : Nat → Nat → Int64), v = none ∧ M = (xSH L dr tl, I2, J2) ∧ R I2 J2) := by
        intro m
        induction m with
        | zero =>
          intro j I5 hm hj f5 q4 q5 q9 q2 hr h3
          have mt5 := mt.fn f5
          have k0 := kA_end (t := t) (q := qq t s + j) (by omega)
          rw [rE_e (by omega)] at hr
          exact w211_52 (sk (fun u => by rw [lt_ti, q2, mt5.2.1] at u; omega) (fin j I5 f5 q4 q5 q9 q2 hr.symm hj h3))
        | succ m ih =>
          intro j I5 hm hj f5 q4 q5 q9 q2 hr h3
          have mt5 := mt.fn f5
          by_cases lt : qq t s + j < t.2
          · have xi : xIx (I5 71 2) = qq t s + j := by rw [xIx_ti, q2]; exact Int.toNat_natCast _
            have e72 : (I5 72 (xIx (I5 71 2))).toInt = t.1 (qq t s + j) := by rw [xi]; exact mt5.2.2 _ lt
            have ix : xin (I5 71 2) 1600 = true := by rw [xin_iff, q2]; omega
            have x31 : xIx (I5 71 31) = j := by rw [xIx_ti, h3.1]; exact Int.toNat_natCast _
            refine w211_52 (hit (lt_ti.mpr (by rw [q2, mt5.2.1]; omega)) ⟨ix, m_isLet.u (fun u => br1 ?_) (fun u => br0 ?_)⟩)
            · rw [e72] at u
              have k3' := kA_2i lt u
              have hr' : rE t 2 (qq t s + (j + 1)) = ps t s := by rw [← hr, rE_s k3' (by decide)]; rfl
              have gt := rE_le (t := t) (c := 2) (q := qq t s + (j + 1)) (by decide)
              refine brz eq_ti (fun u4 => ?_) (fun u4 => ⟨ix, by rw [xin_iff, h3.1]; rw [h3.1, ha] at u4; omega, ?_⟩)
              · rw [h3.1, ha] at u4
                have e4 : j = n := by omega
                subst e4
                rw [if_pos (by omega)] at SE
                rw [SE] at K
                refine m_fail0 (k := 1) (by rw [q5.1]; exact g2.2.2.2) rfl (by decide) q2 fun I9 f9 g9 => ⟨I9, J, rfl, rfl, K I9 (f5.tr f9.n) g9 ?_ (fun s1 s2 z e => ?_)⟩
                · rw [f9.2 31 (by decide) (by decide) (by decide) (by decide) (by decide), h3.1]; omega
                · cases z
                  rw [SE] at e; cases e
              · rw [h3.1, ha] at u4
                rw [x31]
                have el := let_ti (r := I5 72 (xIx (I5 71 2))) (by rw [e72]; omega)
                rw [e72] at el
                refine ih (j + 1) _ (by omega) (by omega) (f5.tr ((frNm_92.tr (frNm_w (by decide))).tr (frNm_w (by decide)))) q4 q5 q9 ?_ hr' ⟨?_, fun i hi' => ?_⟩
                · show (I5 71 2 + 1).toInt = _
                  rw [add1 (by rw [q2]; omega) (by rw [q2]; omega), q2]; rfl
                · show (I5 71 31 + 1).toInt = _
                  rw [add1 (by rw [h3.1]; omega) (by rw [h3.1]; omega), h3.1]; rfl
                · rw [xwI_ne (by decide), xwI_ne (by decide)]
                  by_cases e : i = j
                  · rw [e, xg]; exact el
                  · rw [xgn e]; exact h3.2 i (by omega)
            · rw [e72] at u
              rw [rE_e (fun w => u (kA_2 w))] at hr
              exact fin j I5 f5 q4 q5 q9 q2 hr.symm hj h3
          · have k0 := kA_end (t := t) (q := qq t s + j) (by omega)
            rw [rE_e (by omega)] at hr
            exact w211_52 (sk (fun u => by rw [lt_ti, q2, mt5.2.1] at u; omega) (fin j I5 f5 q4 q5 q9 q2 hr.symm hj h3))
      exact loop (t.2 - qq t s) 0 _ (by omega) (by omega) F8 rfl ⟨rfl, rfl⟩ (by rw [xg]; exact g2.2.1) g2.2.1 hps.symm ⟨by rw [xgn (by decide)]; exact z31, fun i hi' => absurd hi' (Nat.not_lt_zero _)⟩
    · rw [e2, tb_k2]
      exact (kd_2 u).1
end MNAME
