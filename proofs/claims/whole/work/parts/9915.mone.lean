/-! ===== book: the reference reads a sum ===== -/
section MSUM
variable {t : Tp} {L d dr tl : Nat} {I I0 I1 I2 Ib : Nat → Nat → Int32} {J : Nat → Nat → Int64} {a0 a1 a2 a3 a4 rw : Int32} {s s1 : Lx} {v o B : Int} {R : (Nat → Nat → Int32) → (Nat → Nat → Int64) → Prop} {Q : Option Value → xMem → Prop} {c w w0 l p a W r0 : List Int} {e : Int × Int}
theorem mk40 : mkc 40 := by unfold mkc; omega
theorem mk41 : mkc 41 := by unfold mkc; omega
theorem mk42 : mkc 42 := by unfold mkc; omega
theorem mk43 : mkc 43 := by unfold mkc; omega
theorem mk44 : mkc 44 := by unfold mkc; omega
theorem mk45 : mkc 45 := by unfold mkc; omega
theorem mk47 : mkc 47 := by unfold mkc; omega
theorem mk59 : mkc 59 := by unfold mkc; omega
theorem mkW_p (hp : op14 p) (hv : 20 ≤ v ∧ v ≤ 24) : mkW (p ++ v :: W) = v := by
  induction p with
  | nil => show (if 20 ≤ v ∧ v ≤ 24 then v else mkW W) = v; rw [if_pos hv]
  | cons u p ih =>
    have hu := hp u (by simp)
    show (if 20 ≤ u ∧ u ≤ 24 then u else mkW (p ++ v :: W)) = v
    rw [if_neg (by omega)]
    exact ih (fun x hx => hp x (by simp [hx]))
theorem mkW_n (hp : op14 p) : mkW p = -1 := by
  induction p with
  | nil => rfl
  | cons u p ih =>
    have hu := hp u (by simp)
    show (if 20 ≤ u ∧ u ≤ 24 then u else mkW p) = -1
    rw [if_neg (by omega)]
    exact ih (fun x hx => hp x (by simp [hx]))
theorem MG.len (mt : MT t I) (h : MG t s c w o I) : w.length ≤ 1600 := by
  have := mt.1.1
  have := h.1.1
  have := h.2.2.2.2
  omega
theorem oneBad (z : ME B e I) (q : Q none (xSH L dr tl, I, J)) : WP ((d + 5), 231, 2, [some (.ref 71), some (.int 1), none, none, none], [], (xSH L dr tl, I, J)) Q := w231_2 (sk (by decide) (sk z.1.n0 (sk z.1.n0 q)))
/-- behind 'min' or 'max' -/
theorem pairOpen (mt : MT t I) (h : MG t s1 c w o I) (rv : (rw = 0 ∧ v = 22) ∨ (¬ rw = 0 ∧ v = 21)) (k1 : isMk t 40 s1 → o < 6 → ∀ I1 : Nat → Nat → Int32, frS I I1 → MG t (adv t s1) c (v :: w) (o + 1) I1 → WP ((d + 5), 231, 2, [some (.ref 71), some (.int 1), none, none, none], [], (xSH L dr tl, I1, J)) Q) (k4 : isMk t 40 s1 → ¬ o < 6 → ∀ I1 : Nat → Nat → Int32, frS I I1 → ME 1598 (4, (qq t s1 : Int)) I1 → Q none (xSH L dr tl, I1, J)) (k0 : ¬ isMk t 40 s1 → ∀ I1 : Nat → Nat → Int32, frS I I1 → ME 1598 (1, (qq t s1 : Int)) I1 → Q none (xSH L dr tl, I1, J)) : WP ((d + 4), 202, 0, [some (.ref 71)], [], (xSH L dr tl, I, J)) (fun v M => ∃ (r50 : Int32) (I50 : Nat → Nat → Int32) (J50 : Nat → Nat → Int64), v = some (.int r50) ∧ M = (xSH L dr tl, I50, J50) ∧ ((r50 = 40 → (((I50 71 2) = (-1) → WP ((d + 4), 207, 0, [some (.ref 71), some (.int 40)], [], (xSH L dr tl, I50, J50)) (fun v M => ∃ (I54 : Nat → Nat → Int32) (J54 : Nat → Nat → Int64), v = none ∧ M = (xSH L dr tl, I54, J54) ∧ WP ((d + 5), 231, 2, [some (.ref 71), some (.int 1), none, none, none], [], (xSH L dr tl, I54, J54)) Q)) ∧ (¬ (I50 71 2) = (-1) → ((rw = 0 → WP ((d + 4), 225, 0, [some (.ref 71), some (.int 22), some (.int (I50 71 2))], [], (xSH L dr tl, I50, J50)) (fun v M => ∃ (I56 : Nat → Nat → Int32) (J56 : Nat → Nat → Int64), v = none ∧ M = (xSH L dr tl, I56, J56) ∧ WP ((d + 4), 207, 0, [some (.ref 71), some (.int 40)], [], (xSH L dr tl, I56, J56)) (fun v M => ∃ (I57 : Nat → Nat → Int32) (J57 : Nat → Nat → Int64), v = none ∧ M = (xSH L dr tl, I57, J57) ∧ WP ((d + 5), 231, 2, [some (.ref 71), some (.int 1), none, none, none], [], (xSH L dr tl, I57, J57)) Q))) ∧ (¬ rw = 0 → WP ((d + 4), 225, 0, [some (.ref 71), some (.int 21), some (.int (I50 71 2))], [], (xSH L dr tl, I50, J50)) (fun v M => ∃ (I58 : Nat → Nat → Int32) (J58 : Nat → Nat → Int64), v = none ∧ M = (xSH L dr tl, I58, J58) ∧ WP ((d + 4), 207, 0, [some (.ref 71), some (.int 40)], [], (xSH L dr tl, I58, J58)) (fun v M => ∃ (I59 : Nat → Nat → Int32) (J59 : Nat → Nat → Int64), v = none ∧ M = (xSH L dr tl, I59, J59) ∧ WP ((d + 5), 231, 2, [some (.ref 71), some (.int 1), none, none, none], [], (xSH L dr tl, I59, J59)) Q))))))) ∧ (¬ r50 = 40 → WP ((d + 4), 207, 0, [some (.ref 71), some (.int 40)], [], (xSH L dr tl, I50, J50)) (fun v M => ∃ (I52 : Nat → Nat → Int32) (J52 : Nat → Nat → Int64), v = none ∧ M = (xSH L dr tl, I52, J52) ∧ WP ((d + 5), 231, 2, [some (.ref 71), some (.int 1), none, none, none], [], (xSH L dr tl, I52, J52)) Q)))) := by
  have t40 : (40 : Int32).toInt = 40 := rfl
  refine m_look mt h.1 fun r I1 f1 g1 e1 => ?_
  have mt1 := mt.f f1
  have h1 : MG t s1 c w o I1 := h.fx f1 g1.toR (Nat.le_refl _)
  refine brz eq_ti (fun y => ?_) (fun y => ?_)
  · have mk : isMk t 40 s1 := (tb_mk mk40).mp (by rw [← e1, y]; rfl)
    have gt := adv_gt (isMk_0 mk)
    have go : ∀ a : Int32, a.toInt = v → WP ((d + 4), 225, 0, [some (.ref 71), some (.int a), some (.int (I1 71 2))], [], (xSH L dr tl, I1, J)) (fun v M => ∃ (I56 : Nat → Nat → Int32) (J56 : Nat → Nat → Int64), v = none ∧ M = (xSH L dr tl, I56, J56) ∧ WP ((d + 4), 207, 0, [some (.ref 71), some (.int 40)], [], (xSH L dr tl, I56, J56)) (fun v M => ∃ (I57 : Nat → Nat → Int32) (J57 : Nat → Nat → Int64), v = none ∧ M = (xSH L dr tl, I57, J57) ∧ WP ((d + 5), 231, 2, [some (.ref 71), some (.int 1), none, none, none], [], (xSH L dr tl, I57, J57)) Q)) := by
      intro a ha
      have h5 := h1.2.2.2.2
      refine m_opens (s' := adv t s1) mt1 h1 (by omega) (by omega) ha g1.2.1 (fun lt I2 f2 r2 c2 w2 o2 _ => ?_) (fun lt I2 f2 z2 => ?_)
      · refine m_asksS (x := .ok s1) mk40 rfl (mt1.fs f2) r2 fun I3 f3 g3 => ?_
        have E : bnd (.ok s1) (mkF t 40) = .ok (adv t s1) := if_pos mk
        rw [E] at g3
        have hw : (v :: w).length = w.length + 1 := rfl
        refine k1 mk lt I3 ((f1.toS.tr f2).tr f3.toS) ⟨g3, ?_, ?_, ?_, by rw [hw]; omega⟩
        · unfold MC at *; rw [f3.1 103 (by decide), f3.2 44 (by decide) (by decide) (by decide) (by decide) (by decide)]; exact c2
        · unfold MWt at *; rw [f3.1 104 (by decide), f3.2 46 (by decide) (by decide) (by decide) (by decide) (by decide)]; exact w2
        · rw [f3.2 47 (by decide) (by decide) (by decide) (by decide) (by decide)]
          have := h1.2.2.2.1
          exact ⟨o2, by omega, by omega⟩
      · refine m_asksS (x := .error (4, (qq t s1 : Int))) mk40 rfl (mt1.f f2) z2.1 fun I3 f3 g3 => ?_
        have z3 : ME 1597 (4, (qq t s1 : Int)) I3 := z2.fx f3 g3
        exact oneBad z3 (k4 mk lt I3 ((f1.toS.tr f2.toS).tr f3.toS) (z3.up (by decide)))
    have nm : ¬ (I1 71 2) = -1 := fun z => by rw [eqm, g1.2.1] at z; omega
    refine sk nm ?_
    rcases rv with ⟨q1, q2⟩ | ⟨q1, q2⟩
    · exact hit q1 (go 22 (by rw [q2]; rfl))
    · exact sk q1 (go 21 (by rw [q2]; rfl))
  · have nmk : ¬ isMk t 40 s1 := fun z => y (by rw [e1, (tb_mk mk40).mpr z]; rfl)
    refine m_asksS (x := .ok s1) mk40 rfl mt1 h1.1 fun I3 f3 g3 => ?_
    have E : bnd (.ok s1) (mkF t 40) = .error (1, (qq t s1 : Int)) := if_neg nmk
    rw [E] at g3
    have z3 : ME 1597 (1, (qq t s1 : Int)) I3 := h1.err mt1 f3 g3
    exact oneBad z3 (k0 nmk I3 (f1.toS.tr f3.toS) (z3.up (by decide)))
/-- a part that opens nothing -/
noncomputable def smpF (t : Tp) (s : Lx) : RL := if ow t s = 14 then .ok (adv t s, [7]) else if ow t s = 2 then .ok (adv t s, [8]) else if ow t s = 15 then .ok (adv t s, [9]) else if ow t s = 16 then .ok (adv t s, [10]) else bnd (numF t 0 9999 s) fun x => .ok (x.1, [1000 + x.2])
theorem partTail (mt : MT t I) (wa : WA I) (h : MG t s c w o I) (K : OKR (smpF t s) (fun s' y => ∀ I1 : Nat → Nat → Int32, frS I I1 → MG t s' (c ++ y) w o I1 → Q none (xSH L dr tl, I1, J)) (fun e => ∀ I1 : Nat → Nat → Int32, frS I I1 → ME 1598 e I1 → Q none (xSH L dr tl, I1, J))) : WP ((d + 5), 231, 2, [some (.ref 71), some (.int 0), none, none, none], [], (xSH L dr tl, I, J)) Q := by
  have hs := h.1.1
  have h5 := h.2.2.2.2
  have one : ∀ (k : Nat) (I1 : Nat → Nat → Int32) (a : Int32) (z : Int), k < 19 → ow t s = k → a.toInt = z → smpF t s = .ok (adv t s, [z]) → MT t I1 → frS I I1 → MG t (adv t s) c w o I1 → WP ((d + 4), 224, 0, [some (.ref 71), some (.int a)], [], (xSH L dr tl, I1, J)) (fun v M => ∃ (I16 : Nat → Nat → Int32) (J16 : Nat → Nat → Int64), v = none ∧ M = (xSH L dr tl, I16, J16) ∧ Q none (xSH L dr tl, I16, J16)) := by
    intro k I1 a z hk e ha hz mt1 f1 g1
    rw [hz] at K
    have gt := adv_gt (ow_0 (t := t) (s := s) (by omega))
    exact m_code mt1 g1 (by omega) ha fun I2 f2 g2 _ => K I2 (f1.tr f2) g2
  have mv : ∀ (I1 : Nat → Nat → Int32) (I2 : Nat → Nat → Int32), MG t s c w o I1 → frX I1 I2 → MR t (adv t s) I2 → MG t (adv t s) c w o I2 := fun I1 I2 g f r => g.fx f r (adv_ge hs)
  refine w231_2 (hit rfl (hit (eq0.mpr h.1.2.2.2) (m_takes (k := 14) (by decide) mt wa h.1 (fun e1 I1 f1 r1 => br1 (one 14 I1 7 7 (by decide) e1 rfl (if_pos e1) (mt.f f1) f1.toS (mv I I1 h f1 r1))) (fun e1 I1 f1 q1 => br0 ?_))))
  have h1 := h.fx f1 q1.toR (Nat.le_refl _)
  refine m_takes (k := 2) (by decide) (mt.f f1) (wa.f f1) q1.toR (fun e2 I2 f2 r2 => br1 (one 2 I2 8 8 (by decide) e2 rfl (by unfold smpF; rw [if_neg (show ¬ ow t s = 14 from e1), if_pos (show ow t s = 2 from e2)]) ((mt.f f1).f f2) (f1.tr f2).toS (mv I1 I2 h1 f2 r2))) (fun e2 I2 f2 q2 => br0 ?_)
  have h2 := h1.fx f2 q2.toR (Nat.le_refl _)
  have f12 := f1.tr f2
  refine m_takes (k := 15) (by decide) (mt.f f12) (wa.f f12) q2.toR (fun e3 I3 f3 r3 => br1 (one 15 I3 9 9 (by decide) e3 rfl (by unfold smpF; rw [if_neg (show ¬ ow t s = 14 from e1), if_neg (show ¬ ow t s = 2 from e2), if_pos (show ow t s = 15 from e3)]) ((mt.f f12).f f3) (f12.tr f3).toS (mv I2 I3 h2 f3 r3))) (fun e3 I3 f3 q3 => br0 ?_)
  have h3 := h2.fx f3 q3.toR (Nat.le_refl _)
  have f13 := f12.tr f3
  refine m_takes (k := 16) (by decide) (mt.f f13) (wa.f f13) q3.toR (fun e4 I4 f4 r4 => br1 (one 16 I4 10 10 (by decide) e4 rfl (by unfold smpF; rw [if_neg (show ¬ ow t s = 14 from e1), if_neg (show ¬ ow t s = 2 from e2), if_neg (show ¬ ow t s = 15 from e3), if_pos (show ow t s = 16 from e4)]) ((mt.f f13).f f4) (f13.tr f4).toS (mv I3 I4 h3 f4 r4))) (fun e4 I4 f4 q4 => br0 ?_)
  have h4 := h3.fx f4 q4.toR (Nat.le_refl _)
  have f14 := f13.tr f4
  have SE : smpF t s = bnd (numF t 0 9999 s) fun x => .ok (x.1, [1000 + x.2]) := by unfold smpF; rw [if_neg (show ¬ ow t s = 14 from e1), if_neg (show ¬ ow t s = 2 from e2), if_neg (show ¬ ow t s = 15 from e3), if_neg (show ¬ ow t s = 16 from e4)]
  rw [SE] at K
  refine m_number (x := .ok s) (lo := 0) (hi := 9999) (mt.f f14) h4.1 rfl (fun _ _ => rfl) fun r I5 f5 g5 _ => ?_
  have E0 : bnd (.ok s) (numF t 0 9999) = numF t 0 9999 s := rfl
  rw [E0] at g5
  cases hn : numF t 0 9999 s with
  | error e =>
    rw [hn] at g5 K
    have z5 : ME 1597 e I5 := h4.err (mt.f f14) f5 g5
    exact m_codeE z5 (by decide) fun I6 f6 z6 => K I6 ((f14.toS.tr f5.toS).tr f6) z6
  | ok y =>
    rw [hn] at g5 K
    obtain ⟨g6, g7⟩ : MR t y.1 I5 ∧ r.toInt = y.2 := g5
    have nb := numF_ok (s' := y.1) (v := y.2) hs hn
    have e1000 : (1000 : Int32).toInt = 1000 := rfl
    have ea : (1000 + r).toInt = 1000 + y.2 := by rw [add_ti (by rw [e1000]; omega) (by rw [e1000]; omega), e1000, g7]
    have g8 : MG t y.1 c w o I5 := h4.fx f5 g6 (by omega)
    exact m_code ((mt.f f14).f f5) g8 (by omega) ea fun I6 f6 g6' _ => K I6 ((f14.toS.tr f5.toS).tr f6) g6'
/-- what onePart does -/
theorem one_sy {Za0 : ZT} {E : Int × Int → Prop} (mtb : MT t Ib) (wab : WA Ib) (hA : ∀ (s : Lx) (c w : List Int) (o : Int), Za0 s c w o → ∀ I : Nat → Nat → Int32, frS Ib I → MG t s c (w ++ w0) o I → Q none (xSH L dr tl, I, J)) (hE : ∀ e : Int × Int, E e → ∀ I : Nat → Nat → Int32, frS Ib I → ME 1598 e I → Q none (xSH L dr tl, I, J)) : SYw t (fun s c w o => ∀ I : Nat → Nat → Int32, frS Ib I → MG t s c (w ++ w0) o I → WP ((d + 5), 231, 2, [some (.ref 71), some (.int 1), none, none, none], [], (xSH L dr tl, I, J)) Q) Za0 E := by
  have t40 : (40 : Int32).toInt = 40 := rfl
  -- a part that opens nothing: the way to it
  have plain : ∀ (s : Lx) (c w : List Int) (o : Int), ¬ isMk t 40 s → ow t s ≠ 17 → ow t s ≠ 18 → OKR (smpF t s) (fun s' y => Za0 s' (c ++ y) w o) E → ∀ I : Nat → Nat → Int32, frS Ib I → MG t s c (w ++ w0) o I → WP ((d + 5), 231, 2, [some (.ref 71), some (.int 1), none, none, none], [], (xSH L dr tl, I, J)) Q := by
    intro s c w o nm n17 n18 hK I f h
    have mt := mtb.fs f
    have wa := wab.fs f
    refine w231_2 (sk (by decide) (hit (eq0.mpr h.1.2.2.2) (m_look mt h.1 fun r I1 f1 g1 e1 => sk (fun y => nm ((tb_mk mk40).mp (by rw [← e1, y]; rfl))) (m_isHere (k := 17) (by decide) (mt.f f1) (wa.f f1) g1.toR (fun e => absurd e n17) (fun _ I2 f2 g2 => br0 (m_isHere (k := 18) (by decide) ((mt.f f1).f f2) ((wa.f f1).f f2) g2.toR (fun e => absurd e n18) (fun _ I3 f3 g3 => br0 ?_)))))))
    have F := (f1.tr f2).tr f3
    refine partTail (mt.f F) (wa.f F) (h.fx F g3.toR (Nat.le_refl _)) ?_
    cases hx : smpF t s with
    | ok y => rw [hx] at hK; exact fun I4 f4 g4 => hA _ _ _ _ hK I4 ((f.tr F.toS).tr f4) g4
    | error e => rw [hx] at hK; exact fun I4 f4 g4 => hE e hK I4 ((f.tr F.toS).tr f4) g4
  refine ⟨fun s c w o hs mk k1 k0 I f h => ?_, fun s c w o v hs hv k1 k4 k0 I f h => ?_, fun s c w o v hs hv k I f h => ?_, fun s c w o hs nm hn k I f h => ?_⟩
  · have mt := mtb.fs f
    have h5 := h.2.2.2.2
    have gt := adv_gt (isMk_0 mk)
    have p1 := (kd_4 mk.1).2
    have hqn := qq_n (t := t) (s := s) hs
    have n1600 := mt.1.1
    refine w231_2 (sk (by decide) (hit (eq0.mpr h.1.2.2.2) (m_look mt h.1 fun r I1 f1 g1 e1 => hit (eq_ti.mpr (by rw [e1, (tb_mk mk40).mpr mk]; rfl)) (m_opens (s' := adv t s) (mt.f f1) (h.fx f1 g1.toR (Nat.le_refl _)) (by omega) (by omega) rfl g1.2.1 (fun lt I2 f2 r2 c2 w2 o2 z2 => ?_) (fun lt I2 f2 z2 => ?_)))))
    · refine k1 lt _ ((f.tr f1.toS).tr (f2.tr (frS_w (by decide)))) ⟨?_, c2, w2, ?_, by show c.length + ((w ++ w0).length + 1) + 3 ≤ _; omega⟩
      · have z22 : I2 71 2 = I1 71 2 := z2 2 (by decide) (by decide)
        refine g1.adv (isMk_0 mk) ⟨z2 5 (by decide) (by decide), z2 6 (by decide) (by decide)⟩ ?_ (fun u => ?_) (fun _ => z2 4 (by decide) (by decide))
        · rw [xg, z22, add1 (by rw [g1.2.1]; omega) (by rw [g1.2.1]; omega), g1.2.1, p1]; rfl
        · have := mk.1; omega
      · have := h.2.2.2.1
        exact ⟨o2, by omega, by omega⟩
    · have z3 : ME 1597 (4, (qq t s : Int)) (xwI I2 71 2 (I2 71 2 + 1)) := z2
      exact oneBad z3 (hE _ (k0 lt) _ ((f.tr f1.toS).tr (f2.toS.tr (frS_w (by decide)))) (z3.up (by decide)))
  · have mt := mtb.fs f
    have wa := wab.fs f
    have nm : ¬ isMk t 40 s := fun z => by
      have k2 := ow_2 (t := t) (s := s) (by rcases hv with u | u <;> omega)
      have := z.1
      omega
    have hs1 := adv_n (t := t) (s := s) hs
    have ge := adv_ge (t := t) (s := s) hs
    have kk1 : ∀ J1 : Nat → Nat → Int32, frS Ib J1 → isMk t 40 (adv t s) → o < 6 → ∀ I1 : Nat → Nat → Int32, frS J1 I1 → MG t (adv t (adv t s)) c (v :: (w ++ w0)) (o + 1) I1 → WP ((d + 5), 231, 2, [some (.ref 71), some (.int 1), none, none, none], [], (xSH L dr tl, I1, J)) Q := fun J1 fJ m lt I1 f1 g1 => k1 m lt I1 (fJ.tr f1) g1
    refine w231_2 (sk (by decide) (hit (eq0.mpr h.1.2.2.2) (m_look mt h.1 fun r I1 f1 g1 e1 => sk (fun y => nm ((tb_mk mk40).mp (by rw [← e1, y]; rfl))) (m_isHere (k := 17) (by decide) (mt.f f1) (wa.f f1) g1.toR (fun e I2 f2 g2 => br1 (m_takes (k := 17) (by decide) ((mt.f f1).f f2) ((wa.f f1).f f2) g2.toR (fun _ I3 f3 r3 => br1 ?_) (fun e' => absurd e e'))) (fun e I2 f2 g2 => br0 (m_isHere (k := 18) (by decide) ((mt.f f1).f f2) ((wa.f f1).f f2) g2.toR (fun e' I3 f3 g3 => br1 (m_takes (k := 17) (by decide) (((mt.f f1).f f2).f f3) (((wa.f f1).f f2).f f3) g3.toR (fun e'' => absurd e'' e) (fun _ I4 f4 g4 => br0 (m_asks (k := 18) (x := .ok s) (by decide) ((((mt.f f1).f f2).f f3).f f4) ((((wa.f f1).f f2).f f3).f f4) g4.toR fun I5 f5 g5 => ?_)))) (fun e' => ?_)))))))
    · have F := (f1.tr f2).tr f3
      have ev : v = 21 := by rcases hv with u | u; exact u.2; exact absurd (e.symm.trans u.1) (by decide)
      exact pairOpen (v := v) (mt.f F) (h.fx F r3 ge) (Or.inr ⟨by decide, ev⟩) (kk1 I3 (f.tr F.toS)) (fun m lt I4 f4 z4 => hE _ (k4 m lt) I4 ((f.tr F.toS).tr f4) z4) (fun m I4 f4 z4 => hE _ (k0 m) I4 ((f.tr F.toS).tr f4) z4)
    · have F := (((f1.tr f2).tr f3).tr f4).tr f5
      have ev : v = 22 := by rcases hv with u | u; exact absurd u.1 e; exact u.2
      have E5 : bnd (.ok s) (owF t 18) = .ok (adv t s) := if_pos e'
      have g5' : MX t (bnd (.ok s) (owF t 18)) I5 := g5
      rw [E5] at g5'
      exact pairOpen (v := v) (mt.f F) (h.fx F g5' ge) (Or.inl ⟨rfl, ev⟩) (kk1 I5 (f.tr F.toS)) (fun m lt I4 f4 z4 => hE _ (k4 m lt) I4 ((f.tr F.toS).tr f4) z4) (fun m I4 f4 z4 => hE _ (k0 m) I4 ((f.tr F.toS).tr f4) z4)
    · rcases hv with u | u
      · exact absurd u.1 e
      · exact absurd u.1 e'
  · have k2 := ow_2 (t := t) (s := s) (by omega)
    have nm : ¬ isMk t 40 s := fun z => by have := z.1; omega
    refine plain s c w o nm (by omega) (by omega) ?_ I f h
    have SE : smpF t s = .ok (adv t s, [v]) := by
      unfold smpF
      rcases hv with ⟨u1, rfl⟩ | ⟨u1, rfl⟩ | ⟨u1, rfl⟩ | ⟨u1, rfl⟩
      · rw [if_pos u1]
      · rw [if_neg (by omega), if_pos u1]
      · rw [if_neg (by omega), if_neg (by omega), if_pos u1]
      · rw [if_neg (by omega), if_neg (by omega), if_neg (by omega), if_pos u1]
    rw [SE]; exact k
  · refine plain s c w o nm hn.1 hn.2.1 ?_ I f h
    have SE : smpF t s = bnd (numF t 0 9999 s) fun x => .ok (x.1, [1000 + x.2]) := by
      unfold smpF
      rw [if_neg hn.2.2.1, if_neg hn.2.2.2.1, if_neg hn.2.2.2.2.1, if_neg hn.2.2.2.2.2]
    rw [SE]; exact k
end MSUM
