/-! ===== on: the call ===== -/
section ON5
variable {S T : aS} {L d dr tl t : Nat} {I : Nat → Nat → Int32} {J : Nat → Nat → Int64} {a1 a2 a3 a4 a5 b x : Int32} {f : Nat → Int} {n0 h : Int} {Q : Option Value → xMem → Prop}
theorem seatAt_c {o : Nat} (h0 : T 0 2 = S 0 2) (h5 : T 5 = S 5) : seatAt T f o = seatAt S f o := by
  funext r
  unfold seatAt seatOK
  rw [isP_f h5 h0]
theorem onB_f {g : Nat} (h0 : g ≠ 0) (h1 : g ≠ 15) (h2 : g ≠ 16) (h3 : g ≠ 17) (h4 : g ≠ 18) : onB S g = S g := (onA_f h1 h2 h3 h4 _).trans (on0_f h0)
theorem onB_0 {k : Nat} (h1 : k ≠ 8) (h2 : k ≠ 9) : onB S 0 k = S 0 k := by
  have : onB S 0 = on0 S 0 := onA_f (by decide) (by decide) (by decide) (by decide) _
  rw [this]; exact on0_0 h1 h2
theorem onT_0 {k : Nat} (h1 : k ≠ 8) (h2 : k ≠ 9) : onT S 0 k = S 0 k := by
  have : onT S 0 = onB S 0 := onR_f (by decide) (by decide) _
  rw [this]; exact onB_0 h1 h2
theorem on_hyp (hw : WF S) (ok : onOK S) : tot (on0 S) = tot S ∧ sHr (on0 S) = 256 * S 1 0 + S 1 1 ∧ 2 + 3 * tot (on0 S) ≤ sTp (on0 S) ∧ allF (sgnAt (S 1)) 0 (tot (on0 S)).toNat ∧ sNL (on0 S) = sNL S ∧ sNR (onB S) = sNR S ∧ ((2 + 3 * tot S).toNat : Int) + 2 * sNR (onB S) ≤ sTp (onB S) ∧ allF (seatAt (onB S) (S 1) (2 + 3 * tot S).toNat) 0 (sNR (onB S)).toNat ∧ 0 ≤ 256 * S 1 0 + S 1 1 ∧ 2 ≤ sTp S := by
  have tb := tot_b hw
  have hN := hw.2.2.2.1.1
  have e1 : tot (on0 S) = tot S := tot_c (Or.inr (on0_0 (by decide) (by decide))) (on0_f (by decide))
  have e2 : sTp (on0 S) = sTp S := on0_0 (by decide) (by decide)
  have e3 : sNR (onB S) = sNR S := onB_0 (by decide) (by decide)
  have e4 : sTp (onB S) = sTp S := onB_0 (by decide) (by decide)
  obtain ⟨k1, k2, k3, k4, k5⟩ := ok
  have b0 := hw.1.2.2 0 (by omega)
  have b1 := hw.1.2.2 1 (by omega)
  refine ⟨e1, ?_, by omega, by rw [e1]; exact k4, on0_0 (by decide) (by decide), e3, by omega, ?_, by omega, by omega⟩
  · show sset (sset S 0 8 (256 * S 1 0 + S 1 1)) 0 9 0 0 8 = _
    rw [sgn (by decide), sg]
  · rw [e3, seatAt_c (onB_0 (by decide) (by decide)) (onB_f (by decide) (by decide) (by decide) (by decide) (by decide))]; exact k5
theorem c_take (q : CInv S dr tl I J) (ok : onOK S) (K : ∀ I1 : Nat → Nat → Int32, keepM I I1 J J → CInv (onT S) dr tl I1 J → Q none (xSH L dr tl, I1, J)) : WP ((d + 4), 43, 0, [some (.ref 30), some (.ref 3), none, none, none], [], (xSH L dr tl, I, J)) Q := by
  have hw := q.1
  obtain ⟨e1, e2, e3, e4, e5, e6, e7, e8, e9, e10⟩ := on_hyp hw ok
  have tp := q.tape3
  have k3 := ok.2.2.1
  have hN := hw.2.2.2.1
  have hLn := hw.2.2.1
  have b0 := hw.1.2.2 0 (by omega)
  have b1 := hw.1.2.2 1 (by omega)
  refine w43_0 (Or.inl rfl) (w40_0 (Or.inl rfl) ((s_byte (Or.inl rfl) tp (by decide) (by show (0 : Int) < _; omega)).u fun r1 g1 => (s_byte (Or.inl rfl) tp (by decide) (by show (1 : Int) < _; omega)).u fun r2 g2 => ⟨_, _, _, rfl, rfl, w133_0 (w20_0 ⟨_, _, rfl, rfl, _, _, rfl, rfl, ?_⟩)⟩))
  have g1' : r1.toInt = S 1 0 := g1
  have g2' : r2.toInt = S 1 1 := g2
  have eH : (256 * r1 + r2).toInt = 256 * S 1 0 + S 1 1 := by rw [addn (by rw [mul_ti (by show _ ≤ 256 * r1.toInt; omega) (by show 256 * r1.toInt < _; omega)]; show _ ≤ 256 * r1.toInt; omega) (by rw [mul_ti (by show _ ≤ 256 * r1.toInt; omega) (by show 256 * r1.toInt < _; omega)]; show 256 * r1.toInt ≤ _; omega) (by omega) (by omega), mul_ti (by show _ ≤ 256 * r1.toInt; omega) (by show 256 * r1.toInt < _; omega), g2']; show 256 * r1.toInt + _ = _; omega
  have q0 := q.on0 (v := 256 * r1 + r2) e9 k3 eH
  refine c_on_leaves (f := S 1) (h := 256 * S 1 0 + S 1 1) (S := on0 S) q0.1 (on0_f (by decide)) e2 e3 e4 (sNL S).toNat 0 2 0 _ (by omega) rfl rfl q0 fun c I1 y1 y2 y3 => ?_
  rw [e5] at y3
  refine c_on_readers (f := S 1) (S := onB S) (o := (2 + 3 * tot S).toNat) (by omega) (onB_f (by decide) (by decide) (by decide) (by decide) (by decide)) e7 e8 (sNR S).toNat 0 c 0 I1 (by omega) rfl (by have := tot_b hw; omega) y3 fun I2 z1 z2 => K I2 ((((keepM_I (by decide)).tr (keepM_I (by decide))).tr (keepM_I (by decide))).tr (y2.tr z1)) ?_
  rw [e6] at z2
  exact z2
theorem c_on_end (q : CInv S dr tl I J) {r : Int32} {z : Int} (hr : r.toInt = z) (hb : r = 0 ∨ r = 1) {I0 : Nat → Nat → Int32} (kp : keepM I0 I J J) : WP ((d + 1), 115, 0, [some (.ref 3), some (.int 0)], [], (xSH L dr tl, I, J)) (fun v M => ∃ (r3 : Int32) (I3 : Nat → Nat → Int32) (J3 : Nat → Nat → Int64), v = some (.int r3) ∧ M = (xSH L dr tl, I3, J3) ∧ ((xeq r 0 || xeq r 1) = true ∧ ∃ (r' : Int32) (I1 : Nat → Nat → Int32) (J1 : Nat → Nat → Int64), some (Value.int r) = some (.int r') ∧ r'.toInt = z ∧ (xSH L dr tl, I3, J3) = (xSH L dr tl, I1, J1) ∧ keepM I0 I1 J J1 ∧ CInv (sset S 0 0 0) dr tl I1 J1)) := by
  have t0 := q.1.1.1
  refine s_end (S := S) q.2.2.2.2.2.2.2.1.1 (fun y => absurd (show (0 : Int) ≤ 0 ∧ (0 : Int) ≤ sTp S from ⟨by decide, t0⟩) y) (fun _ => ⟨1, _, J, rfl, rfl, b01 r hb, r, _, J, rfl, hr, rfl, kp.tr (keepM_I (by decide)), q.stop (by decide) t0 rfl⟩)
theorem c_such (q : CInv S dr tl I J) : PB ((d + 5), 39, 0, [some (.ref 30), some (.ref 3), none, none, none], [], (xSH L dr tl, I, J)) (onOK S) (xSH L dr tl, I, J) := w39_0 (Or.inl rfl) (such_loop q (sNL S).toNat 0 0 0 (by have := q.1.2.2.1.1; omega) rfl rfl)
theorem m_such (hw : WF S) (hb : MIb S I J) (h : tapeM (sTp S) (S 1) I) (e1 : a1.toInt = sTp S) : PB ((d + 2), 314, 0, [some (.ref 71), some (.int a1), none, none], [], (xSH L dr tl, I, J)) (onOK S) (xSH L dr tl, I, J) := w314_0 (m_told_loop2 hw hb h e1 (sNL S).toNat 0 0 0 (by have := hw.2.2.1.1; omega) rfl rfl)
theorem call_on : Call L (d + 6) 194 315 [] [] S := by
  by_cases ok : onOK S
  · refine Call.st (onS S) 1 (fun dr tl I J q => ?_) (fun dr tl I J q => ?_)
    · exact w194_0 ((c_such q).u (fun _ => br1 (c_take q ok fun I1 y1 y2 => ⟨_, _, rfl, rfl, c_on_end y2 rfl (Or.inr rfl) y1⟩)) (fun z => absurd ok z))
    · have hw := q.1
      obtain ⟨e1, e2, e3, e4, e5, e6, e7, e8, e9, e10⟩ := on_hyp hw ok
      have k3 := ok.2.2.1
      have hN := hw.2.2.2.1
      have hLn := hw.2.2.1
      have b0 := hw.1.2.2 0 (by omega)
      have b1 := hw.1.2.2 1 (by omega)
      have t1 : (I 71 1).toInt = sTp S := q.2.2.2.2.2.1.1
      have tm : tapeM (sTp S) (S 1) (xwI I 71 1 0) := ⟨hw.1.2.1, fun j hj => ⟨q.2.2.2.2.2.1.2 j hj, hw.1.2.2 j hj⟩⟩
      refine w315_0 ((m_such (I := xwI I 71 1 0) hw q.2.1 tm t1).u (fun _ => br1 ?_) (fun z => absurd ok z))
      have v0 : (I 72 0).toInt = S 1 0 := q.2.2.2.2.2.1.2 0 (by omega)
      have v1 : (I 72 1).toInt = S 1 1 := q.2.2.2.2.2.1.2 1 (by omega)
      have eH : (256 * I 72 0 + I 72 1).toInt = 256 * S 1 0 + S 1 1 := by rw [addn (by rw [mul_ti (by show _ ≤ 256 * (I 72 0).toInt; omega) (by show 256 * (I 72 0).toInt < _; omega)]; show _ ≤ 256 * (I 72 0).toInt; omega) (by rw [mul_ti (by show _ ≤ 256 * (I 72 0).toInt; omega) (by show 256 * (I 72 0).toInt < _; omega)]; show 256 * (I 72 0).toInt ≤ _; omega) (by omega) (by omega), mul_ti (by show _ ≤ 256 * (I 72 0).toInt; omega) (by show 256 * (I 72 0).toInt < _; omega), v1, v0]; rfl
      have q0 := q.on0 (v := 256 * I 72 0 + I 72 1) e9 k3 eH
      have eI : asIf (I 71 1) (xwI (xwI I 71 1 0) 71 55 (256 * I 72 0 + I 72 1)) = xwI (xwI I 71 55 (256 * I 72 0 + I 72 1)) 71 65 0 := by
        unfold asIf
        funext a j
        by_cases ea : a = 71
        · subst ea
          by_cases j1 : j = 1
          · rw [j1, xg, xgn (by decide), xgn (by decide)]
          · rw [xgn j1]
            by_cases j2 : j = 65
            · rw [j2, xg, xg]
            · rw [xgn j2, xgn j2]
              by_cases j3 : j = 55
              · rw [j3, xg, xg]
              · rw [xgn j3, xgn j3, xgn j1]
        · simp only [xwI_ne ea]
      rw [← eI] at q0
      refine m_on_leaves (f := S 1) (h := 256 * S 1 0 + S 1 1) (S := on0 S) q0.1 (on0_f (by decide)) e2 e3 e4 (sNL S).toNat 0 2 0 _ (by omega) rfl rfl q0 fun c I1 y1 y4 y2 y3 => ?_
      rw [e5] at y3
      refine m_on_readers (f := S 1) (S := onB S) (o := (2 + 3 * tot S).toNat) (by omega) (onB_f (by decide) (by decide) (by decide) (by decide) (by decide)) e7 e8 (sNR S).toNat 0 c 0 I1 (by omega) rfl (by have := tot_b hw; omega) y3 fun I2 z4 z1 z2 => ⟨1, _, J, rfl, rfl, rfl, (((keepC_I (by decide)).tr (keepC_I (by decide))).tr (y2.tr z1)).tr (keepC_I (by decide)), ?_⟩
      rw [e6] at z2
      have tt : 0 ≤ sTp (onT S) := by
        have : sTp (onT S) = sTp S := onT_0 (by decide) (by decide)
        omega
      have q9 : MInv (sset (onT S) 0 0 0) (xwI (asIf (I 71 1) I2) 71 1 0) J := MInv.stop (S := onT S) z2 (by decide) tt rfl
      have e71 : I2 71 = xwI (xwI I 71 1 0) 71 55 (256 * I 72 0 + I 72 1) 71 := z4.trans y4
      have eF : xwI (asIf (I 71 1) I2) 71 1 0 = xwI I2 71 65 0 := by
        unfold asIf
        funext a j
        by_cases ea : a = 71
        · subst ea
          by_cases j1 : j = 1
          · rw [j1, xg, xgn (by decide), e71, xgn (by decide), xg]
          · rw [xgn j1, xgn j1]
        · simp only [xwI_ne ea]
      rw [eF] at q9
      exact q9
  · refine Call.st (sset S 0 0 0) 0 (fun dr tl I J q => ?_) (fun dr tl I J q => ?_)
    · exact w194_0 ((c_such q).u (fun z => absurd z ok) (fun _ => br0 (c_on_end q rfl (Or.inl rfl) keepM_refl)))
    · have hw := q.1
      have t1 : (I 71 1).toInt = sTp S := q.2.2.2.2.2.1.1
      have tm : tapeM (sTp S) (S 1) (xwI I 71 1 0) := ⟨hw.1.2.1, fun j hj => ⟨q.2.2.2.2.2.1.2 j hj, hw.1.2.2 j hj⟩⟩
      exact w315_0 ((m_such (I := xwI I 71 1 0) hw q.2.1 tm t1).u (fun z => absurd z ok) (fun _ => br0 ⟨0, _, J, rfl, rfl, rfl, keepC_I (by decide), q.stop (by decide) hw.1.1 rfl⟩))
end ON5
