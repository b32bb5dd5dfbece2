/-! ===== image: the two sides ===== -/
section IMAGE2
variable {S T : aS} {L d dr tl t : Nat} {I : Nat → Nat → Int32} {J : Nat → Nat → Int64} {a1 a2 a3 a4 a5 x : Int32} {f : Nat → Int} {n0 : Int} {Q : Option Value → xMem → Prop}
theorem sign_b (hw : WF S) {l p : Int} (hP : isP S l p) : 0 ≤ S 15 (slot l p) ∧ S 15 (slot l p) ≤ 26 ∧ 0 ≤ S 16 (slot l p) ∧ S 16 (slot l p) ≤ 99 ∧ 0 ≤ S 18 (slot l p) ∧ S 18 (slot l p) ≤ 26 := by
  have h := hw.2.2.2.2.2.2.2.1 l p hP
  exact ⟨h.1, h.2.1, h.2.2.1, h.2.2.2.1, h.2.2.2.2.2.1, h.2.2.2.2.2.2⟩
theorem c_im_places {l : Nat} (el : a2.toInt = l) : ∀ (m k : Nat) (i : Int32) (I : Nat → Nat → Int32), ((k + m : Nat) : Int) = plc S l → i.toInt = k → sNO S + 3 * plc S l < 1600 → CInv (imL S l k) dr tl I J → (∀ I1 : Nat → Nat → Int32, keepM I I1 J J → CInv (imL S l (plc S l).toNat) dr tl I1 J → WP ((d + 4), 37, 27, [some (.ref 30), some (.ref 5), some (.int (a2 + 1)), none], [], (xSH L dr tl, I1, J)) Q) → WP ((d + 4), 37, 43, [some (.ref 30), some (.ref 5), some (.int a2), some (.int i)], [], (xSH L dr tl, I, J)) Q := by
  intro m
  induction m with
  | zero =>
    intro k i I hk hi hb q K
    have hc := q.cb
    have ep := (osame_L (S := S) (l := l) k).pl l
    refine w37_43 (Or.inr rfl) hc.2.1 ((s_told hc.2.1).v ((s_placesOf hc.1 hc.2.1 hc.2.2.1).u fun r2 h2 => ?_))
    rw [el, ep] at h2
    refine brz lt_ti (fun z => by omega) (fun _ => K I keepM_refl ?_)
    rw [show (plc S l).toNat = k by omega]; exact q
  | succ m ih =>
    intro k i I hk hi hb q K
    have hc := q.cb
    have ep := (osame_L (S := S) (l := l) k).pl l
    have hpl := plc_le hc.1 (l : Int)
    have e1 : (i + 1).toInt = ((k + 1 : Nat) : Int) := by rw [add1 (by omega) (by omega), hi]; rfl
    have hn := imL_n (S := S) (l := l) k
    have hP : isP (imL S l k) (l : Int) (k : Int) := plc_lt (by omega)
    have hP' : ∀ {U : aS}, osame U (imL S l k) → isP U a2.toInt i.toInt := fun {U} h => by rw [el, hi]; exact plc_lt (by rw [h.pl]; omega)
    have sb := sign_b hc.1 hP
    refine w37_43 (Or.inr rfl) hc.2.1 ((s_told hc.2.1).v ((s_placesOf hc.1 hc.2.1 hc.2.2.1).u fun r2 h2 => ?_))
    rw [el, ep] at h2
    refine brz lt_ti (fun _ => (s_letterAt hc).u fun r4 h4 => ?_) (fun z => by omega)
    rw [if_pos (hP' osame_refl), el, hi] at h4
    refine s_lay (v := imL S l k 15 (slot l k)) q (by omega) (by omega) (by omega) fun I5 f5 q5 => (s_eyesAt q5.cb).u fun r6 h6 => ?_
    rw [if_pos (hP' osame_p), el, hi] at h6
    have h6' : r6.toInt = imL S l k 16 (slot l k) := h6
    refine s_lay (v := imL S l k 16 (slot l k)) q5 (by rw [op_n]; omega) (by omega) (by omega) fun I7 f7 q7 => (s_ghostAt q7.cb).u fun r8 h8 => ?_
    rw [if_pos (hP' (osame_p.tr osame_p)), el, hi] at h8
    have h8' : r8.toInt = imL S l k 18 (slot l k) := h8
    exact s_lay (v := imL S l k 18 (slot l k)) q7 (by rw [op_n, op_n]; omega) (by omega) (by omega) fun I9 f9 q9 => ih (k + 1) _ I9 (by omega) e1 hb q9 fun I1 f1 q1 => K I1 (((f5.tr f7).tr f9).tr f1) q1
theorem c_im_leaves (hw : WF S) (hn : 0 ≤ sNO S ∧ sNO S ≤ 2) : ∀ (m k : Nat) (i : Int32) (I : Nat → Nat → Int32), ((k + m : Nat) : Int) = sNL S → i.toInt = k → CInv (imA S k) dr tl I J → (∀ I1 : Nat → Nat → Int32, keepM I I1 J J → CInv (imA S (sNL S).toNat) dr tl I1 J → WP ((d + 4), 37, 99, [some (.ref 30), some (.ref 5), some (.int 0), none], [], (xSH L dr tl, I1, J)) Q) → WP ((d + 4), 37, 27, [some (.ref 30), some (.ref 5), some (.int i), none], [], (xSH L dr tl, I, J)) Q := by
  have hL := hw.2.2.1.2.1
  intro m
  induction m with
  | zero =>
    intro k i I hk hi q K
    have hc := q.cb
    have e0 : sNL (imA S k) = sNL S := (osame_A (S := S) k).2 2 (by decide)
    refine w37_27 (Or.inr rfl) hc.2.1 ((s_told hc.2.1).v ((s_size (sp4 hc.2.1) hc.2.2.1.1.2.1).u fun r2 h2 => brz lt_ti (fun z => by omega) (fun _ => K I keepM_refl ?_)))
    rw [show (sNL S).toNat = k by omega]; exact q
  | succ m ih =>
    intro k i I hk hi q K
    have hc := q.cb
    have e0 : sNL (imA S k) = sNL S := (osame_A (S := S) k).2 2 (by decide)
    have e1 : (i + 1).toInt = ((k + 1 : Nat) : Int) := by rw [add1 (by omega) (by omega), hi]; rfl
    have ep := (osame_A (S := S) k).pl k
    have pb := plc_le hw (k : Int)
    have nb := imA_n hw hn.1 k
    refine w37_27 (Or.inr rfl) hc.2.1 ((s_told hc.2.1).v ((s_size (sp4 hc.2.1) hc.2.2.1.1.2.1).u fun r2 h2 => brz lt_ti (fun _ => c_im_places (S := imA S k) (l := k) hi (plc (imA S k) k).toNat 0 0 I (by omega) rfl (by rw [ep]; omega) q fun I1 f1 q1 => ih (k + 1) _ I1 (by omega) e1 ?_ fun I2 f2 q2 => K I2 (f1.tr f2) q2) (fun z => by omega)))
    rw [ep] at q1; exact q1
theorem seat_b (hw : WF S) {r : Nat} (hr : (r : Int) < sNR S) : -1 ≤ S 19 r ∧ S 19 r < 8 ∧ 0 ≤ S 20 r ∧ S 20 r < 64 := by
  rcases hw.2.2.2.2.2.2.2.2.1 r hr with h | h
  · omega
  · have := isP_b hw h; omega
theorem CInv.tape5 (q : CInv S dr tl I J) : tapeAt 5 (sNO S) (S 24) I := ⟨q.2.2.2.2.2.2.2.2.1.1, q.1.2.2.2.2.2.2.2.2.2.2.1.2.1, fun j hj => ⟨q.2.2.2.2.2.2.2.2.1.2 j hj, q.1.2.2.2.2.2.2.2.2.2.2.1.2.2 j hj⟩⟩
theorem c_im_readers (hN : sNR S ≤ 4) (hb : 0 ≤ sNO S ∧ sNO S ≤ 1538) : ∀ (m k : Nat) (i : Int32) (I : Nat → Nat → Int32), ((k + m : Nat) : Int) = sNR S → i.toInt = k → CInv (imR S k) dr tl I J → (∀ I1 : Nat → Nat → Int32, keepM I I1 J J → CInv (opush (imR S (sNR S).toNat) (ckS (imR S (sNR S).toNat 24) (sNO (imR S (sNR S).toNat)).toNat)) dr tl I1 J → Q none (xSH L dr tl, I1, J)) → WP ((d + 4), 37, 99, [some (.ref 30), some (.ref 5), some (.int i), none], [], (xSH L dr tl, I, J)) Q := by
  intro m
  induction m with
  | zero =>
    intro k i I hk hi q K
    have hc := q.cb
    have e0 : sNR (imR S k) = sNR S := (osame_R (S := S) k).2 3 (by decide)
    have nb := imR_n (S := S) k
    refine w37_99 (Or.inr rfl) hc.2.1 ((s_told hc.2.1).v ((s_size (sp7 hc.2.1) hc.2.2.1.1.2.2.1).u fun r2 h2 => brz lt_ti (fun z => by omega) (fun _ => w116_0 (Or.inr rfl) ⟨_, _, _, rfl, rfl, ?_⟩)))
    have h51 := q.tape5.1
    refine (s_check (Or.inr rfl) q.tape5 (by omega) (by omega)).u fun r5 h5 => s_lay (v := ckS (imR S k 24) (sNO (imR S k)).toNat) q (by omega) (by rw [h5]; exact ckS_b.1) ?_ fun I6 f6 q6 => K I6 f6 ?_
    · rw [h5, h51]; have := ckS_b (f := imR S k 24) (n := (sNO (imR S k)).toNat); omega
    · rw [show (sNR S).toNat = k by omega]; exact q6
  | succ m ih =>
    intro k i I hk hi q K
    have hc := q.cb
    have e0 : sNR (imR S k) = sNR S := (osame_R (S := S) k).2 3 (by decide)
    have nb := imR_n (S := S) k
    have e1 : (i + 1).toInt = ((k + 1 : Nat) : Int) := by rw [add1 (by omega) (by omega), hi]; rfl
    have sb := seat_b hc.1 (r := k) (by omega)
    have hrd : ∀ {U : aS}, osame U (imR S k) → isRd U i.toInt := fun {U} h => by
      have := h.2 3 (by decide)
      refine ⟨by omega, ?_⟩
      show i.toInt < U 0 3
      rw [this, hi]
      show (k : Int) < sNR (imR S k)
      omega
    refine w37_99 (Or.inr rfl) hc.2.1 ((s_told hc.2.1).v ((s_size (sp7 hc.2.1) hc.2.2.1.1.2.2.1).u fun r2 h2 => brz lt_ti (fun _ => (s_seatLeaf hc).u fun r7 h7 => ?_) (fun z => by omega)))
    rw [if_pos (hrd osame_refl), hi, Int.toNat_natCast] at h7
    have e7 : (r7 + 1).toInt = imR S k 19 k + 1 := by rw [add_ti (by show _ ≤ r7.toInt + 1; omega) (by show r7.toInt + 1 < _; omega), h7]; rfl
    refine s_lay (v := imR S k 19 k + 1) q (by omega) (by omega) (by omega) fun I8 f8 q8 => (s_seatPlace q8.cb).u fun r9 h9 => ?_
    rw [if_pos (hrd osame_p), hi, Int.toNat_natCast] at h9
    have h9' : r9.toInt = imR S k 20 k := h9
    exact s_lay (v := imR S k 20 k) q8 (by rw [op_n]; omega) (by omega) (by omega) fun I10 f10 q10 => ih (k + 1) _ I10 (by omega) e1 q10 fun I1 f1 q1 => K I1 ((f8.tr f10).tr f1) q1
theorem WF.o0 (h : WF S) : WF (sset S 0 12 0) := by
  obtain ⟨g1, g2, g3, g4, g5, g6, g7, g8, g9, g10, g11, g12, g13⟩ := h
  exact ⟨g1, g2, g3, g4, g5, g6, g7, g8, g9, g10, ⟨(by decide : (0 : Int) ≤ 0), (by decide : (0 : Int) ≤ 1600), fun j hj => by have hj' : (j : Int) < 0 := hj; omega⟩, g12, g13⟩
theorem CInv.o0 (h : CInv S dr tl I J) : CInv (sset S 0 12 0) dr tl (xwI I 5 1 0) J := by
  obtain ⟨g1, g2, g3, g4, g5, g6, g7, g8, g9, g10, g11, g12⟩ := h
  have g9' : CIp (sset S 0 12 0) (xwI I 5 1 0) := ⟨rfl, fun j hj => by have hj' : (j : Int) < 0 := hj; omega⟩
  rcases g3 with ⟨rfl, rfl⟩ | ⟨rfl, rfl⟩
  · exact ⟨g1.o0, g2, Or.inl ⟨rfl, rfl⟩, g4, g5, g6, g7, g8, g9', g10, g11, g12⟩
  · exact ⟨g1.o0, g2, Or.inr ⟨rfl, rfl⟩, g4, g5, g6, g7, g8, g9', g10, g11, g12⟩
theorem MInv.o0 (h : MInv S I J) : MInv (sset S 0 12 0) (xwI I 71 82 0) J := by
  obtain ⟨g1, g2, g3, g4, g5, g6, g7, g8, g9, g10⟩ := h
  have g7' : MIp (sset S 0 12 0) (xwI I 71 82 0) := ⟨rfl, fun j hj => by have hj' : (j : Int) < 0 := hj; omega⟩
  exact ⟨g1.o0, g2, g3, g4, g5, g6, g7', g8, g9, wordsAt_I g10 (by decide)⟩
theorem im0_n : sNO (im0 S) = 2 := by
  unfold im0; rw [op_n, op_n]
  show sset S 0 12 0 0 12 + 1 + 1 = 2
  rw [sg]; rfl
theorem osame_i : osame (im0 S) S := (osame_p.tr osame_p).tr osame_0
theorem c_image (q : CInv S dr tl I J) : WP ((d + 5), 192, 0, [some (.ref 2)], [], (xSH L dr tl, I, J)) (fun v M => ∃ (r : Int32) (I1 : Nat → Nat → Int32) (J1 : Nat → Nat → Int64), v = some (.int r) ∧ r.toInt = sNO (imS S) ∧ M = (xSH L dr tl, I1, J1) ∧ keepM I I1 J J1 ∧ CInv (imS S) dr tl I1 J1) := by
  have hb := q.1.2.2.2.2.2.2.1
  have h51 : (I 5 1).toInt = sNO S := q.tape5.1
  have t0 := q.1.2.2.2.2.2.2.2.2.2.2.1.1
  have hN := q.1.2.2.2.1
  have hLn := q.1.2.2.1
  refine w192_0 (w37_0 (Or.inr rfl) (w115_0 (Or.inr rfl) (brz lt0 (fun z => absurd z (by decide)) (fun _ => brz lt_ti (fun z => ?_) (fun _ => ⟨1, _, J, rfl, rfl, ?_⟩)))))
  · have z' : (I 5 1).toInt < 0 := z
    omega
  · have q0 := q.o0
    refine (s_hour q0.cb.2.2.2).u fun r2 h2 => s_lay (v := sHr S / 256) q0 (by show sset S 0 12 0 0 12 < 1600; rw [sg]; decide) (by rw [shr8, h2]; show 0 ≤ sHr S / 256; omega) (by rw [shr8, h2]; show sHr S / 256 % 256 = _; omega) fun I3 f3 q3 => (s_hour q3.cb.2.2.2).u fun r4 h4 => s_lay (v := sHr S % 256) q3 (by rw [op_n]; show sset S 0 12 0 0 12 + 1 < 1600; rw [sg]; decide) (by rw [h4]; show 0 ≤ sHr S; omega) (by rw [h4]; rfl) fun I5 f5 q5 => ?_
    have q5' : CInv (im0 S) dr tl I5 J := q5
    have sm := osame_i (S := S)
    have hw5 := q5'.1
    have l5 : sNL (im0 S) = sNL S := sm.2 2 (by decide)
    have n5 : sNR (im0 S) = sNR S := sm.2 3 (by decide)
    refine c_im_leaves hw5 (by rw [im0_n]; decide) (sNL S).toNat 0 0 I5 (by rw [l5]; omega) rfl q5' fun I6 f6 q6 => ?_
    rw [l5] at q6
    have sA := osame_A (S := im0 S) (sNL S).toNat
    have n6 : sNR (imA (im0 S) (sNL S).toNat) = sNR S := (sA.2 3 (by decide)).trans n5
    have b6 := imA_n hw5 (by rw [im0_n]; decide) (sNL S).toNat
    rw [im0_n] at b6
    refine c_im_readers (S := imA (im0 S) (sNL S).toNat) (by omega) (by omega) (sNR S).toNat 0 0 I6 (by omega) rfl q6 fun I7 f7 q7 => ⟨_, _, rfl, rfl, w116_0 (Or.inr rfl) ⟨_, _, _, rfl, rfl, _, I7, J, rfl, ?_, rfl, (((keepM_I (by decide)).tr f3).tr f5).tr (f6.tr f7), ?_⟩⟩
    · rw [n6] at q7
      exact q7.tape5.1
    · rw [n6] at q7
      exact q7
end IMAGE2
