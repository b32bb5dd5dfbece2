/-! ===== image: the reference ===== -/
section IMAGE3
variable {S T : aS} {L d dr tl t : Nat} {I : Nat → Nat → Int32} {J : Nat → Nat → Int64} {a1 a2 a3 a4 a5 x : Int32} {f : Nat → Int} {n0 : Int} {Q : Option Value → xMem → Prop}
theorem m_im_places {l : Nat} (el : a1.toInt = l) : ∀ (m k : Nat) (i : Int32) (I : Nat → Nat → Int32), ((k + m : Nat) : Int) = plc S l → i.toInt = k → sNO S + 3 * plc S l < 1600 → isL S l → MInv (imL S l k) I J → (∀ I1 : Nat → Nat → Int32, keepC I I1 J J → MInv (imL S l (plc S l).toNat) I1 J → WP ((d + 4), 312, 31, [some (.ref 71), some (.int (a1 + 1)), none], [], (xSH L dr tl, I1, J)) Q) → WP ((d + 4), 312, 41, [some (.ref 71), some (.int a1), some (.int i)], [], (xSH L dr tl, I, J)) Q := by
  intro m
  induction m with
  | zero =>
    intro k i I hk hi hb hl q K
    have ep := (osame_L (S := S) (l := l) k).pl l
    have e5 : imL S l k 5 = S 5 := (osame_L (S := S) (l := l) k).1 5 (by decide) (by decide)
    have hl' : isL (imL S l k) a1.toInt := by rw [el]; refine ⟨hl.1, ?_⟩; show (l : Int) < imL S l k 0 2; rw [(osame_L (S := S) (l := l) k).2 2 (by decide)]; exact hl.2
    refine w312_41 ((m_length q.1 q.2.1 hl').u fun r1 h1 => ?_)
    have h1' : r1.toInt = plc S l := by rw [h1, el, Int.toNat_natCast, e5]; unfold plc; rw [if_pos hl]; rfl
    refine brz lt_ti (fun z => by omega) (fun _ => K I keepC_refl ?_)
    rw [show (plc S l).toNat = k by omega]; exact q
  | succ m ih =>
    intro k i I hk hi hb hl q K
    have ep := (osame_L (S := S) (l := l) k).pl l
    have e5 : imL S l k 5 = S 5 := (osame_L (S := S) (l := l) k).1 5 (by decide) (by decide)
    have hl' : isL (imL S l k) a1.toInt := by rw [el]; refine ⟨hl.1, ?_⟩; show (l : Int) < imL S l k 0 2; rw [(osame_L (S := S) (l := l) k).2 2 (by decide)]; exact hl.2
    have hpl := plc_le q.1 (l : Int)
    have e1 : (i + 1).toInt = ((k + 1 : Nat) : Int) := by rw [add1 (by omega) (by omega), hi]; rfl
    have hn := imL_n (S := S) (l := l) k
    have hP : isP (imL S l k) a1.toInt i.toInt := by rw [el, hi]; exact plc_lt (by omega)
    obtain ⟨s1, s2, s3⟩ := slot_m q.1 hP
    have es : slot a1.toInt i.toInt = slot l k := by rw [el, hi]
    rw [es] at s2
    have hPl : ∀ {U : aS}, osame U (imL S l k) → isP U l k := fun {U} h => plc_lt (by rw [h.pl]; omega)
    have sb := sign_b q.1 (hPl osame_refl)
    refine w312_41 ((m_length q.1 q.2.1 hl').u fun r1 h1 => ?_)
    have h1' : r1.toInt = plc S l := by rw [h1, el, Int.toNat_natCast, e5]; unfold plc; rw [if_pos hl]; rfl
    rw [s2]
    have k4 := (q.2.2.2.1.2.1 _ _ (hPl osame_refl)).1
    refine brz lt_ti (fun _ => ⟨s3, m_lay (v := imL S l k 15 (slot l k)) q (by omega) (by omega) k4 fun I3 f3 q3 => ⟨s3, ?_⟩⟩) (fun z => by omega)
    have k5 : (I3 111 (slot l k)).toInt = imL S l k 16 (slot l k) := (q3.2.2.2.1.2.1 _ _ (hPl osame_p)).2.1
    refine m_lay (v := imL S l k 16 (slot l k)) q3 (by rw [op_n]; omega) (by omega) k5 fun I4 f4 q4 => ⟨s3, ?_⟩
    have k6 : (I4 113 (slot l k)).toInt = imL S l k 18 (slot l k) := (q4.2.2.2.1.2.1 _ _ (hPl (osame_p.tr osame_p))).2.2.2
    exact m_lay (v := imL S l k 18 (slot l k)) q4 (by rw [op_n, op_n]; omega) (by omega) k6 fun I5 f5 q5 => ih (k + 1) _ I5 (by omega) e1 hb hl q5 fun I1 f1 q1 => K I1 (((f3.tr f4).tr f5).tr f1) q1
theorem m_im_leaves (hw : WF S) (hn : 0 ≤ sNO S ∧ sNO S ≤ 2) : ∀ (m k : Nat) (i : Int32) (I : Nat → Nat → Int32), ((k + m : Nat) : Int) = sNL S → i.toInt = k → MInv (imA S k) I J → (∀ I1 : Nat → Nat → Int32, keepC I I1 J J → MInv (imA S (sNL S).toNat) I1 J → WP ((d + 4), 312, 109, [some (.ref 71), some (.int 0), none], [], (xSH L dr tl, I1, J)) Q) → WP ((d + 4), 312, 31, [some (.ref 71), some (.int i), none], [], (xSH L dr tl, I, J)) Q := by
  have hL := hw.2.2.1.2.1
  intro m
  induction m with
  | zero =>
    intro k i I hk hi q K
    have e0 : sNL (imA S k) = sNL S := (osame_A (S := S) k).2 2 (by decide)
    refine w312_31 ((m_leaves q.2.1).u fun r2 h2 => brz lt_ti (fun z => by omega) (fun _ => K I keepC_refl ?_))
    rw [show (sNL S).toNat = k by omega]; exact q
  | succ m ih =>
    intro k i I hk hi q K
    have e0 : sNL (imA S k) = sNL S := (osame_A (S := S) k).2 2 (by decide)
    have e1 : (i + 1).toInt = ((k + 1 : Nat) : Int) := by rw [add1 (by omega) (by omega), hi]; rfl
    have ep := (osame_A (S := S) k).pl k
    have pb := plc_le hw (k : Int)
    have nb := imA_n hw hn.1 k
    refine w312_31 ((m_leaves q.2.1).u fun r2 h2 => brz lt_ti (fun _ => m_im_places (S := imA S k) (l := k) hi (plc (imA S k) k).toNat 0 0 I (by omega) rfl (by rw [ep]; omega) ⟨by omega, by omega⟩ q fun I1 f1 q1 => ih (k + 1) _ I1 (by omega) e1 ?_ fun I2 f2 q2 => K I2 (f1.tr f2) q2) (fun z => by omega))
    rw [ep] at q1; exact q1
theorem MInv.oct (q : MInv S I J) : ∀ j : Nat, (j : Int) < sNO S → (I 130 j).toInt = S 24 j ∧ 0 ≤ S 24 j ∧ S 24 j ≤ 255 := fun j hj => ⟨q.2.2.2.2.2.2.1.2 j hj, q.1.2.2.2.2.2.2.2.2.2.2.1.2.2 j hj⟩
theorem m_im_readers (hN : sNR S ≤ 4) (hb : 0 ≤ sNO S ∧ sNO S ≤ 1538) : ∀ (m k : Nat) (i : Int32) (I : Nat → Nat → Int32), ((k + m : Nat) : Int) = sNR S → i.toInt = k → MInv (imR S k) I J → (∀ (I1 : Nat → Nat → Int32), keepC I I1 J J → MInv (opush (imR S (sNR S).toNat) (ckS (imR S (sNR S).toNat 24) (sNO (imR S (sNR S).toNat)).toNat)) I1 J → Q (some (.int (I1 71 82))) (xSH L dr tl, I1, J)) → WP ((d + 4), 312, 109, [some (.ref 71), some (.int i), none], [], (xSH L dr tl, I, J)) Q := by
  intro m
  induction m with
  | zero =>
    intro k i I hk hi q K
    have e0 : sNR (imR S k) = sNR S := (osame_R (S := S) k).2 3 (by decide)
    have nb := imR_n (S := S) k
    have h82 := q.2.2.2.2.2.2.1.1
    refine w312_109 ((m_people q.2.1).u fun r2 h2 => brz lt_ti (fun z => by omega) (fun _ => (m_check (n0 := sNO (imR S k)) (Or.inr rfl) (by omega) q.oct (by omega) (by omega)).u fun r3 h3 => m_lay (v := ckS (imR S k 24) (sNO (imR S k)).toNat) q (by omega) ?_ ?_ fun I6 f6 q6 => K I6 f6 ?_))
    · rw [h3]; have := ckS_b (f := imR S k 24) (n := (I 71 82).toInt.toNat); omega
    · rw [h3, h82]
    · rw [show (sNR S).toNat = k by omega]; exact q6
  | succ m ih =>
    intro k i I hk hi q K
    have e0 : sNR (imR S k) = sNR S := (osame_R (S := S) k).2 3 (by decide)
    have nb := imR_n (S := S) k
    have e1 : (i + 1).toInt = ((k + 1 : Nat) : Int) := by rw [add1 (by omega) (by omega), hi]; rfl
    have sb := seat_b q.1 (r := k) (by omega)
    have hx : xin i 4 = true := by rw [xin_iff, hi]; omega
    have xi : xIx i = k := by rw [xIx_ti, hi]; exact Int.toNat_natCast _
    have h7 := (q.2.2.2.1.2.2 k (by omega)).1
    have e7 : (I 114 k + 1).toInt = imR S k 19 k + 1 := by rw [add_ti (by show _ ≤ (I 114 k).toInt + 1; omega) (by show (I 114 k).toInt + 1 < _; omega), h7]; rfl
    refine w312_109 ((m_people q.2.1).u fun r2 h2 => brz lt_ti (fun _ => ⟨hx, ?_⟩) (fun z => by omega))
    rw [xi]
    refine m_lay (v := imR S k 19 k + 1) q (by omega) (by omega) e7 fun I5 f5 q5 => ⟨hx, ?_⟩
    obtain ⟨g1, g2⟩ := q5.2.2.2.1.2.2 k (by show (k : Int) < sNR (imR S k); omega)
    have g1' : (I5 114 k).toInt = imR S k 19 k := g1
    refine brz eqm (fun z => m_lay (v := imR S k 20 k) q5 (by rw [op_n]; omega) (by decide) ?_ fun I8 f8 q8 => ih (k + 1) _ I8 (by omega) e1 q8 fun I1 f1 q1 => K I1 ((f5.tr f8).tr f1) q1) (fun z => ⟨hx, m_lay (v := imR S k 20 k) q5 (by rw [op_n]; omega) ?_ ?_ fun I8 f8 q8 => ih (k + 1) _ I8 (by omega) e1 q8 fun I1 f1 q1 => K I1 ((f5.tr f8).tr f1) q1⟩)
    · rcases q.1.2.2.2.2.2.2.2.2.1 k (by omega) with y | y
      · exact y.2.symm
      · have := isP_b q.1 y; omega
    · have g2' : (I5 115 k).toInt = imR S k 20 k := g2 (fun y => z (g1.trans y))
      omega
    · exact g2 (fun y => z (g1.trans y))
theorem m_image (q : MInv S I J) : WP ((d + 4), 312, 0, [some (.ref 71), none, none], [], (xSH L dr tl, I, J)) (fun v M => ∃ (r : Int32) (I1 : Nat → Nat → Int32) (J1 : Nat → Nat → Int64), v = some (.int r) ∧ r.toInt = sNO (imS S) ∧ M = (xSH L dr tl, I1, J1) ∧ keepC I I1 J J1 ∧ MInv (imS S) I1 J1) := by
  have hb := q.1.2.2.2.2.2.2.1
  have hN := q.1.2.2.2.1
  have hLn := q.1.2.2.1
  have q0 := q.o0
  have h55 : (I 71 55).toInt = sHr S := q.2.2.2.1.1
  have d1 : (xwI I 71 82 0 71 55 / 256).toInt = sHr S / 256 := by
    show (I 71 55 / 256).toInt = _
    rw [div_ti (by omega) (by decide), h55]; rfl
  refine w312_0 (m_lay (v := sHr S / 256) q0 (by show sset S 0 12 0 0 12 < 1600; rw [sg]; decide) (by rw [d1]; omega) d1 fun I1 f1 q1 => ?_)
  have h55' : (I1 71 55).toInt = sHr S := q1.2.2.2.1.1
  have d2 : (I1 71 55 - I1 71 55 / 256 * 256).toInt = sHr S % 256 := by rw [rem_ti (by omega) (by decide), h55']; rfl
  refine m_lay (v := sHr S % 256) q1 (by rw [op_n]; show sset S 0 12 0 0 12 + 1 < 1600; rw [sg]; decide) (by rw [d2]; omega) d2 fun I5 f5 q5 => ?_
  have q5' : MInv (im0 S) I5 J := q5
  have sm := osame_i (S := S)
  have hw5 := q5'.1
  have l5 : sNL (im0 S) = sNL S := sm.2 2 (by decide)
  have n5 : sNR (im0 S) = sNR S := sm.2 3 (by decide)
  refine m_im_leaves hw5 (by rw [im0_n]; decide) (sNL S).toNat 0 0 I5 (by rw [l5]; omega) rfl q5' fun I6 f6 q6 => ?_
  rw [l5] at q6
  have sA := osame_A (S := im0 S) (sNL S).toNat
  have n6 : sNR (imA (im0 S) (sNL S).toNat) = sNR S := (sA.2 3 (by decide)).trans n5
  have b6 := imA_n hw5 (by rw [im0_n]; decide) (sNL S).toNat
  rw [im0_n] at b6
  refine m_im_readers (S := imA (im0 S) (sNL S).toNat) (by omega) (by omega) (sNR S).toNat 0 0 I6 (by omega) rfl q6 fun I7 f7 q7 => ⟨_, I7, J, rfl, ?_, rfl, (((keepC_I (by decide)).tr f1).tr f5).tr (f6.tr f7), ?_⟩
  · rw [n6] at q7
    exact q7.2.2.2.2.2.2.1.1
  · rw [n6] at q7
    exact q7
theorem call_image : Call L (d + 5) 192 312 [] [] S := Call.st (imS S) (sNO (imS S)) (fun _ _ _ _ q => c_image q) (fun _ _ _ _ q => m_image q)
end IMAGE3
