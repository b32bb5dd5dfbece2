/-! ===== the reference's rules: the eyes of a sign ===== -/
theorem Call.rw {L d cx cm : Nat} {ax am : List Value} {S : aS} (h : RW S → Call L d cx cm ax am S) : Call L d cx cm ax am S := fun dr tl I J h1 h2 => h h1.2.1 dr tl I J h1 h2
section RULEM2
variable {S : aS} {L d dr tl : Nat} {I : Nat → Nat → Int32} {J : Nat → Nat → Int64} {a0 a1 a2 a3 a4 a5 : Int32} {g : Nat → Int} {Q : Option Value → xMem → Prop}
theorem told_loop {b : Bool} (h2 : a2.toInt ≤ S 13 (2 * sNU S).toNat) (h16 : a2.toInt ≤ 1600) (hg : ∀ k : Nat, k < 4 → mill (g k)) : ∀ (m k : Nat) (i : Int32) (I : Nat → Nat → Int32) (J : Nat → Nat → Int64) (ts : List Bool) (st : List Int), tyRun (S 14) k m ts = some [b] → i.toInt = k → ((k + m : Nat) : Int) = a2.toInt → okS ts st → st.length ≤ 64 → MS I J st → RuM S I → GivM g I → (∀ (x : Int64) (I1 : Nat → Nat → Int32) (J1 : Nat → Nat → Int64), evR g (S 14) k m st = [x.toInt] → frM I I1 J J1 → Q (some (.long x)) (xSH L dr tl, I1, J1)) → WP ((d + 3), 244, 7, [some (.ref 71), none, some (.int a2), some (.int i), none], [], (xSH L dr tl, I, J)) Q := by
  intro m
  induction m with
  | zero =>
    intro k i I J ts st ht hi hk hs hl hc hR hG K
    have hts : ts = [b] := by rw [tyRun] at ht; exact Option.some.inj ht
    subst hts
    obtain ⟨v, w, rfl, k1, k2⟩ := okS_c hs
    have hw : w = [] := by
      cases w with
      | nil => rfl
      | cons _ _ => exact absurd k2 id
    subst hw
    refine w244_7 (brz lt_ti (fun z => by omega) (fun _ => K _ I J ?_ frM_refl))
    rw [evR]
    exact congrArg (fun z => [z]) hc.2.1.symm
  | succ m ih =>
    intro k i I J ts st ht hi hk hs hl hc hR hG K
    have ei : (i + 1).toInt = ((k + 1 : Nat) : Int) := by rw [add1 (by omega) (by omega), hi]; rfl
    have e6 : (1600 + i).toInt = ((1600 + k : Nat) : Int) := by rw [add_ti (by show _ ≤ 1600 + i.toInt; omega) (by show 1600 + i.toInt < _; omega)]; show 1600 + i.toInt = _; omega
    have xi : xIx (1600 + i) = 1600 + k := by rw [xIx_ti, e6]; exact Int.toNat_natCast _
    have ec : (I 103 (1600 + k)).toInt = S 14 k := hR.2.2 k (by omega)
    rw [tyRun] at ht
    split at ht
    · exact absurd ht (by simp)
    · rename_i ts' et
      split at ht
      · rename_i hl'
        have hs' := ev_ok hg et hs
        have hlen := okS_len hs
        have hl'' : (ev g (S 14 k) st).length ≤ 64 := by rw [okS_len hs']; exact hl'
        refine w244_7 (brz lt_ti (fun _ => ⟨by rw [xin_iff, e6]; omega, ?_⟩) (fun z => by omega))
        rw [xi]
        have go : ∀ (I1 : Nat → Nat → Int32) (J1 : Nat → Nat → Int64), frM I I1 J J1 → MS I1 J1 (ev g (S 14 k) st) → WP ((d + 3), 244, 7, [some (.ref 71), none, some (.int a2), some (.int (i + 1)), none], [], (xSH L dr tl, I1, J1)) Q := fun I1 J1 f1 m1 => ih (k + 1) _ I1 J1 ts' _ ht ei (by omega) hs' hl'' m1 (f1.ru hR) (f1.gi hG) fun x I2 J2 e2 f2 => K x I2 J2 (by rw [evR]; exact e2) (f1.tr f2)
        have bin : ∀ {y x : Int} {st' : List Int}, st = y :: x :: st' → (1 ≤ S 14 k ∧ S 14 k ≤ 6) ∨ (11 ≤ S 14 k ∧ S 14 k ≤ 15) → mill x → mill y → (S 14 k = 14 ∨ S 14 k = 15 → (x = 0 ∨ x = 1) ∧ (y = 0 ∨ y = 1)) → (((I 103 (1600 + k)) < 1000 → (((I 103 (1600 + k)) = 17 → WP ((d + 2), 242, 0, [some (.ref 71), some (.long 1), none], [], (xSH L dr tl, I, J)) (fun v M => ∃ (I9 : Nat → Nat → Int32) (J9 : Nat → Nat → Int64), v = none ∧ M = (xSH L dr tl, I9, J9) ∧ WP ((d + 3), 244, 7, [some (.ref 71), none, some (.int a2), some (.int (i + 1)), none], [], (xSH L dr tl, I9, J9)) Q)) ∧ (¬ (I 103 (1600 + k)) = 17 → (((I 103 (1600 + k)) = 16 → (xin ((I 71 53) - 1) 1700 = true ∧ (xin ((I 71 53) - 1) 1700 = true ∧ WP ((d + 3), 244, 7, [some (.ref 71), none, some (.int a2), some (.int (i + 1)), none], [], (xSH L dr tl, I, (xwJ J 108 (xIx ((I 71 53) - 1)) (1 - (J 108 (xIx ((I 71 53) - 1))))))) Q))) ∧ (¬ (I 103 (1600 + k)) = 16 → WP ((d + 2), 196, 0, [some (.long (Int32.toInt64 (I 103 (1600 + k)))), none, some (.long 7), none, some (.long 10), none], [], (xSH L dr tl, I, J)) (fun v M => ∃ (r5 : Int32) (I5 : Nat → Nat → Int32) (J5 : Nat → Nat → Int64), v = some (.int r5) ∧ M = (xSH L dr tl, I5, J5) ∧ ((r5 = 0 → WP ((d + 2), 243, 0, [some (.ref 71), some (.int (I 103 (1600 + k))), none, none, none, none], [], (xSH L dr tl, I5, J5)) (fun v M => ∃ (I7 : Nat → Nat → Int32) (J7 : Nat → Nat → Int64), v = none ∧ M = (xSH L dr tl, I7, J7) ∧ WP ((d + 3), 244, 7, [some (.ref 71), none, some (.int a2), some (.int (i + 1)), none], [], (xSH L dr tl, I7, J7)) Q)) ∧ (¬ r5 = 0 → (xin ((I 103 (1600 + k)) - 7) 4 = true ∧ WP ((d + 2), 242, 0, [some (.ref 71), some (.long (Int32.toInt64 (I5 109 (xIx ((I 103 (1600 + k)) - 7))))), none], [], (xSH L dr tl, I5, J5)) (fun v M => ∃ (I8 : Nat → Nat → Int32) (J8 : Nat → Nat → Int64), v = none ∧ M = (xSH L dr tl, I8, J8) ∧ WP ((d + 3), 244, 7, [some (.ref 71), none, some (.int a2), some (.int (i + 1)), none], [], (xSH L dr tl, I8, J8)) Q)))))))))) ∧ (¬ (I 103 (1600 + k)) < 1000 → WP ((d + 2), 242, 0, [some (.ref 71), some (.long (Int32.toInt64 ((I 103 (1600 + k)) - 1000))), none], [], (xSH L dr tl, I, J)) (fun v M => ∃ (I10 : Nat → Nat → Int32) (J10 : Nat → Nat → Int64), v = none ∧ M = (xSH L dr tl, I10, J10) ∧ WP ((d + 3), 244, 7, [some (.ref 71), none, some (.int a2), some (.int (i + 1)), none], [], (xSH L dr tl, I10, J10)) Q))) := by
          intro y x st' est hcc hx hy h01
          subst est
          refine hit (lt_ti.mpr (by rw [ec]; show _ < (1000 : Int); omega)) (sk (fun z => ?_) (sk (fun z => ?_) (m_isIn.u (fun z => ?_) (fun _ => br0 (m_joins hc (by simp only [List.length_cons] at hl; omega) hx hy hcc h01 ec go)))))
          · have z' := eq_ti.mp z; rw [ec] at z'; have z2 : S 14 k = 17 := z'; omega
          · have z' := eq_ti.mp z; rw [ec] at z'; have z2 : S 14 k = 16 := z'; omega
          · rw [t64, ec] at z; have z1 : (7 : Int) ≤ S 14 k := z.1; have z2 : S 14 k ≤ (10 : Int) := z.2; omega
        rcases tyOp_k et with ⟨h1, h2, rfl⟩ | ⟨h1, h2, rfl⟩ | ⟨h1, rfl⟩ | ⟨h1, w, rfl, rfl⟩ | ⟨h1, h2, w, rfl, rfl⟩ | ⟨h1, h2, w, rfl, rfl⟩ | ⟨h1, w, rfl, rfl⟩
        · refine sk (fun z => ?_) (m_puts hc (by simp only [List.length_cons] at hl'; omega) (v := S 14 k - 1000) ?_ fun I1 J1 f1 m1 => go I1 J1 f1 (by rw [ev_num h1]; exact m1))
          · have z' := lt_ti.mp z; rw [ec] at z'; have z2 : S 14 k < 1000 := z'; omega
          · rw [t64, sub_ti (by rw [ec]; show _ ≤ S 14 k - 1000; omega) (by rw [ec]; show S 14 k - 1000 < _; omega), ec]; rfl
        · have hk4 : (I 103 (1600 + k) - 7).toInt = S 14 k - 7 := by rw [sub_ti (by rw [ec]; show _ ≤ S 14 k - 7; omega) (by rw [ec]; show S 14 k - 7 < _; omega), ec]; rfl
          refine hit (lt_ti.mpr (by rw [ec]; show _ < (1000 : Int); omega)) (sk (fun z => ?_) (sk (fun z => ?_) (m_isIn.u (fun z => br1 ⟨by rw [xin_iff, hk4]; omega, m_puts hc (by simp only [List.length_cons] at hl'; omega) (v := g (S 14 k - 7).toNat) ?_ fun I1 J1 f1 m1 => go I1 J1 f1 (by rw [ev_giv h1 h2]; exact m1)⟩) (fun z => ?_))))
          · have z' := eq_ti.mp z; rw [ec] at z'; have z2 : S 14 k = 17 := z'; omega
          · have z' := eq_ti.mp z; rw [ec] at z'; have z2 : S 14 k = 16 := z'; omega
          · rw [t64, xIx_ti, hk4]; exact hG _ (by omega)
          · exact absurd (show (7 : Int) ≤ _ ∧ _ ≤ (10 : Int) by rw [t64, ec]; exact ⟨h1, h2⟩) z
        · refine hit (lt_ti.mpr (by rw [ec]; show _ < (1000 : Int); omega)) (hit (eq_ti.mpr (by rw [ec]; exact h1)) (m_puts hc (by simp only [List.length_cons] at hl'; omega) rfl fun I1 J1 f1 m1 => go I1 J1 f1 (by rw [h1]; exact m1)))
        · obtain ⟨v, w', rfl, k1, k2⟩ := okS_c hs
          have kb := k1.1.1
          have kb2 := k1.1.2
          have h5 : (I 71 53).toInt = (w'.length : Int) + 1 := by rw [hc.1]; simp [List.length_cons]
          simp only [List.length_cons] at hl
          have e5 : (I 71 53 - 1).toInt = w'.length := by rw [sub1 (by omega), h5]; omega
          have x5 : xIx (I 71 53 - 1) = w'.length := by rw [xIx_ti, e5]; exact Int.toNat_natCast _
          have i5 : xin (I 71 53 - 1) 1700 = true := by rw [xin_iff, e5]; omega
          have j5 : (J 108 w'.length).toInt = v := hc.2.1
          refine hit (lt_ti.mpr (by rw [ec]; show _ < (1000 : Int); omega)) (sk (fun z => ?_) (hit (eq_ti.mpr (by rw [ec]; exact h1)) ⟨i5, i5, go _ _ ⟨fun _ _ => rfl, fun _ _ => rfl, fun a ha => xwJ_ne ha⟩ ?_⟩))
          · have z' := eq_ti.mp z; rw [ec] at z'; have z2 : S 14 k = 17 := z'; omega
          · rw [h1, ev_not, x5]
            refine ⟨by rw [hc.1]; simp [List.length_cons], ?_, ?_⟩
            · show (xwJ J 108 w'.length _ 108 w'.length).toInt = 1 - v
              rw [jg, lsub (by rw [j5]; show _ ≤ 1 - v; omega) (by rw [j5]; show 1 - v < _; omega), j5]; rfl
            · refine stk_eq hc.2.2 (fun j hj => ?_)
              show (xwJ J 108 w'.length _ 108 j).toInt = _
              rw [jgn (by omega)]
        · obtain ⟨v, w', rfl, k1, k2⟩ := okS_c hs
          obtain ⟨v', w'', rfl, k3, k4⟩ := okS_c k2
          exact bin rfl (Or.inl ⟨h1, h2⟩) k3.1 k1.1 (fun z => by omega)
        · obtain ⟨v, w', rfl, k1, k2⟩ := okS_c hs
          obtain ⟨v', w'', rfl, k3, k4⟩ := okS_c k2
          exact bin rfl (Or.inr ⟨h1, by omega⟩) k3.1 k1.1 (fun z => by omega)
        · obtain ⟨v, w', rfl, k1, k2⟩ := okS_c hs
          obtain ⟨v', w'', rfl, k3, k4⟩ := okS_c k2
          exact bin rfl (Or.inr (by omega)) k3.1 k1.1 (fun _ => ⟨k3.2 rfl, k1.2 rfl⟩)
      · exact absurd ht (by simp)
theorem m_told {j : Nat} {b : Bool} (h0 : 0 ≤ S 13 j) (hlo : S 13 j ≤ S 13 (j + 1)) (hhi : S 13 (j + 1) ≤ S 13 (2 * sNU S).toNat) (h16 : S 13 (j + 1) ≤ 1600) (e1 : a1.toInt = S 13 j) (e2 : a2.toInt = S 13 (j + 1)) (hg : ∀ k : Nat, k < 4 → mill (g k)) (ht : tyRun (S 14) (S 13 j).toNat (S 13 (j + 1) - S 13 j).toNat [] = some [b]) (hR : RuM S I) (hG : GivM g I) (K : ∀ (x : Int64) (I1 : Nat → Nat → Int32) (J1 : Nat → Nat → Int64), evR g (S 14) (S 13 j).toNat (S 13 (j + 1) - S 13 j).toNat [] = [x.toInt] → frM I I1 J J1 → Q (some (.long x)) (xSH L dr tl, I1, J1)) : WP ((d + 3), 244, 0, [some (.ref 71), some (.int a1), some (.int a2), none, none], [], (xSH L dr tl, I, J)) Q := by
  have f0 : frM I (xwI I 71 53 0) J J := ⟨fun a h1 => xwI_ne h1, fun k hk => xgn hk, fun _ _ => rfl⟩
  refine w244_0 (told_loop (by omega) (by omega) hg _ _ _ _ _ [] [] ht (by omega) (by omega) trivial (by decide) ⟨?_, trivial⟩ (f0.ru hR) (f0.gi hG) (fun x I1 J1 e f => K x I1 J1 e (f0.tr f)))
  rw [xg]; rfl
theorem m_eyes_loop (hRW : RW S) (hN : 0 ≤ sNU S ∧ sNU S ≤ 8) (hg : ∀ k : Nat, k < 4 → mill (g k)) : ∀ (m u : Nat) (i : Int32) (I : Nat → Nat → Int32) (J : Nat → Nat → Int64), ((u + m : Nat) : Int) = sNU S → i.toInt = 8 + u → RuM S I → GivM g I → (∀ (x : Int32) (I1 : Nat → Nat → Int32) (J1 : Nat → Nat → Int64), x.toInt = eyF S g a5.toInt m u → frM I I1 J J1 → Q (some (.int x)) (xSH L dr tl, I1, J1)) → WP ((d + 4), 245, 45, [some (.ref 71), none, none, none, none, some (.int a5), some (.int i), none, none], [], (xSH L dr tl, I, J)) Q := by
  intro m
  induction m with
  | zero =>
    intro u i I J hu hi hR hG K
    have e9 : (8 + I 93 9).toInt = 8 + sNU S := by rw [add_ti (by rw [hR.1]; show _ ≤ 8 + sNU S; omega) (by rw [hR.1]; show 8 + sNU S < _; omega), hR.1]; rfl
    exact w245_45 (brz lt_ti (fun z => by omega) (fun _ => K a5 I J rfl frM_refl))
  | succ m ih =>
    intro u i I J hu hi hR hG K
    have e9 : (8 + I 93 9).toInt = 8 + sNU S := by rw [add_ti (by rw [hR.1]; show _ ≤ 8 + sNU S; omega) (by rw [hR.1]; show 8 + sNU S < _; omega), hR.1]; rfl
    obtain ⟨r0, r1, r2, r3, r4, r5⟩ := hRW.2 u (by omega)
    have hh := RW_hi hRW (u := u) (by omega)
    have e1 : (i + 1).toInt = 8 + ((u + 1 : Nat) : Int) := by rw [add1 (by omega) (by omega), hi]; omega
    have xi : xIx i = 8 + u := by rw [xIx_ti, hi]; omega
    have ii : xin i 16 = true := by rw [xin_iff, hi]; omega
    obtain ⟨g1, g2, g3⟩ := hR.2.1 u (by omega)
    refine w245_45 (brz lt_ti (fun _ => ⟨ii, ii, ?_⟩) (fun z => by omega))
    rw [xi]
    refine m_told (j := 2 * u + 1) (by omega) r2 hh r3 g2 g3 hg r5 hR hG fun x I1 J1 ex f1 => ⟨x, I1, J1, rfl, rfl, ?_⟩
    have et : tstV S g u = x.toInt := by unfold tstV; rw [ex]; rfl
    have eb := evR_ok hg _ _ [] [true] [] r5 trivial
    rw [ex] at eb
    have x01 : x.toInt = 0 ∨ x.toInt = 1 := eb.1.2 rfl
    refine brz xlc_eq (fun z => ⟨ii, ii, ?_⟩) (fun z => ih (u + 1) _ I1 J1 (by omega) e1 (f1.ru hR) (f1.gi hG) fun x2 I2 J2 ex2 f2 => K x2 I2 J2 ?_ (f1.tr f2))
    · have z' : x.toInt = 1 := z
      have nz : ¬ tstV S g u = 0 := by omega
      obtain ⟨k1, k2, k3⟩ := (f1.ru hR).2.1 u (by omega)
      refine m_told (j := 2 * u) r0 r1 (by omega) (by omega) k1 k2 hg r4 (f1.ru hR) (f1.gi hG) fun x2 I2 J2 ex2 f2 => ⟨x2, I2, J2, rfl, rfl, ?_⟩
      have es : sumV S g u = x2.toInt := by unfold sumV; rw [ex2]; rfl
      have eb2 := evR_ok hg _ _ [] [false] [] r4 trivial
      rw [ex2] at eb2
      have mb : mill x2.toInt := eb2.1.1
      refine brz xlc_lt (fun y => K _ I2 J2 ?_ (f1.tr f2)) (fun y => brz xlc_gt (fun w => K _ I2 J2 ?_ (f1.tr f2)) (fun w => K _ I2 J2 ?_ (f1.tr f2)))
      · have y' : x2.toInt < (0 : Int) := y
        rw [eyF_y nz, es]
        show (0 : Int) = _
        omega
      · have w' : (99 : Int) < x2.toInt := w
        rw [eyF_y nz, es]
        show (99 : Int) = _
        omega
      · have y' : ¬ x2.toInt < (0 : Int) := y
        have w' : ¬ (99 : Int) < x2.toInt := w
        rw [eyF_y nz, es, l32 (by omega) (by omega)]
        omega
    · have z' : ¬ x.toInt = 1 := z
      rw [eyF_n (by omega)]; exact ex2
theorem MInv.scr {I1 : Nat → Nat → Int32} {J1 : Nat → Nat → Int64} (q : MInv S I J) (h : ∀ a : Nat, a ≠ 71 → a ≠ 109 → I1 a = I a) (h1 : ∀ j : Nat, j ≠ 53 → I1 71 j = I 71 j) (hJ : ∀ a : Nat, a ≠ 108 → J1 a = J a) : MInv S I1 J1 := by
  obtain ⟨g1, g2, g3, g4, g5, g6, g7, g8, g9, g10⟩ := q
  refine ⟨g1, ?_, ?_, ?_, ?_, ?_, ?_, ?_, ?_, ?_⟩
  · unfold MIb at *; rw [h 93 (by decide) (by decide), h 95 (by decide) (by decide), h 96 (by decide) (by decide), h 99 (by decide) (by decide), h 100 (by decide) (by decide), h 101 (by decide) (by decide), h 102 (by decide) (by decide), h 103 (by decide) (by decide), h 105 (by decide) (by decide), h 106 (by decide) (by decide), h 107 (by decide) (by decide)]; exact g2
  · unfold MIn at *; rw [hJ 94 (by decide)]; exact g3
  · unfold MIw at *; rw [h1 55 (by decide), h 110 (by decide) (by decide), h 111 (by decide) (by decide), h 112 (by decide) (by decide), h 113 (by decide) (by decide), h 114 (by decide) (by decide), h 115 (by decide) (by decide)]; exact g4
  · unfold MIc at *; rw [h1 65 (by decide), h1 66 (by decide), h 116 (by decide) (by decide), h 117 (by decide) (by decide), h 118 (by decide) (by decide)]; exact g5
  · unfold MIt at *; rw [h1 1 (by decide), h 72 (by decide) (by decide)]; exact g6
  · unfold MIp at *; rw [h1 82 (by decide), h 130 (by decide) (by decide)]; exact g7
  · unfold MIf at *; rw [h1 7 (by decide), h1 8 (by decide)]; exact g8
  · rw [hJ 71 (by decide)]; exact g9
  · intro a w hm k hk
    have ha : 73 ≤ a ∧ a ≤ 91 := by
      simp only [List.mem_cons, Prod.mk.injEq, List.not_mem_nil, or_false] at hm
      omega
    rw [h a (by omega) (by omega)]
    exact g10 a w hm k hk
theorem m_eyesFor {R : Int32 → (Nat → Nat → Int32) → (Nat → Nat → Int64) → Prop} (q : MInv S I J) (hRW : RW S) (m1 : mill a1.toInt) (m2 : mill a2.toInt) (m3 : mill a3.toInt) (h4 : 0 ≤ a4.toInt ∧ a4.toInt < sNI S) (K : ∀ (x : Int32) (I1 : Nat → Nat → Int32) (J1 : Nat → Nat → Int64), x.toInt = eyesV S a1.toInt a2.toInt a3.toInt (S 2 a4.toInt.toNat) → keepC I I1 J J1 → MInv S I1 J1 → R x I1 J1) : WP ((d + 4), 245, 0, [some (.ref 71), some (.int a1), some (.int a2), some (.int a3), some (.int a4), none, none, none, none], [], (xSH L dr tl, I, J)) (fun v M => ∃ (r1 : Int32) (I1 : Nat → Nat → Int32) (J1 : Nat → Nat → Int64), v = some (.int r1) ∧ M = (xSH L dr tl, I1, J1) ∧ R r1 I1 J1) := by
  have hN := q.1.2.2.2.2.2.2.2.2.2.2.2.2
  have hI := q.1.2.1
  have e6 : (6 + a4).toInt = 6 + a4.toInt := by rw [add_ti (by show _ ≤ 6 + a4.toInt; omega) (by show 6 + a4.toInt < _; omega)]; rfl
  have x6 : xIx (6 + a4) = 6 + a4.toInt.toNat := by rw [xIx_ti, e6]; omega
  have ek := q.2.1.2.1 a4.toInt.toNat (by omega)
  have eb := hI.2.2 a4.toInt.toNat (by omega)
  refine w245_0 ⟨by rw [xin_iff, e6]; omega, ?_⟩
  rw [x6]
  refine m_eyes_loop (g := givS a2.toInt a1.toInt a3.toInt (S 2 a4.toInt.toNat)) hRW hN (giv_m m2 m1 m3 ⟨by omega, by omega⟩) (sNU S).toNat 0 8 _ _ (by omega) rfl ⟨?_, ?_, ?_⟩ ?_ fun x I1 J1 e f => ⟨x, I1, J1, rfl, rfl, K x I1 J1 ?_ (fun a ha => ⟨?_, ?_⟩) (q.scr (fun a h1 h2 => ?_) (fun j hj => ?_) (fun a ha => f.2.2 a ha))⟩
  · exact q.2.1.1.2.2.2.2.1
  · exact q.2.1.2.2.2.2.2.1
  · exact q.2.1.2.2.2.2.2.2
  · intro k hk
    have : k = 0 ∨ k = 1 ∨ k = 2 ∨ k = 3 := by omega
    rcases this with rfl | rfl | rfl | rfl
    · rfl
    · rfl
    · rfl
    · exact ek
  · rw [e]; unfold eyesV; rw [ek]
  · rw [f.1 a (by omega), xwI_ne (by omega), xwI_ne (by omega), xwI_ne (by omega), xwI_ne (by omega)]
  · exact f.2.2 a (by omega)
  · rw [f.1 a h1, xwI_ne h2, xwI_ne h2, xwI_ne h2, xwI_ne h2]
  · rw [f.2.1 j hj, xwI_ne (by decide), xwI_ne (by decide), xwI_ne (by decide), xwI_ne (by decide)]
end RULEM2
