/-! ===== the reference's rules ===== -/
def MS (I : Nat → Nat → Int32) (J : Nat → Nat → Int64) (st : List Int) : Prop := (I 71 53).toInt = st.length ∧ stk (fun k => (J 108 k).toInt) st
/-- only the pile and its height are other -/
def frM (I I' : Nat → Nat → Int32) (J J' : Nat → Nat → Int64) : Prop := (∀ a : Nat, a ≠ 71 → I' a = I a) ∧ (∀ j : Nat, j ≠ 53 → I' 71 j = I 71 j) ∧ ∀ a : Nat, a ≠ 108 → J' a = J a
theorem frM.tr {I I1 I2 : Nat → Nat → Int32} {J J1 J2 : Nat → Nat → Int64} (h : frM I I1 J J1) (h' : frM I1 I2 J1 J2) : frM I I2 J J2 := ⟨fun a h1 => (h'.1 a h1).trans (h.1 a h1), fun j hj => (h'.2.1 j hj).trans (h.2.1 j hj), fun a h1 => (h'.2.2 a h1).trans (h.2.2 a h1)⟩
theorem frM_refl {I : Nat → Nat → Int32} {J : Nat → Nat → Int64} : frM I I J J := ⟨fun _ _ => rfl, fun _ _ => rfl, fun _ _ => rfl⟩
def RuM (S : aS) (I : Nat → Nat → Int32) : Prop := (I 93 9).toInt = sNU S ∧ (∀ u : Nat, (u : Int) < sNU S → (I 105 (8 + u)).toInt = S 13 (2 * u) ∧ (I 106 (8 + u)).toInt = S 13 (2 * u + 1) ∧ (I 107 (8 + u)).toInt = S 13 (2 * u + 2)) ∧ ∀ j : Nat, (j : Int) < S 13 (2 * sNU S).toNat → (I 103 (1600 + j)).toInt = S 14 j
def GivM (g : Nat → Int) (I : Nat → Nat → Int32) : Prop := ∀ k : Nat, k < 4 → (I 109 k).toInt = g k
theorem frM.ru {S : aS} {I I1 : Nat → Nat → Int32} {J J1 : Nat → Nat → Int64} (h : frM I I1 J J1) (q : RuM S I) : RuM S I1 := by
  unfold RuM at *
  rw [h.1 93 (by decide), h.1 105 (by decide), h.1 106 (by decide), h.1 107 (by decide), h.1 103 (by decide)]; exact q
theorem frM.gi {g : Nat → Int} {I I1 : Nat → Nat → Int32} {J J1 : Nat → Nat → Int64} (h : frM I I1 J J1) (q : GivM g I) : GivM g I1 := by
  unfold GivM at *
  rw [h.1 109 (by decide)]; exact q
theorem jg {J : Nat → Nat → Int64} {a k : Nat} {v : Int64} : xwJ J a k v a k = v := by unfold xwJ; rw [beqT a, beqT k]; rfl
theorem jgn {J : Nat → Nat → Int64} {a k j : Nat} {v : Int64} (h : j ≠ k) : xwJ J a k v a j = J a j := by unfold xwJ; rw [beqT a, beqF h]; rfl
section RULEM
variable {S : aS} {L d dr tl : Nat} {I : Nat → Nat → Int32} {J : Nat → Nat → Int64} {a0 a1 a2 : Int32} {b1 b3 : Int64} {st : List Int} {c x y v : Int} {g : Nat → Int}
theorem m_puts {R : (Nat → Nat → Int32) → (Nat → Nat → Int64) → Prop} (h : MS I J st) (hl : st.length < 64) (e : b1.toInt = v) (K : ∀ (I1 : Nat → Nat → Int32) (J1 : Nat → Nat → Int64), frM I I1 J J1 → MS I1 J1 (v :: st) → R I1 J1) : WP ((d + 1), 242, 0, [some (.ref 71), some (.long b1), none], [], (xSH L dr tl, I, J)) (fun v M => ∃ (I1 : Nat → Nat → Int32) (J1 : Nat → Nat → Int64), v = none ∧ M = (xSH L dr tl, I1, J1) ∧ R I1 J1) := by
  have h5 := h.1
  have x0 : xIx (I 71 53) = st.length := by rw [xIx_ti, h.1]; exact Int.toNat_natCast _
  refine w242_0 ⟨?_, _, _, rfl, rfl, K _ _ ⟨fun a h1 => xwI_ne h1, fun j hj => xgn hj, fun a h1 => xwJ_ne h1⟩ ⟨?_, ?_, ?_⟩⟩
  · rw [xin_iff, h.1]; omega
  · rw [xg, add1 (by omega) (by omega), h.1]; simp [List.length_cons]
  · show (xwJ J 108 _ b1 108 st.length).toInt = v
    rw [x0, jg]; exact e
  · refine stk_eq h.2 (fun k hk => ?_)
    show (xwJ J 108 _ b1 108 k).toInt = _
    rw [x0, jgn (by omega)]
theorem m_flo (hx : mill b1.toInt) (hy : mill b3.toInt) : PL ((d + 1), 241, 0, [some (.long b1), none, some (.long b3), none, none, none], [], (xSH L dr tl, I, J)) (if b3.toInt = 0 then 0 else flo b1.toInt b3.toInt) (xSH L dr tl, I, J) := by
  have e1 := ldiv (b3 := b3) hx
  have tb := tdiv_b (y := b3.toInt) hx
  have t1 := tb.1
  have t2 := tb.2
  have x1 := hx.1
  have x2 := hx.2
  have mb := mill_mul tb hy
  have e2 : (b1 / b3 * b3).toInt = b1.toInt.tdiv b3.toInt * b3.toInt := by rw [lmul (by rw [e1]; omega) (by rw [e1]; omega), e1]
  have e3 : (b1 / b3 - 1).toInt = b1.toInt.tdiv b3.toInt - 1 := by rw [lsub (by rw [e1]; show _ ≤ _ - (1 : Int); omega) (by rw [e1]; show _ - (1 : Int) < _; omega), e1]; rfl
  have e4 : (b1 - b1 / b3 * b3).toInt = b1.toInt - b1.toInt.tdiv b3.toInt * b3.toInt := by rw [lsub (by rw [e2]; omega) (by rw [e2]; omega), e2]
  refine w241_0 (brz xlc_eq (fun h => ⟨_, rfl, (if_pos h).symm, rfl⟩) (fun h => ?_))
  have h0 : ¬ b3.toInt = 0 := h
  rw [if_neg h0]
  have hz : ¬ b3 = (0 : Int64) := fun z => h (by rw [z])
  refine ⟨hz, hz, brz xlc_eq (fun k => ⟨_, rfl, ?_, rfl⟩) (fun k => brz xlc_lt (fun p => brz xlc_lt (fun p2 => ⟨_, rfl, ?_, rfl⟩) (fun p2 => ⟨_, rfl, ?_, rfl⟩)) (fun p => brz xlc_lt (fun p2 => ⟨_, rfl, ?_, rfl⟩) (fun p2 => ⟨_, rfl, ?_, rfl⟩)))⟩
  · have k' : b1.toInt - b1.toInt.tdiv b3.toInt * b3.toInt = 0 := by rw [← e4]; exact k
    rw [e1, flo, if_pos (by omega)]
  · have k' : ¬ b1.toInt - b1.toInt.tdiv b3.toInt * b3.toInt = 0 := by rw [← e4]; exact k
    rw [e1, flo, if_neg (by omega), if_pos ⟨fun _ => p2, fun _ => p⟩]
  · have k' : ¬ b1.toInt - b1.toInt.tdiv b3.toInt * b3.toInt = 0 := by rw [← e4]; exact k
    rw [e3, flo, if_neg (by omega), if_neg (fun z => p2 (z.mp p))]
  · have k' : ¬ b1.toInt - b1.toInt.tdiv b3.toInt * b3.toInt = 0 := by rw [← e4]; exact k
    rw [e3, flo, if_neg (by omega), if_neg (fun z => p (z.mpr p2))]
  · have k' : ¬ b1.toInt - b1.toInt.tdiv b3.toInt * b3.toInt = 0 := by rw [← e4]; exact k
    rw [e1, flo, if_neg (by omega), if_pos ⟨fun z => absurd z p, fun z => absurd z p2⟩]
theorem m_joins {R : (Nat → Nat → Int32) → (Nat → Nat → Int64) → Prop} (h : MS I J (y :: x :: st)) (hl : st.length < 63) (hx : mill x) (hy : mill y) (hc : (1 ≤ c ∧ c ≤ 6) ∨ (11 ≤ c ∧ c ≤ 15)) (h01 : c = 14 ∨ c = 15 → (x = 0 ∨ x = 1) ∧ (y = 0 ∨ y = 1)) (ea : a1.toInt = c) (K : ∀ (I1 : Nat → Nat → Int32) (J1 : Nat → Nat → Int64), frM I I1 J J1 → MS I1 J1 (ev g c (y :: x :: st)) → R I1 J1) :
    WP ((d + 2), 243, 0, [some (.ref 71), some (.int a1), none, none, none, none], [], (xSH L dr tl, I, J)) (fun v M => ∃ (I1 : Nat → Nat → Int32) (J1 : Nat → Nat → Int64), v = none ∧ M = (xSH L dr tl, I1, J1) ∧ R I1 J1) := by
  have h5 : (I 71 53).toInt = (st.length : Int) + 2 := by rw [h.1]; simp only [List.length_cons]; omega
  have f1 : (I 71 53 - 1).toInt = (st.length : Int) + 1 := by rw [sub1 (by omega), h5]; omega
  have f2 : (I 71 53 - 2).toInt = (st.length : Int) := by rw [sub_ti (by show _ ≤ _ - (2 : Int); omega) (by show _ - (2 : Int) < _; omega), h5]; show _ - (2 : Int) = _; omega
  have x1 : xIx (I 71 53 - 1) = st.length + 1 := by rw [xIx_ti, f1]; omega
  have x2 : xIx (I 71 53 - 2) = st.length := by rw [xIx_ti, f2]; omega
  have jy : (J 108 (st.length + 1)).toInt = y := h.2.1
  have jx : (J 108 st.length).toInt = x := h.2.2.1
  have fm : frM I (xwI I 71 53 (I 71 53 - 2)) J J := ⟨fun a h1 => xwI_ne h1, fun j hj => xgn hj, fun _ _ => rfl⟩
  have m2 : MS (xwI I 71 53 (I 71 53 - 2)) J st := ⟨by rw [xg]; exact f2, h.2.2.2⟩
  have mx1 := hx.1
  have mx2 := hx.2
  have my1 := hy.1
  have my2 := hy.2
  have mb := mill_mul hx hy
  have fin : ∀ {b1 : Int64}, b1.toInt = clipI (binR c x y) → WP ((d + 1), 242, 0, [some (.ref 71), some (.long b1), none], [], (xSH L dr tl, (xwI I 71 53 (I 71 53 - 2)), J)) (fun v M => ∃ (I1 : Nat → Nat → Int32) (J1 : Nat → Nat → Int64), v = none ∧ M = (xSH L dr tl, I1, J1) ∧ ∃ (I2 : Nat → Nat → Int32) (J2 : Nat → Nat → Int64), none = (none : Option Value) ∧ (xSH L dr tl, I1, J1) = (xSH L dr tl, I2, J2) ∧ R I2 J2) := by
    intro b1 eb
    refine m_puts m2 (by omega) eb fun I3 J3 f3 m3 => ⟨_, _, rfl, rfl, K _ _ (fm.tr f3) ?_⟩
    rw [ev_bin hc]; exact m3
  have fin' : ∀ {b1 : Int64}, b1.toInt = binR c x y → (c ≠ 1 ∧ c ≠ 2 ∧ c ≠ 3) → WP ((d + 1), 242, 0, [some (.ref 71), some (.long b1), none], [], (xSH L dr tl, (xwI I 71 53 (I 71 53 - 2)), J)) (fun v M => ∃ (I1 : Nat → Nat → Int32) (J1 : Nat → Nat → Int64), v = none ∧ M = (xSH L dr tl, I1, J1) ∧ ∃ (I2 : Nat → Nat → Int32) (J2 : Nat → Nat → Int64), none = (none : Option Value) ∧ (xSH L dr tl, I1, J1) = (xSH L dr tl, I2, J2) ∧ R I2 J2) := by
    intro b1 eb hc'
    exact fin (by rw [clip_id (binR_b hx hy hc')]; exact eb)
  refine w243_0 ⟨by rw [xin_iff, f1]; omega, by rw [xin_iff, f2]; omega, ?_⟩
  rw [x1, x2]
  have : c = 1 ∨ c = 2 ∨ c = 3 ∨ c = 4 ∨ c = 5 ∨ c = 6 ∨ c = 11 ∨ c = 12 ∨ c = 13 ∨ c = 14 ∨ c = 15 := by omega
  rcases this with rfl | rfl | rfl | rfl | rfl | rfl | rfl | rfl | rfl | rfl | rfl
  · have e : a1 = 1 := eq_ti.mpr ea
    subst e
    refine hit rfl (m_clip.u fun r er => fin ?_)
    rw [er, ladd (by omega) (by omega), jx, jy]; rfl
  · have e : a1 = 2 := eq_ti.mpr ea
    subst e
    repeat refine sk (by decide) ?_
    refine hit rfl (m_clip.u fun r er => fin ?_)
    rw [er, lsub (by omega) (by omega), jx, jy]; rfl
  · have e : a1 = 3 := eq_ti.mpr ea
    subst e
    repeat refine sk (by decide) ?_
    refine hit rfl (m_clip.u fun r er => fin ?_)
    rw [er, lmul (by rw [jx, jy]; omega) (by rw [jx, jy]; omega), jx, jy]; rfl
  · have e : a1 = 4 := eq_ti.mpr ea
    subst e
    repeat refine sk (by decide) ?_
    refine hit rfl ((m_flo (by rw [jx]; exact hx) (by rw [jy]; exact hy)).u fun r er => fin' ?_ (by decide))
    rw [er, jx, jy]; rfl
  · have e : a1 = 5 := eq_ti.mpr ea
    subst e
    repeat refine sk (by decide) ?_
    refine hit rfl (brz xlc_lt (fun z => fin' ?_ (by decide)) (fun z => fin' ?_ (by decide)))
    · rw [jx]; show x = min x y; omega
    · rw [jy]; show y = min x y; omega
  · have e : a1 = 6 := eq_ti.mpr ea
    subst e
    repeat refine sk (by decide) ?_
    refine hit rfl (brz xlc_gt (fun z => fin' ?_ (by decide)) (fun z => fin' ?_ (by decide)))
    · rw [jx]; show x = max x y; omega
    · rw [jy]; show y = max x y; omega
  · have e : a1 = 11 := eq_ti.mpr ea
    subst e
    repeat refine sk (by decide) ?_
    refine hit rfl (brz xlc_lt (fun z => fin' ?_ (by decide)) (fun z => fin' ?_ (by decide)))
    · exact (if_pos (by omega)).symm
    · exact (if_neg (by omega)).symm
  · have e : a1 = 12 := eq_ti.mpr ea
    subst e
    repeat refine sk (by decide) ?_
    refine hit rfl (brz xlc_gt (fun z => fin' ?_ (by decide)) (fun z => fin' ?_ (by decide)))
    · exact (if_pos (by omega)).symm
    · exact (if_neg (by omega)).symm
  · have e : a1 = 13 := eq_ti.mpr ea
    subst e
    repeat refine sk (by decide) ?_
    refine hit rfl (brz xlc_eq (fun z => fin' ?_ (by decide)) (fun z => fin' ?_ (by decide)))
    · exact (if_pos (by omega)).symm
    · exact (if_neg (by omega)).symm
  · have e : a1 = 14 := eq_ti.mpr ea
    subst e
    obtain ⟨p1, p2⟩ := h01 (Or.inl rfl)
    repeat refine sk (by decide) ?_
    refine hit rfl (fin' ?_ (by decide))
    rw [lmul (by rw [jx, jy]; omega) (by rw [jx, jy]; omega), jx, jy]
    rcases p1 with rfl | rfl <;> rcases p2 with rfl | rfl <;> decide
  · have e : a1 = 15 := eq_ti.mpr ea
    subst e
    obtain ⟨p1, p2⟩ := h01 (Or.inr rfl)
    have s1 : (J 108 st.length + J 108 (st.length + 1)).toInt = x + y := by rw [ladd (by omega) (by omega), jx, jy]
    repeat refine sk (by decide) ?_
    refine brz xlc_gt (fun z => fin' ?_ (by decide)) (fun z => fin' ?_ (by decide))
    · rw [s1] at z
      have z' : (0 : Int) < x + y := z
      show (1 : Int) = max x y
      omega
    · rw [s1] at z
      have z' : ¬ (0 : Int) < x + y := z
      show (0 : Int) = max x y
      omega
end RULEM
