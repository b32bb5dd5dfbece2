/-! ===== the class's rules ===== -/
theorem sk {p A B : Prop} (h : ¬ p) (b : B) : (p → A) ∧ (¬ p → B) := ⟨fun z => absurd z h, fun _ => b⟩
theorem hit {p A B : Prop} (h : p) (a : A) : (p → A) ∧ (¬ p → B) := ⟨fun _ => a, fun z => absurd h z⟩
def CS (r : Nat) (I : Nat → Nat → Int32) (st : List Int) : Prop := (I r 5).toInt = st.length ∧ stk (fun k => (I (r + 3) k).toInt) st
/-- only the stack and its depth are other -/
def fr (r : Nat) (I I' : Nat → Nat → Int32) : Prop := (∀ a : Nat, a ≠ r → a ≠ r + 3 → I' a = I a) ∧ ∀ j : Nat, j ≠ 5 → I' r j = I r j
theorem fr.tr {r : Nat} {I I1 I2 : Nat → Nat → Int32} (h : fr r I I1) (h' : fr r I1 I2) : fr r I I2 := ⟨fun a h1 h2 => (h'.1 a h1 h2).trans (h.1 a h1 h2), fun j hj => (h'.2 j hj).trans (h.2 j hj)⟩
theorem fr_refl {r : Nat} {I : Nat → Nat → Int32} : fr r I I := ⟨fun _ _ _ => rfl, fun _ _ => rfl⟩
def RuC (S : aS) (r : Nat) (I : Nat → Nat → Int32) : Prop := (I r 4).toInt = 2 * sNU S ∧ (∀ j : Nat, (j : Int) ≤ 2 * sNU S → (I (r + 2) j).toInt = S 13 j) ∧ ∀ j : Nat, (j : Int) < S 13 (2 * sNU S).toNat → (I (r + 1) j).toInt = stepOf (S 14 j)
def GivC (g : Nat → Int) (r : Nat) (I : Nat → Nat → Int32) : Prop := (I r 6).toInt = g 0 ∧ (I r 7).toInt = g 1 ∧ (I r 8).toInt = g 2 ∧ (I r 9).toInt = g 3
theorem fr.ru {S : aS} {r : Nat} {I I1 : Nat → Nat → Int32} (h : fr r I I1) (q : RuC S r I) : RuC S r I1 := by
  unfold RuC at *
  rw [h.2 4 (by decide), h.1 (r + 2) (by omega) (by omega), h.1 (r + 1) (by omega) (by omega)]; exact q
theorem fr.gi {g : Nat → Int} {r : Nat} {I I1 : Nat → Nat → Int32} (h : fr r I I1) (q : GivC g r I) : GivC g r I1 := by
  unfold GivC at *
  rw [h.2 6 (by decide), h.2 7 (by decide), h.2 8 (by decide), h.2 9 (by decide)]; exact q
section RULEC
variable {S : aS} {L d dr tl r : Nat} {I : Nat → Nat → Int32} {J : Nat → Nat → Int64} {a0 a1 : Int32} {b1 b3 : Int64} {st : List Int} {c x y v : Int} {g : Nat → Int}
theorem s_push {R : (Nat → Nat → Int32) → (Nat → Nat → Int64) → Prop} (hr : r = 21 ∨ r = 44) (h : CS r I st) (hl : st.length < 64) (e : a1.toInt = v) (K : ∀ I1 : Nat → Nat → Int32, fr r I I1 → CS r I1 (v :: st) → R I1 J) : WP ((d + 1), 100, 0, [some (.ref r), some (.int a1)], [], (xSH L dr tl, I, J)) (fun v M => ∃ (I1 : Nat → Nat → Int32) (J1 : Nat → Nat → Int64), v = none ∧ M = (xSH L dr tl, I1, J1) ∧ R I1 J1) := by
  have x0 : xIx (I r 5) = st.length := by rw [xIx_ti, h.1]; exact Int.toNat_natCast _
  have h5 := h.1
  refine w100_0 hr (brz lt_ti (fun _ => ⟨?_, _, _, rfl, rfl, K _ ⟨fun a h1 h2 => ?_, fun j hj => ?_⟩ ⟨?_, ?_, ?_⟩⟩) (fun z => ?_))
  · rw [xin_iff, h.1]; omega
  · rw [xwI_ne h1, xwI_ne h2]
  · rw [xgn hj, xwI_ne (by omega)]
  · rw [xg, xwI_ne (by omega), add1 (by omega) (by omega), h.1]; simp [List.length_cons]
  · show (xwI _ r 5 _ (r + 3) st.length).toInt = v
    rw [xwI_ne (by omega), x0, xg]; exact e
  · refine stk_eq h.2 (fun k hk => ?_)
    show (xwI _ r 5 _ (r + 3) k).toInt = _
    rw [xwI_ne (by omega), x0, xgn (by omega)]
  · exact absurd (show (I r 5).toInt < 64 by rw [h.1]; omega) z
theorem s_pop {R : Int32 → (Nat → Nat → Int32) → (Nat → Nat → Int64) → Prop} (hr : r = 21 ∨ r = 44) (h : CS r I (v :: st)) (hl : st.length < 64) (K : ∀ (x : Int32) (I1 : Nat → Nat → Int32), x.toInt = v → fr r I I1 → CS r I1 st → R x I1 J) : WP ((d + 1), 101, 0, [some (.ref r)], [], (xSH L dr tl, I, J)) (fun v M => ∃ (r1 : Int32) (I1 : Nat → Nat → Int32) (J1 : Nat → Nat → Int64), v = some (.int r1) ∧ M = (xSH L dr tl, I1, J1) ∧ R r1 I1 J1) := by
  have h5 : (I r 5).toInt = (st.length : Int) + 1 := by rw [h.1]; simp [List.length_cons]
  have e5 : (xwI I r 5 (I r 5 - 1) r 5).toInt = st.length := by rw [xg, sub1 (by omega), h5]; omega
  have x0 : xIx (xwI I r 5 (I r 5 - 1) r 5) = st.length := by rw [xIx_ti, e5]; exact Int.toNat_natCast _
  refine w101_0 hr (brz eq0 (fun z => by omega) (fun _ => ⟨?_, _, _, _, rfl, rfl, K _ _ ?_ ⟨fun a h1 h2 => ?_, fun j hj => ?_⟩ ⟨?_, ?_⟩⟩))
  · rw [xin_iff, e5]; omega
  · rw [x0, xwI_ne (by omega)]; exact h.2.1
  · rw [xwI_ne h1]
  · rw [xgn hj]
  · exact e5
  · refine stk_eq h.2.2 (fun k hk => ?_)
    show (xwI _ r 5 _ (r + 3) k).toInt = _
    rw [xwI_ne (by omega)]
theorem s_maxL : PL ((d + 1), 318, 0, [some (.long b1), none, some (.long b3), none], [], (xSH L dr tl, I, J)) (max b1.toInt b3.toInt) (xSH L dr tl, I, J) := by
  refine w318_0 (brz xlc_lt (fun h => ⟨b3, rfl, ?_, rfl⟩) (fun h => ⟨b1, rfl, ?_, rfl⟩)) <;> omega
theorem s_minL : PL ((d + 1), 320, 0, [some (.long b1), none, some (.long b3), none], [], (xSH L dr tl, I, J)) (min b1.toInt b3.toInt) (xSH L dr tl, I, J) := by
  refine w320_0 (brz xlc_gt (fun h => ⟨b3, rfl, ?_, rfl⟩) (fun h => ⟨b1, rfl, ?_, rfl⟩)) <;> omega
theorem ldiv (hx : mill b1.toInt) : (b1 / b3).toInt = b1.toInt.tdiv b3.toInt := by
  rw [Int64.toInt_div]
  have := tdiv_b (y := b3.toInt) hx
  exact bm64 (by have := this.1; omega) (by have := this.2; omega)
theorem xor_neg : (b1 ^^^ b3).toInt < 0 ↔ ¬ (b1.toInt < 0 ↔ b3.toInt < 0) := by
  have e : ∀ b : Int64, b.toInt < 0 ↔ b.toBitVec.msb = true := by
    intro b
    rw [BitVec.msb_eq_toInt]
    exact ⟨fun h => decide_eq_true h, fun h => of_decide_eq_true h⟩
  rw [e, e, e, Int64.toBitVec_xor, BitVec.msb_xor]
  cases b1.toBitVec.msb <;> cases b3.toBitVec.msb <;> simp
theorem s_flo (hx : mill b1.toInt) (hy : mill b3.toInt) (h0 : b3.toInt ≠ 0) : PL ((d + 1), 316, 0, [some (.long b1), none, some (.long b3), none, none, none], [], (xSH L dr tl, I, J)) (flo b1.toInt b3.toInt) (xSH L dr tl, I, J) := by
  have e1 := ldiv (b3 := b3) hx
  have tb := tdiv_b (y := b3.toInt) hx
  have t1 := tb.1
  have t2 := tb.2
  have mb := mill_mul tb hy
  have e2 : (b1 / b3 * b3).toInt = b1.toInt.tdiv b3.toInt * b3.toInt := by rw [lmul (by rw [e1]; omega) (by rw [e1]; omega), e1]
  have e3 : (b1 / b3 - 1).toInt = b1.toInt.tdiv b3.toInt - 1 := by rw [lsub (by rw [e1]; show _ ≤ _ - (1 : Int); omega) (by rw [e1]; show _ - (1 : Int) < _; omega), e1]; rfl
  refine w316_0 ⟨fun z => h0 (by rw [z]; rfl), brz xlc_lt (fun h => brz xlc_eq (fun k => ⟨_, rfl, ?_, rfl⟩) (fun k => ⟨_, rfl, ?_, rfl⟩)) (fun h => ⟨_, rfl, ?_, rfl⟩)⟩
  · rw [e2] at k; rw [e1, flo, if_pos k]
  · rw [e2] at k; rw [e3, flo, if_neg k, if_neg (xor_neg.mp h)]
  · rw [e1, flo]
    split
    · rfl
    · rw [if_pos (Decidable.byContradiction fun z => h (xor_neg.mpr z))]
theorem s_join (hx : mill b1.toInt) (hy : mill b3.toInt) (hc : (1 ≤ c ∧ c ≤ 6) ∨ (11 ≤ c ∧ c ≤ 15)) (ea : a0.toInt = stepOf c) : PL ((d + 2), 99, 0, [some (.int a0), some (.long b1), none, some (.long b3), none], [], (xSH L dr tl, I, J)) (binR c b1.toInt b3.toInt) (xSH L dr tl, I, J) := by
  have x1 := hx.1
  have x2 := hx.2
  have y1 := hy.1
  have y2 := hy.2
  have mb := mill_mul hx hy
  have : c = 1 ∨ c = 2 ∨ c = 3 ∨ c = 4 ∨ c = 5 ∨ c = 6 ∨ c = 11 ∨ c = 12 ∨ c = 13 ∨ c = 14 ∨ c = 15 := by omega
  rcases this with rfl | rfl | rfl | rfl | rfl | rfl | rfl | rfl | rfl | rfl | rfl
  · have e : a0 = -43 := eq_ti.mpr ea
    subst e
    refine w99_0 ?_
    repeat refine sk (by decide) ?_
    exact hit rfl ⟨_, rfl, ladd (by omega) (by omega), rfl⟩
  · have e : a0 = -45 := eq_ti.mpr ea
    subst e
    refine w99_0 ?_
    repeat refine sk (by decide) ?_
    exact hit rfl ⟨_, rfl, lsub (by omega) (by omega), rfl⟩
  · have e : a0 = -42 := eq_ti.mpr ea
    subst e
    refine w99_0 ?_
    repeat refine sk (by decide) ?_
    exact hit rfl ⟨_, rfl, lmul (by omega) (by omega), rfl⟩
  · have e : a0 = -47 := eq_ti.mpr ea
    subst e
    refine w99_0 ?_
    repeat refine sk (by decide) ?_
    refine hit rfl (brz xlc_eq (fun h => ⟨_, rfl, ?_, rfl⟩) (fun h => (s_flo hx hy h).u fun r er => ⟨_, rfl, ?_, rfl⟩))
    · show (0 : Int) = if b3.toInt = 0 then 0 else flo b1.toInt b3.toInt
      exact (if_pos h).symm
    · rw [er]
      show _ = if b3.toInt = 0 then 0 else flo b1.toInt b3.toInt
      exact (if_neg h).symm
  · have e : a0 = -18 := eq_ti.mpr ea
    subst e
    refine w99_0 ?_
    repeat refine sk (by decide) ?_
    exact s_minL.u fun r er => ⟨_, rfl, er, rfl⟩
  · have e : a0 = -19 := eq_ti.mpr ea
    subst e
    refine w99_0 ?_
    repeat refine sk (by decide) ?_
    exact hit rfl (s_maxL.u fun r er => ⟨_, rfl, er, rfl⟩)
  · have e : a0 = -60 := eq_ti.mpr ea
    subst e
    refine w99_0 ?_
    repeat refine sk (by decide) ?_
    exact hit rfl (brz xlc_lt (fun h => ⟨_, rfl, (if_pos h).symm, rfl⟩) (fun h => ⟨_, rfl, (if_neg h).symm, rfl⟩))
  · have e : a0 = -62 := eq_ti.mpr ea
    subst e
    refine w99_0 ?_
    repeat refine sk (by decide) ?_
    exact hit rfl (brz xlc_gt (fun h => ⟨_, rfl, (if_pos h).symm, rfl⟩) (fun h => ⟨_, rfl, (if_neg h).symm, rfl⟩))
  · have e : a0 = -61 := eq_ti.mpr ea
    subst e
    refine w99_0 ?_
    repeat refine sk (by decide) ?_
    exact hit rfl (brz xlc_eq (fun h => ⟨_, rfl, (if_pos h).symm, rfl⟩) (fun h => ⟨_, rfl, (if_neg h).symm, rfl⟩))
  · have e : a0 = -12 := eq_ti.mpr ea
    subst e
    refine w99_0 ?_
    repeat refine sk (by decide) ?_
    exact s_minL.u fun r er => ⟨_, rfl, er, rfl⟩
  · have e : a0 = -11 := eq_ti.mpr ea
    subst e
    refine w99_0 ?_
    repeat refine sk (by decide) ?_
    exact hit rfl (s_maxL.u fun r er => ⟨_, rfl, er, rfl⟩)
end RULEC
