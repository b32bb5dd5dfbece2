/-! ===== the class's rules: a step, a part, the eyes ===== -/
section RULEC2
variable {S : aS} {L d dr tl r : Nat} {I : Nat → Nat → Int32} {J : Nat → Nat → Int64} {a0 a1 : Int32} {b1 b3 : Int64} {st : List Int} {c x y v : Int} {g : Nat → Int}
theorem nneg {a k : Int32} (h : 0 ≤ a.toInt) (hk : k.toInt < 0) : ¬ a = k := fun z => by rw [z] at h; omega
theorem c_bin {R : (Nat → Nat → Int32) → (Nat → Nat → Int64) → Prop} (hr : r = 21 ∨ r = 44) (h : CS r I (y :: x :: st)) (hl : st.length < 63) (hx : mill x) (hy : mill y) (hc : (1 ≤ c ∧ c ≤ 6) ∨ (11 ≤ c ∧ c ≤ 15)) (ea : a1.toInt = stepOf c) (K : ∀ I1 : Nat → Nat → Int32, fr r I I1 → CS r I1 (ev g c (y :: x :: st)) → R I1 J) :
    WP ((d + 2), 101, 0, [some (.ref r)], [], (xSH L dr tl, I, J)) (fun v M => ∃ (r8 : Int32) (I8 : Nat → Nat → Int32) (J8 : Nat → Nat → Int64), v = some (.int r8) ∧ M = (xSH L dr tl, I8, J8) ∧ WP ((d + 2), 101, 0, [some (.ref r)], [], (xSH L dr tl, I8, J8)) (fun v M => ∃ (r9 : Int32) (I9 : Nat → Nat → Int32) (J9 : Nat → Nat → Int64), v = some (.int r9) ∧ M = (xSH L dr tl, I9, J9) ∧ WP ((d + 2), 99, 0, [some (.int a1), some (.long (Int32.toInt64 r9)), none, some (.long (Int32.toInt64 r8)), none], [], (xSH L dr tl, I9, J9)) (fun v M => ∃ (r10 : Int64) (I10 : Nat → Nat → Int32) (J10 : Nat → Nat → Int64), v = some (.long r10) ∧ M = (xSH L dr tl, I10, J10) ∧ WP ((d + 2), 320, 0, [some (.long 1000000), none, some (.long r10), none], [], (xSH L dr tl, I10, J10)) (fun v M => ∃ (r11 : Int64) (I11 : Nat → Nat → Int32) (J11 : Nat → Nat → Int64), v = some (.long r11) ∧ M = (xSH L dr tl, I11, J11) ∧ WP ((d + 2), 318, 0, [some (.long (-1000000)), none, some (.long r11), none], [], (xSH L dr tl, I11, J11)) (fun v M => ∃ (r12 : Int64) (I12 : Nat → Nat → Int32) (J12 : Nat → Nat → Int64), v = some (.long r12) ∧ M = (xSH L dr tl, I12, J12) ∧ WP ((d + 2), 100, 0, [some (.ref r), some (.int (Int64.toInt32 r12))], [], (xSH L dr tl, I12, J12)) (fun v M => ∃ (I13 : Nat → Nat → Int32) (J13 : Nat → Nat → Int64), v = none ∧ M = (xSH L dr tl, I13, J13) ∧ ∃ (I14 : Nat → Nat → Int32) (J14 : Nat → Nat → Int64), none = (none : Option Value) ∧ (xSH L dr tl, I13, J13) = (xSH L dr tl, I14, J14) ∧ R I14 J14)))))) := by
  refine s_pop hr h (by simp only [List.length_cons]; omega) fun x1 I1 e1 f1 c1 => s_pop hr c1 (by omega) fun x2 I2 e2 f2 c2 => (s_join (c := c) (by rw [t64, e2]; exact hx) (by rw [t64, e1]; exact hy) hc ea).u fun r3 e3 => s_minL.u fun r4 e4 => s_maxL.u fun r5 e5 => ?_
  rw [t64, t64, e1, e2] at e3
  have e6 : r5.toInt = clipI (binR c x y) := by
    have e4' : r4.toInt = min (1000000 : Int) (binR c x y) := by rw [e4, e3]; rfl
    have e5' : r5.toInt = max (-1000000 : Int) r4.toInt := e5
    unfold clipI
    split
    · omega
    · split <;> omega
  have cb := clipI_b (binR c x y)
  refine s_push hr c2 (by omega) (v := clipI (binR c x y)) (by rw [l32 (by omega) (by omega)]; exact e6) fun I3 f3 c3 => ⟨_, _, rfl, rfl, K I3 ((f1.tr f2).tr f3) ?_⟩
  rw [ev_bin hc]; exact c3
theorem s_take {R : (Nat → Nat → Int32) → (Nat → Nat → Int64) → Prop} {ts ts' : List Bool} (hr : r = 21 ∨ r = 44) (hG : GivC g r I) (hty : tyOp c ts = some ts') (hl : ts'.length ≤ 64) (hs : okS ts st) (hl0 : st.length ≤ 64) (h : CS r I st) (ea : a1.toInt = stepOf c) (K : ∀ I1 : Nat → Nat → Int32, fr r I I1 → CS r I1 (ev g c st) → R I1 J) :
    WP ((d + 3), 98, 0, [some (.ref r), some (.int a1), none, none, none], [], (xSH L dr tl, I, J)) (fun v M => ∃ (I1 : Nat → Nat → Int32) (J1 : Nat → Nat → Int64), v = none ∧ M = (xSH L dr tl, I1, J1) ∧ R I1 J1) := by
  have hlen := okS_len hs
  have bin : ∀ {y x : Int} {st' : List Int}, st = y :: x :: st' → (1 ≤ c ∧ c ≤ 6) ∨ (11 ≤ c ∧ c ≤ 15) → mill x → mill y → WP ((d + 3), 98, 0, [some (.ref r), some (.int a1), none, none, none], [], (xSH L dr tl, I, J)) (fun v M => ∃ (I1 : Nat → Nat → Int32) (J1 : Nat → Nat → Int64), v = none ∧ M = (xSH L dr tl, I1, J1) ∧ R I1 J1) := by
    intro y x st' est hc hx hy
    subst est
    have hl3 : st'.length < 63 := by simp only [List.length_cons] at hl0; omega
    have body := c_bin (L := L) (d := d) (dr := dr) (tl := tl) (J := J) (R := R) hr h hl3 hx hy hc ea K
    have : c = 1 ∨ c = 2 ∨ c = 3 ∨ c = 4 ∨ c = 5 ∨ c = 6 ∨ c = 11 ∨ c = 12 ∨ c = 13 ∨ c = 14 ∨ c = 15 := by omega
    rcases this with rfl | rfl | rfl | rfl | rfl | rfl | rfl | rfl | rfl | rfl | rfl
    · have e : a1 = -43 := eq_ti.mpr ea
      subst e; refine w98_0 hr ?_
      repeat refine sk (by decide) ?_
      exact hit (by decide) body
    · have e : a1 = -45 := eq_ti.mpr ea
      subst e; refine w98_0 hr ?_
      repeat refine sk (by decide) ?_
      exact hit (by decide) body
    · have e : a1 = -42 := eq_ti.mpr ea
      subst e; refine w98_0 hr ?_
      repeat refine sk (by decide) ?_
      exact hit (by decide) body
    · have e : a1 = -47 := eq_ti.mpr ea
      subst e; refine w98_0 hr ?_
      repeat refine sk (by decide) ?_
      exact hit (by decide) body
    · have e : a1 = -18 := eq_ti.mpr ea
      subst e; refine w98_0 hr ?_
      repeat refine sk (by decide) ?_
      exact hit (by decide) body
    · have e : a1 = -19 := eq_ti.mpr ea
      subst e; refine w98_0 hr ?_
      repeat refine sk (by decide) ?_
      exact hit (by decide) body
    · have e : a1 = -60 := eq_ti.mpr ea
      subst e; refine w98_0 hr ?_
      repeat refine sk (by decide) ?_
      exact hit (by decide) body
    · have e : a1 = -62 := eq_ti.mpr ea
      subst e; refine w98_0 hr ?_
      repeat refine sk (by decide) ?_
      exact hit (by decide) body
    · have e : a1 = -61 := eq_ti.mpr ea
      subst e; refine w98_0 hr ?_
      repeat refine sk (by decide) ?_
      exact hit (by decide) body
    · have e : a1 = -12 := eq_ti.mpr ea
      subst e; refine w98_0 hr ?_
      repeat refine sk (by decide) ?_
      exact hit rfl (hit (by decide) body)
    · have e : a1 = -11 := eq_ti.mpr ea
      subst e; refine w98_0 hr ?_
      repeat refine sk (by decide) ?_
      exact hit rfl (hit (by decide) body)
  rcases tyOp_k hty with ⟨h1, h2, rfl⟩ | ⟨h1, h2, rfl⟩ | ⟨rfl, rfl⟩ | ⟨rfl, w, rfl, rfl⟩ | ⟨h1, h2, w, rfl, rfl⟩ | ⟨h1, h2, w, rfl, rfl⟩ | ⟨h1, w, rfl, rfl⟩
  · have e : a1.toInt = c - 1000 := by rw [ea]; exact if_pos h1
    rw [ev_num h1] at K
    refine w98_0 hr ?_
    have h0 : 0 ≤ a1.toInt := by omega
    repeat refine sk (nneg h0 (by decide)) ?_
    refine sk (by rw [lt0, e]; omega) (s_push hr h (by simp only [List.length_cons] at hl; omega) e fun I1 f1 c1 => ⟨_, _, rfl, rfl, K I1 f1 c1⟩)
  · have hl' : st.length < 64 := by simp only [List.length_cons] at hl; omega
    rw [ev_giv h1 h2] at K
    have : c = 7 ∨ c = 8 ∨ c = 9 ∨ c = 10 := by omega
    rcases this with rfl | rfl | rfl | rfl
    · have e : a1 = -15 := eq_ti.mpr ea
      subst e; refine w98_0 hr ?_
      repeat refine sk (by decide) ?_
      exact hit rfl (s_push hr h hl' hG.1 fun I1 f1 c1 => ⟨_, _, rfl, rfl, K I1 f1 c1⟩)
    · have e : a1 = -3 := eq_ti.mpr ea
      subst e; refine w98_0 hr ?_
      repeat refine sk (by decide) ?_
      exact hit rfl (s_push hr h hl' hG.2.1 fun I1 f1 c1 => ⟨_, _, rfl, rfl, K I1 f1 c1⟩)
    · have e : a1 = -16 := eq_ti.mpr ea
      subst e; refine w98_0 hr ?_
      repeat refine sk (by decide) ?_
      exact hit rfl (s_push hr h hl' hG.2.2.1 fun I1 f1 c1 => ⟨_, _, rfl, rfl, K I1 f1 c1⟩)
    · have e : a1 = -17 := eq_ti.mpr ea
      subst e; refine w98_0 hr ?_
      exact hit rfl (s_push hr h hl' hG.2.2.2 fun I1 f1 c1 => ⟨_, _, rfl, rfl, K I1 f1 c1⟩)
  · have hl' : st.length < 64 := by simp only [List.length_cons] at hl; omega
    have e : a1 = -14 := eq_ti.mpr ea
    subst e; refine w98_0 hr ?_
    repeat refine sk (by decide) ?_
    exact hit rfl (s_push hr h hl' rfl fun I1 f1 c1 => ⟨_, _, rfl, rfl, K I1 f1 c1⟩)
  · obtain ⟨v, w', rfl, k1, k2⟩ := okS_c hs
    have hl' : w'.length < 64 := by simp only [List.length_cons] at hl0; omega
    have e : a1 = -13 := eq_ti.mpr ea
    have kb := k1.1.1
    have kb2 := k1.1.2
    subst e; refine w98_0 hr ?_
    repeat refine sk (by decide) ?_
    exact hit rfl (s_pop hr h hl' fun x1 I1 e1 f1 c1 => s_push hr c1 hl' (v := 1 - v) (by rw [sub_ti (by show _ ≤ 1 - x1.toInt; omega) (by show 1 - x1.toInt < _; omega), e1]; rfl) fun I2 f2 c2 => ⟨_, _, rfl, rfl, K I2 (f1.tr f2) c2⟩)
  · obtain ⟨v, w', rfl, k1, k2⟩ := okS_c hs
    obtain ⟨v', w'', rfl, k3, k4⟩ := okS_c k2
    exact bin rfl (Or.inl ⟨h1, h2⟩) k3.1 k1.1
  · obtain ⟨v, w', rfl, k1, k2⟩ := okS_c hs
    obtain ⟨v', w'', rfl, k3, k4⟩ := okS_c k2
    exact bin rfl (Or.inr ⟨h1, by omega⟩) k3.1 k1.1
  · obtain ⟨v, w', rfl, k1, k2⟩ := okS_c hs
    obtain ⟨v', w'', rfl, k3, k4⟩ := okS_c k2
    exact bin rfl (Or.inr (by omega)) k3.1 k1.1
end RULEC2
