/-! ===== on: the reference's test ===== -/
section ON2
variable {S T : aS} {L d dr tl t : Nat} {I : Nat → Nat → Int32} {J : Nat → Nat → Int64} {a1 a2 a3 a4 a5 x : Int32} {f : Nat → Int} {n0 : Int} {Q : Option Value → xMem → Prop}
def tapeM (n0 : Int) (f : Nat → Int) (I : Nat → Nat → Int32) : Prop := n0 ≤ 1600 ∧ ∀ j : Nat, (j : Int) < n0 → (I 72 j).toInt = f j ∧ 0 ≤ f j ∧ f j ≤ 255
theorem m_seats {o : Nat} (hw : WF S) (hb : MIb S I J) (h : tapeM n0 f I) (e1 : a1.toInt = o + 2 * sNR S + 1) (hn : a1.toInt ≤ n0) : ∀ (m k : Nat) (i : Int32), ((k + m : Nat) : Int) = sNR S → i.toInt = o + 2 * k → PB ((d + 2), 314, 170, [some (.ref 71), some (.int a1), none, some (.int i)], [], (xSH L dr tl, I, J)) (allF (seatAt S f o) k (sNR S).toNat) (xSH L dr tl, I, J) := by
  have h2 := h.1
  have hN := hw.2.2.2.1.2.1
  have hN0 := hw.2.2.2.1.1
  have hLn := hw.2.2.1
  have s1 : (a1 - 1).toInt = o + 2 * sNR S := by rw [sub1 (by omega), e1]; omega
  intro m
  induction m with
  | zero =>
    intro k i hk hi
    exact w314_170 (brz lt_ti (fun z => by omega) (fun _ => ⟨1, rfl, Or.inl ⟨rfl, allF_e (by omega)⟩, rfl⟩))
  | succ m ih =>
    intro k i hk hi
    have i0 : xIx i = o + 2 * k := by rw [xIx_ti, hi]; omega
    have j1 : (i + 1).toInt = ((o + 2 * k + 1 : Nat) : Int) := by rw [add1 (by omega) (by omega), hi]; omega
    have i1 : xIx (i + 1) = o + 2 * k + 1 := by rw [xIx_ti, j1]; exact Int.toNat_natCast _
    have j2 : (i + 2).toInt = o + 2 * ((k + 1 : Nat) : Int) := by rw [addn (by omega) (by omega) (by decide) (by decide), hi]; show (o : Int) + 2 * k + 2 = _; omega
    obtain ⟨v0, b0⟩ := h.2 (o + 2 * k) (by omega)
    obtain ⟨v1, b1⟩ := h.2 (o + 2 * k + 1) (by omega)
    have x0 : xin i 1600 = true := by rw [xin_iff, hi]; omega
    have x1 : xin (i + 1) 1600 = true := by rw [xin_iff, j1]; omega
    have no : ¬ seatAt S f o k → ∃ r : Int32, some (Value.int 0) = some (.int r) ∧ ((r = 1 ∧ allF (seatAt S f o) k (sNR S).toNat) ∨ (r = 0 ∧ ¬ allF (seatAt S f o) k (sNR S).toNat)) ∧ (xSH L dr tl, I, J) = (xSH L dr tl, I, J) := fun z => ⟨0, rfl, Or.inr ⟨rfl, allF_f z (by omega)⟩, rfl⟩
    have yes : seatAt S f o k → PB ((d + 2), 314, 170, [some (.ref 71), some (.int a1), none, some (.int (i + 2))], [], (xSH L dr tl, I, J)) (allF (seatAt S f o) k (sNR S).toNat) (xSH L dr tl, I, J) := fun z => by rw [← allF_s z]; exact ih (k + 1) _ (by omega) j2
    refine w314_170 (brz lt_ti (fun _ => ⟨x0, (m_leaves hb).u fun r2 g2 => ?_⟩) (fun z => by omega))
    rw [i0, i1]
    have s3 : (I 72 (o + 2 * k) - 1).toInt = f (o + 2 * k) - 1 := by rw [sub1 (by omega), v0]
    refine brz lt_ti (fun z => no fun w => ?_) (fun z => ⟨x0, brz eq0 (fun y => ⟨x1, brz gt0 (fun w => no fun u => ?_) (fun w => yes (Or.inl ⟨by omega, by omega⟩))⟩) (fun y => ⟨x1, x0, (m_length hw hb ⟨by omega, by omega⟩).u fun r5 g5 => ?_⟩)⟩)
    · rcases w with w | w
      · omega
      · have := w.2.1.2; omega
    · rcases u with u | u
      · omega
      · omega
    · rw [s3] at g5
      refine brz lt_ti (fun w => yes (Or.inr ⟨by omega, ⟨by omega, by omega⟩, by omega, by omega⟩)) (fun w => no fun u => ?_)
      rcases u with u | u
      · omega
      · have := u.2.2.2; omega
theorem m_signs {n : Nat} (h : tapeM n0 f I) (e2 : a2.toInt = n) (hn : 2 + 3 * (n : Int) ≤ n0) {p : Prop} (no : ¬ allF (sgnAt f) 0 n → ¬ p) (K : allF (sgnAt f) 0 n → PB ((d + 2), 314, 170, [some (.ref 71), some (.int a1), none, some (.int (2 + (3 * a2)))], [], (xSH L dr tl, I, J)) p (xSH L dr tl, I, J)) : ∀ (m k : Nat) (i : Int32), k + m = n → i.toInt = 2 + 3 * k → allF (sgnAt f) k n = allF (sgnAt f) 0 n → PB ((d + 2), 314, 90, [some (.ref 71), some (.int a1), some (.int a2), some (.int i)], [], (xSH L dr tl, I, J)) p (xSH L dr tl, I, J) := by
  have h2 := h.1
  have eA : (2 + 3 * a2).toInt = 2 + 3 * n := by rw [addn (by decide) (by decide) (by rw [mul3 (by omega) (by omega)]; omega) (by rw [mul3 (by omega) (by omega)]; omega), mul3 (by omega) (by omega), e2]; rfl
  intro m
  induction m with
  | zero =>
    intro k i hk hi he
    refine w314_90 (brz lt_ti (fun z => by omega) (fun _ => K ?_))
    rw [← he]; exact allF_e (by omega)
  | succ m ih =>
    intro k i hk hi he
    have j1 : (i + 1).toInt = ((2 + 3 * k + 1 : Nat) : Int) := by rw [add1 (by omega) (by omega), hi]; omega
    have j2 : (i + 2).toInt = ((2 + 3 * k + 2 : Nat) : Int) := by rw [addn (by omega) (by omega) (by decide) (by decide), hi]; show 2 + 3 * (k : Int) + 2 = _; omega
    have j3 : (i + 3).toInt = 2 + 3 * ((k + 1 : Nat) : Int) := by rw [addn (by omega) (by omega) (by decide) (by decide), hi]; show 2 + 3 * (k : Int) + 3 = _; omega
    have i0 : xIx i = 2 + 3 * k := by rw [xIx_ti, hi]; omega
    have i1 : xIx (i + 1) = 2 + 3 * k + 1 := by rw [xIx_ti, j1]; exact Int.toNat_natCast _
    have i2 : xIx (i + 2) = 2 + 3 * k + 2 := by rw [xIx_ti, j2]; exact Int.toNat_natCast _
    obtain ⟨v0, b0⟩ := h.2 (2 + 3 * k) (by omega)
    obtain ⟨v1, b1⟩ := h.2 (2 + 3 * k + 1) (by omega)
    obtain ⟨v2, b2⟩ := h.2 (2 + 3 * k + 2) (by omega)
    have x0 : xin i 1600 = true := by rw [xin_iff, hi]; omega
    have x1 : xin (i + 1) 1600 = true := by rw [xin_iff, j1]; omega
    have x2 : xin (i + 2) 1600 = true := by rw [xin_iff, j2]; omega
    have nn : ¬ sgnAt f k → ∃ r : Int32, some (Value.int 0) = some (.int r) ∧ ((r = 1 ∧ p) ∨ (r = 0 ∧ ¬ p)) ∧ (xSH L dr tl, I, J) = (xSH L dr tl, I, J) := fun z => ⟨0, rfl, Or.inr ⟨rfl, no (by rw [← he]; exact allF_f z (by omega))⟩, rfl⟩
    have yes : sgnAt f k → PB ((d + 2), 314, 90, [some (.ref 71), some (.int a1), some (.int a2), some (.int (i + 3))], [], (xSH L dr tl, I, J)) p (xSH L dr tl, I, J) := fun z => ih (k + 1) _ (by omega) j3 ((allF_s z).trans he)
    refine w314_90 (brz lt_ti (fun _ => ⟨x0, ?_⟩) (fun z => by omega))
    rw [i0, i1, i2]
    refine brz gt26 (fun z => nn fun w => ?_) (fun z => ⟨x1, brz gt99 (fun w => nn fun u => ?_) (fun w => ⟨x0, brz eq0 (fun y => ⟨x1, brz gt0 (fun u => nn fun v => ?_) (fun u => ⟨x2, brz gt26 (fun v => nn fun o => ?_) (fun v => yes ⟨by omega, by rw [if_pos (by omega)]; omega, by omega⟩)⟩)⟩) (fun y => ⟨x2, brz gt26 (fun v => nn fun o => ?_) (fun v => yes ⟨by omega, by rw [if_neg (by omega)]; omega, by omega⟩)⟩)⟩)⟩)
    · have := w.1; omega
    · have := u.2.1
      have h3 : (if f (2 + 3 * k) = 0 then (0 : Int) else 99) ≤ 99 := by split <;> omega
      omega
    · have := v.2.1; rw [if_pos (by omega)] at this; omega
    · have := o.2.2; omega
    · have := o.2.2; omega
theorem m_told_loop2 (hw : WF S) (hb : MIb S I J) (h : tapeM (sTp S) (S 1) I) (e1 : a1.toInt = sTp S) : ∀ (m k : Nat) (s i : Int32), ((k + m : Nat) : Int) = sNL S → i.toInt = k → s.toInt = sumI (S 5) k → PB ((d + 2), 314, 4, [some (.ref 71), some (.int a1), some (.int s), some (.int i)], [], (xSH L dr tl, I, J)) (onOK S) (xSH L dr tl, I, J) := by
  have hLn := hw.2.2.1
  have tb := tot_b hw
  have hN := hw.2.2.2.1
  have h16 := h.1
  intro m
  induction m with
  | zero =>
    intro k s i hk hi hs
    have e2 : s.toInt = tot S := by rw [hs]; unfold tot; rw [show (sNL S).toNat = k by omega]
    have no : ¬ onOK S → ∃ r : Int32, some (Value.int 0) = some (.int r) ∧ ((r = 1 ∧ onOK S) ∨ (r = 0 ∧ ¬ onOK S)) ∧ (xSH L dr tl, I, J) = (xSH L dr tl, I, J) := fun z => ⟨0, rfl, Or.inr ⟨rfl, z⟩, rfl⟩
    refine w314_4 ((m_leaves hb).u fun r1 g1 => brz lt_ti (fun z => by omega) (fun _ => (m_people hb).u fun r3 g3 => ?_))
    have eA : (3 + 3 * s).toInt = 3 + 3 * tot S := by rw [addn (by decide) (by decide) (by rw [mul3 (by omega) (by omega)]; omega) (by rw [mul3 (by omega) (by omega)]; omega), mul3 (by omega) (by omega), e2]; rfl
    have eB : (3 + 3 * s + 2 * r3).toInt = 3 + 3 * tot S + 2 * sNR S := by rw [addn (by omega) (by omega) (by rw [mul2 (by omega) (by omega)]; omega) (by rw [mul2 (by omega) (by omega)]; omega), mul2 (by omega) (by omega), eA, g3]
    refine brz eq_ti (fun y => ?_) (fun y => no fun w => y (by rw [e1, eB]; exact w.1))
    rw [e1, eB] at y
    have s1 : (a1 - 1).toInt = sTp S - 1 := by rw [sub1 (by omega), e1]
    have x1 : xIx (a1 - 1) = (sTp S - 1).toNat := by rw [xIx_ti, s1]
    have vl := (h.2 (sTp S - 1).toNat (by omega)).1
    refine ⟨by rw [xin_iff, s1]; omega, (m_check (n0 := sTp S) (Or.inl rfl) (by omega) h.2 (by omega) (by omega)).u fun r5 g5 => ?_⟩
    rw [s1] at g5
    rw [x1]
    obtain ⟨v0, b0⟩ := h.2 0 (by omega)
    obtain ⟨v1, b1⟩ := h.2 1 (by omega)
    have eH : (256 * I 72 0 + I 72 1).toInt = 256 * S 1 0 + S 1 1 := by rw [addn (by rw [mul_ti (by show _ ≤ 256 * (I 72 0).toInt; omega) (by show 256 * (I 72 0).toInt < _; omega)]; show _ ≤ 256 * (I 72 0).toInt; omega) (by rw [mul_ti (by show _ ≤ 256 * (I 72 0).toInt; omega) (by show 256 * (I 72 0).toInt < _; omega)]; show 256 * (I 72 0).toInt ≤ _; omega) (by omega) (by omega), mul_ti (by show _ ≤ 256 * (I 72 0).toInt; omega) (by show 256 * (I 72 0).toInt < _; omega), v1, v0]; rfl
    refine brz eq_ti (fun z => brz gt9999 (fun w => no fun u => ?_) (fun w => ?_)) (fun z => no fun w => z (by rw [vl, g5]; exact w.2.1))
    · have := u.2.2.1; omega
    · rw [vl, g5] at z
      have eC : (2 + 3 * s).toInt = ((2 + 3 * tot S).toNat : Int) + 2 * ((0 : Nat) : Int) := by rw [addn (by decide) (by decide) (by rw [mul3 (by omega) (by omega)]; omega) (by rw [mul3 (by omega) (by omega)]; omega), mul3 (by omega) (by omega), e2]; show 2 + 3 * tot S = _; omega
      refine m_signs (n := (tot S).toNat) (p := onOK S) h (by omega) (by omega) (fun u v => u v.2.2.2.1) (fun u => ?_) (tot S).toNat 0 2 (by omega) rfl rfl
      have pe : allF (seatAt S (S 1) (2 + 3 * tot S).toNat) 0 (sNR S).toNat = onOK S := propext ⟨fun v => ⟨y, z, by omega, u, v⟩, fun v => v.2.2.2.2⟩
      rw [← pe]
      exact m_seats (o := (2 + 3 * tot S).toNat) hw hb h (by omega) (by omega) (sNR S).toNat 0 _ (by omega) eC
  | succ m ih =>
    intro k s i hk hi hs
    have i1 : (i + 1).toInt = ((k + 1 : Nat) : Int) := by rw [add1 (by omega) (by omega), hi]; rfl
    have sb := sumL_b hw k (by omega)
    have lb := hLn.2.2 k (by omega)
    refine w314_4 ((m_leaves hb).u fun r1 g1 => brz lt_ti (fun _ => (m_length hw hb ⟨by omega, by omega⟩).u fun r8 g8 => ih (k + 1) _ _ (by omega) i1 ?_) (fun z => by omega))
    rw [hi, Int.toNat_natCast] at g8
    rw [addn (by omega) (by omega) (by omega) (by omega), hs, g8]; rfl
end ON2
