/-! ===== on: what is asked of an image ===== -/
def allF (P : Nat → Prop) (k n : Nat) : Prop := ∀ i : Nat, k ≤ i → i < n → P i
theorem allF_s {P : Nat → Prop} {k n : Nat} (h : P k) : allF P (k + 1) n = allF P k n := propext ⟨fun z i h1 h2 => by
  by_cases e : i = k
  · rw [e]; exact h
  · exact z i (by omega) h2, fun z i h1 h2 => z i (by omega) h2⟩
theorem allF_e {P : Nat → Prop} {k n : Nat} (h : n ≤ k) : allF P k n := fun i h1 h2 => by omega
theorem allF_f {P : Nat → Prop} {k n : Nat} (h : ¬ P k) (hk : k < n) : ¬ allF P k n := fun z => h (z k (Nat.le_refl _) hk)
def tot (S : aS) : Int := sumI (S 5) (sNL S).toNat
def sgnOK (x y z : Int) : Prop := x ≤ 26 ∧ y ≤ (if x = 0 then 0 else 99) ∧ z ≤ 26
def seatOK (S : aS) (x y : Int) : Prop := (x = 0 ∧ y = 0) ∨ (x ≠ 0 ∧ isP S (x - 1) y)
def sgnAt (f : Nat → Int) (i : Nat) : Prop := sgnOK (f (2 + 3 * i)) (f (2 + 3 * i + 1)) (f (2 + 3 * i + 2))
def seatAt (S : aS) (f : Nat → Int) (o r : Nat) : Prop := seatOK S (f (o + 2 * r)) (f (o + 2 * r + 1))
def onOK (S : aS) : Prop := sTp S = 3 + 3 * tot S + 2 * sNR S ∧ S 1 (sTp S - 1).toNat = ckS (S 1) (sTp S - 1).toNat ∧ 256 * S 1 0 + S 1 1 ≤ 9999 ∧ allF (sgnAt (S 1)) 0 (tot S).toNat ∧ allF (seatAt S (S 1) (2 + 3 * tot S).toNat) 0 (sNR S).toNat
theorem sumL_b {S : aS} (hw : WF S) : ∀ k : Nat, (k : Int) ≤ sNL S → 0 ≤ sumI (S 5) k ∧ sumI (S 5) k ≤ 64 * k := by
  intro k hk
  exact sumI_b k (fun i hi => by have := hw.2.2.1.2.2 i (by omega); omega)
theorem tot_b {S : aS} (hw : WF S) : 0 ≤ tot S ∧ tot S ≤ 512 := by
  have h1 := hw.2.2.1
  have h2 := sumL_b hw (sNL S).toNat (by omega)
  unfold tot; omega
section ON
variable {S T : aS} {L d dr tl t : Nat} {I : Nat → Nat → Int32} {J : Nat → Nat → Int64} {a1 a2 a3 a4 a5 x : Int32} {f : Nat → Int} {n0 : Int} {Q : Option Value → xMem → Prop}
theorem CInv.tape3 (q : CInv S dr tl I J) : tapeAt 3 (sTp S) (S 1) I := ⟨q.2.2.2.2.2.2.2.1.1, q.1.1.2.1, fun j hj => ⟨q.2.2.2.2.2.2.2.1.2 j hj, q.1.1.2.2 j hj⟩⟩
theorem mul3 {a : Int32} (h1 : 0 ≤ a.toInt) (h2 : a.toInt ≤ 100000) : (3 * a).toInt = 3 * a.toInt := by rw [mul_ti (by show _ ≤ 3 * a.toInt; omega) (by show 3 * a.toInt < _; omega)]; rfl
theorem mul2 {a : Int32} (h1 : 0 ≤ a.toInt) (h2 : a.toInt ≤ 100000) : (2 * a).toInt = 2 * a.toInt := by rw [mul_ti (by show _ ≤ 2 * a.toInt; omega) (by show 2 * a.toInt < _; omega)]; rfl
theorem addn {a b : Int32} (h1 : -1000000 ≤ a.toInt) (h2 : a.toInt ≤ 1000000) (h3 : -1000000 ≤ b.toInt) (h4 : b.toInt ≤ 1000000) : (a + b).toInt = a.toInt + b.toInt := add_ti (by omega) (by omega)
theorem signs_loop {n : Nat} (ht : t = 3 ∨ t = 5) (h : tapeAt t n0 f I) (e1 : a1.toInt = 2 + 3 * n) (hn : 2 + 3 * (n : Int) ≤ n0) : ∀ (m k : Nat) (i : Int32), k + m = n → i.toInt = 2 + 3 * k → PB ((d + 2), 41, 2, [some (.ref t), some (.int a1), some (.int i), none, none], [], (xSH L dr tl, I, J)) (allF (sgnAt f) k n) (xSH L dr tl, I, J) := by
  have h2 := h.2.1
  intro m
  induction m with
  | zero =>
    intro k i hk hi
    exact w41_2 ht (brz lt_ti (fun z => by omega) (fun _ => ⟨1, rfl, Or.inl ⟨rfl, allF_e (by omega)⟩, rfl⟩))
  | succ m ih =>
    intro k i hk hi
    have i1 : (i + 1).toInt = ((2 + 3 * k + 1 : Nat) : Int) := by rw [add1 (by omega) (by omega), hi]; omega
    have i2 : (i + 2).toInt = ((2 + 3 * k + 2 : Nat) : Int) := by rw [addn (by omega) (by omega) (by decide) (by decide), hi]; show 2 + 3 * (k : Int) + 2 = _; omega
    have i3 : (i + 3).toInt = 2 + 3 * ((k + 1 : Nat) : Int) := by rw [addn (by omega) (by omega) (by decide) (by decide), hi]; show 2 + 3 * (k : Int) + 3 = _; omega
    have i0 : i.toInt = ((2 + 3 * k : Nat) : Int) := by omega
    have b0 := (h.2.2 (2 + 3 * k) (by omega)).2
    have b1 := (h.2.2 (2 + 3 * k + 1) (by omega)).2
    have b2 := (h.2.2 (2 + 3 * k + 2) (by omega)).2
    have no : ¬ sgnAt f k → ∃ r : Int32, some (Value.int 0) = some (.int r) ∧ ((r = 1 ∧ allF (sgnAt f) k n) ∨ (r = 0 ∧ ¬ allF (sgnAt f) k n)) ∧ (xSH L dr tl, I, J) = (xSH L dr tl, I, J) := fun z => ⟨0, rfl, Or.inr ⟨rfl, allF_f z (by omega)⟩, rfl⟩
    have yes : sgnAt f k → PB ((d + 2), 41, 2, [some (.ref t), some (.int a1), some (.int (i + 3)), none, none], [], (xSH L dr tl, I, J)) (allF (sgnAt f) k n) (xSH L dr tl, I, J) := fun z => by rw [← allF_s z]; exact ih (k + 1) _ (by omega) i3
    refine w41_2 ht (brz lt_ti (fun _ => (s_byte ht h (by omega) (by omega)).u fun r2 g2 => ?_) (fun z => by omega))
    rw [i0, Int.toNat_natCast] at g2
    refine brz eq0 (fun y => brz gt26 (fun z => by omega) (fun z => (s_byte ht h (by omega) (by omega)).u fun r10 g10 => ?_)) (fun y => brz gt26 (fun z => no fun w => ?_) (fun z => (s_byte ht h (by omega) (by omega)).u fun r5 g5 => ?_))
    · rw [i1, Int.toNat_natCast] at g10
      refine brz gt0 (fun w => no fun u => ?_) (fun w => (s_byte ht h (by omega) (by omega)).u fun r12 g12 => ?_)
      · have := u.2.1; rw [if_pos (by omega)] at this; omega
      · rw [i2, Int.toNat_natCast] at g12
        refine brz gt26 (fun u => no fun v => ?_) (fun u => yes ⟨by omega, by rw [if_pos (by omega)]; omega, by omega⟩)
        have := v.2.2; omega
    · have := w.1; omega
    · rw [i1, Int.toNat_natCast] at g5
      refine brz gt99 (fun w => no fun u => ?_) (fun w => (s_byte ht h (by omega) (by omega)).u fun r12 g12 => ?_)
      · have := u.2.1; rw [if_neg (by omega)] at this; omega
      · rw [i2, Int.toNat_natCast] at g12
        refine brz gt26 (fun u => no fun v => ?_) (fun u => yes ⟨by omega, by rw [if_neg (by omega)]; omega, by omega⟩)
        have := v.2.2; omega
theorem seats_loop {o : Nat} {B : Nat} (hB : B = 8 ∨ B = 31) (hw : WF S) (hb : CIb S B I) (ht : t = 3 ∨ t = 5) (h : tapeAt t n0 f I) (e2 : a2.toInt = o) (ho : (o : Int) + 2 * sNR S ≤ n0) : ∀ (m k : Nat) (i : Int32), ((k + m : Nat) : Int) = sNR S → i.toInt = k → PB ((d + 3), 42, 2, [some (.ref B), some (.ref t), some (.int a2), some (.int i), none, none, none], [], (xSH L dr tl, I, J)) (allF (seatAt S f o) k (sNR S).toNat) (xSH L dr tl, I, J) := by
  have h2 := h.2.1
  have hN := hw.2.2.2.1.2.1
  intro m
  induction m with
  | zero =>
    intro k i hk hi
    exact w42_2 hB ht ((s_size (sp7 hB) hb.1.2.2.1).u fun r1 g1 => brz lt_ti (fun z => by omega) (fun _ => ⟨1, rfl, Or.inl ⟨rfl, allF_e (by omega)⟩, rfl⟩))
  | succ m ih =>
    intro k i hk hi
    have i1 : (i + 1).toInt = ((k + 1 : Nat) : Int) := by rw [add1 (by omega) (by omega), hi]; rfl
    have e3 : (a2 + 2 * i).toInt = ((o + 2 * k : Nat) : Int) := by rw [addn (by omega) (by omega) (by rw [mul2 (by omega) (by omega)]; omega) (by rw [mul2 (by omega) (by omega)]; omega), mul2 (by omega) (by omega), e2, hi]; omega
    have e4 : (a2 + 2 * i + 1).toInt = ((o + 2 * k + 1 : Nat) : Int) := by rw [add1 (by omega) (by omega), e3]; omega
    have b0 := (h.2.2 (o + 2 * k) (by omega)).2
    have b1 := (h.2.2 (o + 2 * k + 1) (by omega)).2
    have no : ¬ seatAt S f o k → ∃ r : Int32, some (Value.int 0) = some (.int r) ∧ ((r = 1 ∧ allF (seatAt S f o) k (sNR S).toNat) ∨ (r = 0 ∧ ¬ allF (seatAt S f o) k (sNR S).toNat)) ∧ (xSH L dr tl, I, J) = (xSH L dr tl, I, J) := fun z => ⟨0, rfl, Or.inr ⟨rfl, allF_f z (by omega)⟩, rfl⟩
    have yes : seatAt S f o k → PB ((d + 3), 42, 2, [some (.ref B), some (.ref t), some (.int a2), some (.int (i + 1)), none, none, none], [], (xSH L dr tl, I, J)) (allF (seatAt S f o) k (sNR S).toNat) (xSH L dr tl, I, J) := fun z => by rw [← allF_s z]; exact ih (k + 1) _ (by omega) i1
    refine w42_2 hB ht ((s_size (sp7 hB) hb.1.2.2.1).u fun r1 g1 => brz lt_ti (fun _ => (s_byte ht h (by omega) (by omega)).u fun r3 g3 => (s_byte ht h (by omega) (by omega)).u fun r4 g4 => ?_) (fun z => by omega))
    rw [e3, Int.toNat_natCast] at g3
    rw [e4, Int.toNat_natCast] at g4
    have e5 : (r3 - 1).toInt = f (o + 2 * k) - 1 := by rw [sub1 (by omega), g3]
    refine brz eqm (fun y => brz eq0 (fun z => yes (Or.inl ⟨by omega, by omega⟩)) (fun z => no fun w => ?_)) (fun y => (s_hasPlace hw hB hb).u (fun z => br1 (yes (Or.inr ⟨by omega, ?_⟩))) (fun z => br0 (no fun w => ?_)))
    · rcases w with w | w
      · omega
      · omega
    · rw [e5, g4] at z; exact z
    · rw [e5, g4] at z
      rcases w with w | w
      · omega
      · exact z w.2
theorem such_loop (q : CInv S dr tl I J) : ∀ (m k : Nat) (s i : Int32), ((k + m : Nat) : Int) = sNL S → i.toInt = k → s.toInt = sumI (S 5) k → PB ((d + 5), 39, 4, [some (.ref 30), some (.ref 3), some (.int s), some (.int i), none], [], (xSH L dr tl, I, J)) (onOK S) (xSH L dr tl, I, J) := by
  have hc := q.cb
  have hLn := q.1.2.2.1
  intro m
  induction m with
  | zero =>
    intro k s i hk hi hs
    have e2 : s.toInt = tot S := by rw [hs]; unfold tot; rw [show (sNL S).toNat = k by omega]
    refine w39_4 (Or.inl rfl) hc.2.1 ((s_told hc.2.1).v ((s_size (sp4 hc.2.1) hc.2.2.1.1.2.1).u fun r2 h2 => brz lt_ti (fun z => by omega) (fun _ => (s_told hc.2.1).v ((s_size (sp7 hc.2.1) hc.2.2.1.1.2.2.1).u fun r5 e5 => w116_0 (Or.inl rfl) ⟨_, _, _, rfl, rfl, ?_⟩))))
    have tp := q.tape3
    have tb := tot_b q.1
    have hN := q.1.2.2.2.1
    have eA : (2 + 3 * s).toInt = 2 + 3 * tot S := by rw [addn (by decide) (by decide) (by rw [mul3 (by omega) (by omega)]; omega) (by rw [mul3 (by omega) (by omega)]; omega), mul3 (by omega) (by omega), e2]; rfl
    have eB : (2 + 3 * s + 2 * r5).toInt = 2 + 3 * tot S + 2 * sNR S := by rw [addn (by omega) (by omega) (by rw [mul2 (by omega) (by omega)]; omega) (by rw [mul2 (by omega) (by omega)]; omega), mul2 (by omega) (by omega), eA, e5]
    have eC : (2 + 3 * s + 2 * r5 + 1).toInt = 3 + 3 * tot S + 2 * sNR S := by rw [add1 (by omega) (by omega), eB]; omega
    have no : ¬ onOK S → ∃ r : Int32, some (Value.int 0) = some (.int r) ∧ ((r = 1 ∧ onOK S) ∨ (r = 0 ∧ ¬ onOK S)) ∧ (xSH L dr tl, I, J) = (xSH L dr tl, I, J) := fun z => ⟨0, rfl, Or.inr ⟨rfl, z⟩, rfl⟩
    refine brz eq_ti (fun y => ?_) (fun y => no fun w => ?_)
    · rw [tp.1, eC] at y
      have yn : sTp S - 1 = 2 + 3 * tot S + 2 * sNR S := by omega
      refine (s_byte (Or.inl rfl) tp (by omega) (by omega)).u fun r8 g8 => (s_check (Or.inl rfl) tp (by omega) (by omega)).u fun r9 g9 => ?_
      rw [eB, ← yn] at g8 g9
      refine brz eq_ti (fun z => ?_) (fun z => no fun w => z (by rw [g8, g9]; exact w.2.1))
      rw [g8, g9] at z
      refine w40_0 (Or.inl rfl) ((s_byte (Or.inl rfl) tp (by decide) (by show (0 : Int) < _; omega)).u fun r1 g1 => (s_byte (Or.inl rfl) tp (by decide) (by show (1 : Int) < _; omega)).u fun r2 g2 => ⟨_, _, _, rfl, rfl, ?_⟩)
      have b0 := (tp.2.2 0 (by show (0 : Int) < _; omega)).2
      have b1 := (tp.2.2 1 (by show (1 : Int) < _; omega)).2
      have g1' : r1.toInt = S 1 0 := g1
      have g2' : r2.toInt = S 1 1 := g2
      have eH : (256 * r1 + r2).toInt = 256 * S 1 0 + S 1 1 := by rw [addn (by rw [mul_ti (by show _ ≤ 256 * r1.toInt; omega) (by show 256 * r1.toInt < _; omega)]; show _ ≤ 256 * r1.toInt; omega) (by rw [mul_ti (by show _ ≤ 256 * r1.toInt; omega) (by show 256 * r1.toInt < _; omega)]; show 256 * r1.toInt ≤ _; omega) (by omega) (by omega), mul_ti (by show _ ≤ 256 * r1.toInt; omega) (by show 256 * r1.toInt < _; omega), g2']; show 256 * r1.toInt + _ = _; omega
      have sg1 : PB ((d + 4), 41, 0, [some (.ref 3), some (.int (2 + (3 * s))), none, none, none], [], (xSH L dr tl, I, J)) (allF (sgnAt (S 1)) 0 (tot S).toNat) (xSH L dr tl, I, J) := w41_0 (Or.inl rfl) (signs_loop (n := (tot S).toNat) (Or.inl rfl) tp (by omega) (by omega) (tot S).toNat 0 2 (by omega) rfl)
      have st1 : PB ((d + 4), 42, 0, [some (.ref tl), some (.ref 3), some (.int (2 + (3 * s))), none, none, none, none], [], (xSH L dr tl, I, J)) (allF (seatAt S (S 1) (2 + 3 * tot S).toNat) 0 (sNR S).toNat) (xSH L dr tl, I, J) := w42_0 hc.2.1 (Or.inl rfl) (seats_loop (o := (2 + 3 * tot S).toNat) hc.2.1 hc.1 hc.2.2.1 (Or.inl rfl) tp (by omega) (by omega) (sNR S).toNat 0 0 (by omega) rfl)
      refine brz gt9999 (fun w => no fun v => ?_) (fun w => sg1.u (fun u => br1 ((s_told hc.2.1).v (st1.u (fun v => br1 ⟨1, rfl, Or.inl ⟨rfl, ?_⟩, rfl⟩) (fun v => br0 (no fun o => v o.2.2.2.2))))) (fun u => br0 (no fun o => u o.2.2.2.1)))
      · have := v.2.2.1; omega
      · exact ⟨by omega, z, by omega, u, v⟩
    · rw [tp.1, eC] at y
      exact y w.1
  | succ m ih =>
    intro k s i hk hi hs
    have e1 : (i + 1).toInt = ((k + 1 : Nat) : Int) := by rw [add1 (by omega) (by omega), hi]; rfl
    have sb := sumL_b q.1 k (by omega)
    have lb := hLn.2.2 k (by omega)
    have pk : plc S i.toInt = S 5 k := by rw [hi]; unfold plc; rw [if_pos ⟨by omega, by omega⟩, Int.toNat_natCast]
    refine w39_4 (Or.inl rfl) hc.2.1 ((s_told hc.2.1).v ((s_size (sp4 hc.2.1) hc.2.2.1.1.2.1).u fun r2 h2 => brz lt_ti (fun _ => (s_told hc.2.1).v ((s_placesOf hc.1 hc.2.1 hc.2.2.1).u fun r19 h19 => ih (k + 1) _ _ (by omega) e1 ?_)) (fun z => by omega)))
    rw [addn (by omega) (by omega) (by omega) (by omega), hs, h19, pk]; rfl
end ON
