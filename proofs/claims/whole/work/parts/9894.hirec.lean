/-! ===== hire: the class's search ===== -/
def fI (I : Nat → Nat → Int32) (j : Nat) : Int := (I 63 j).toInt
def kI (I : Nat → Nat → Int32) (r : Nat) : Int := (I 66 r).toInt
section HIREC
variable {S : aS} {L d dr tl : Nat} {I I0 I1 : Nat → Nat → Int32} {J : Nat → Nat → Int64} {a1 a2 a3 a4 a5 x : Int32} {r q p m : Nat} {f : Nat → Int} {F X T P : Int} {Q : Option Value → xMem → Prop}
/-- the search touches only what it keeps and its row -/
def frH (I I1 : Nat → Nat → Int32) : Prop := (∀ a : Nat, a ≠ 62 → a ≠ 65 → a ≠ 66 → I1 a = I a) ∧ ∀ j : Nat, j ≠ 5 → j ≠ 6 → I1 62 j = I 62 j
theorem frH_refl : frH I I := ⟨fun _ _ _ _ => rfl, fun _ _ _ => rfl⟩
theorem frH.tr {I2 : Nat → Nat → Int32} (h : frH I I1) (h' : frH I1 I2) : frH I I2 := ⟨fun a g1 g2 g3 => (h'.1 a g1 g2 g3).trans (h.1 a g1 g2 g3), fun j g1 g2 => (h'.2 j g1 g2).trans (h.2 j g1 g2)⟩
/-- what is kept, in the cells -/
def KC (f : Nat → Int) (I : Nat → Nat → Int32) (D : (Nat → Int) → Prop) : Prop := keptC f (I 62 5).toInt (I 62 6).toInt (kI I) D
theorem most_loop {c : Nat} (hk : c = 63 ∨ c = 65) {N : Nat} {g : Nat → Int} (hN : N + N = clen c ∨ N + N = 16) (hN2 : N + N ≤ clen c) (h16 : N ≤ 8) (e1 : a1.toInt = ((N + N : Nat) : Int)) (hg : ∀ j : Nat, j < N → (I c (2 * j + 1)).toInt = g j) : ∀ (m k : Nat) (v i : Int32), k + m = N → i.toInt = 2 * k + 1 → v.toInt = maxI g k → PI ((d + 2), 34, 4, [some (.ref c), some (.int a1), some (.int v), some (.int i)], [], (xSH L dr tl, I, J)) (maxI g N) (xSH L dr tl, I, J) := by
  have hcl : clen c ≤ 20 := by rcases hk with rfl | rfl <;> decide
  have ec : (Int32.ofNat (clen c)).toInt = clen c := by rcases hk with rfl | rfl <;> rfl
  intro m
  induction m with
  | zero =>
    intro k v i hk' hi hv
    have e : N = k := by omega
    subst e
    refine w34_4 hk (brz lt_ti (fun z => by omega) (fun _ => ⟨v, rfl, hv, rfl⟩))
  | succ m ih =>
    intro k v i hk' hi hv
    have i2 : (i + 2).toInt = 2 * ((k + 1 : Nat) : Int) + 1 := by rw [addn (by omega) (by omega) (by decide) (by decide)]; show i.toInt + 2 = _; omega
    have xi : xIx i = 2 * k + 1 := by rw [xIx_ti, hi]; omega
    refine w34_4 hk (brz lt_ti (fun _ => brz lt_ti (fun _ => ⟨by rw [xin_iff, hi]; omega, s_max.u fun r3 g3 => ih (k + 1) _ _ (by omega) i2 ?_⟩) (fun z => ?_)) (fun z => by omega))
    · rw [xi, hg k (by omega), hv] at g3
      rw [g3]; rfl
    · rw [ec, hi] at z; omega
theorem maxI_le {g : Nat → Int} : ∀ n : Nat, 0 ≤ maxI g n ∧ ∀ j : Nat, j < n → g j ≤ maxI g n := by
  intro n
  induction n with
  | zero => exact ⟨(by decide : (0 : Int) ≤ 0), fun j hj => by omega⟩
  | succ n ih =>
    have e : maxI g (n + 1) = max (maxI g n) (g n) := rfl
    refine ⟨by omega, fun j hj => ?_⟩
    by_cases c : j = n
    · rw [c]; omega
    · have := ih.2 j (by omega); omega
theorem maxI_ub {g : Nat → Int} {B : Int} (hB : 0 ≤ B) : ∀ n : Nat, (∀ j : Nat, j < n → g j ≤ B) → maxI g n ≤ B := by
  intro n
  induction n with
  | zero => intro _; exact hB
  | succ n ih =>
    intro h
    have e : maxI g (n + 1) = max (maxI g n) (g n) := rfl
    have h1 := ih (fun j hj => h j (by omega))
    have h2 := h n (by omega)
    omega
theorem cand_b (h : askOK f) (hF : 0 ≤ F ∧ F ≤ 99) (hX : 0 ≤ X ∧ X ≤ 99) : (0 ≤ cT0 f F X ∧ cT0 f F X ≤ 99) ∧ (0 ≤ cU0 f F X ∧ cU0 f F X ≤ 99) ∧ cLk f F X ≤ 99 ∧ -200 ≤ cLk f F X := by
  have b := h.b
  have e1 : cT0 f F X = max (max (f 4) (f 5 - F)) (max (f 6) (f 7 - F) - X) := rfl
  have e2 : cU0 f F X = max (max (f 8) (f 9 - F)) (max (f 10) (f 11 - F) - X) := rfl
  have e3 : cLk f F X = max (max (f 12) (f 13 - F)) (max (f 14) (f 15 - F) - X) - cT0 f F X - cU0 f F X := rfl
  have c1 : 0 ≤ cT0 f F X ∧ cT0 f F X ≤ 99 := by omega
  have c2 : 0 ≤ cU0 f F X ∧ cU0 f F X ≤ 99 := by omega
  have c3 : 0 ≤ max (max (f 12) (f 13 - F)) (max (f 14) (f 15 - F) - X) ∧ max (max (f 12) (f 13 - F)) (max (f 14) (f 15 - F) - X) ≤ 99 := by omega
  rw [e3]
  exact ⟨c1, c2, by omega, by omega⟩
theorem cTU_b (h : askOK f) (hF : 0 ≤ F ∧ F ≤ 99) (hX : 0 ≤ X ∧ X ≤ 99) : (0 ≤ cT f F X ∧ cT f F X ≤ 198) ∧ (0 ≤ cU f F X ∧ cU f F X ≤ 198) := by
  have b := cand_b h hF hX
  unfold cT cU
  constructor <;> split <;> omega
theorem pay_ti {u v : Int32} (h1 : 0 ≤ u.toInt ∧ u.toInt ≤ 198) (h2 : 0 ≤ v.toInt ∧ v.toInt ≤ 99) : (u * v).toInt = u.toInt * v.toInt ∧ 0 ≤ u.toInt * v.toInt ∧ u.toInt * v.toInt ≤ 19602 := by
  have k1 : 0 ≤ u.toInt * v.toInt := Int.mul_nonneg h1.1 h2.1
  have k2 : u.toInt * v.toInt ≤ 198 * 99 := Int.mul_le_mul h1.2 h2.2 h2.1 (by decide)
  exact ⟨mul_ti (by omega) (by omega), k1, by omega⟩
theorem s_keep {R : (Nat → Nat → Int32) → (Nat → Nat → Int64) → Prop} (ha : askOK f) (hf : ∀ j : Nat, j < 20 → fI I j = f j) (e1 : a1.toInt = F) (e2 : a2.toInt = X) (e3 : a3.toInt = cT f F X) (e4 : a4.toInt = cU f F X) (hF : 0 ≤ F ∧ F ≤ 99) (hX : 0 ≤ X ∧ X ≤ 99) (h1 : f 1 ≤ F) (hX1 : rsv f F 1 ≤ X) (hk : KC f I (befC F X)) (K : ∀ I1 : Nat → Nat → Int32, frH I I1 → KC f I1 (befC F (X + 1)) → I1 65 = I 65 → R I1 J) : WP ((d + 1), 36, 0, [some (.ref 62), some (.int a1), some (.int a2), some (.int a3), some (.int a4), none, none], [], (xSH L dr tl, I, J)) (fun v M => ∃ (I2 : Nat → Nat → Int32) (J2 : Nat → Nat → Int64), v = none ∧ M = (xSH L dr tl, I2, J2) ∧ R I2 J2) := by
  have tu := cTU_b ha hF hX
  have p0 := ha.2.2 0 (by decide)
  have p1 := ha.2.2 1 (by decide)
  have p2 := ha.2.2 2 (by decide)
  have p3 := ha.2.2 3 (by decide)
  have f16 : (I 63 16).toInt = f 16 := hf 16 (by decide)
  have f17 : (I 63 17).toInt = f 17 := hf 17 (by decide)
  have f18 : (I 63 18).toInt = f 18 := hf 18 (by decide)
  have f19 : (I 63 19).toInt = f 19 := hf 19 (by decide)
  have tt : (a1 + a2 + a3 + a4).toInt = hTot (cand f F X) := by
    rw [addn (by rw [addn (by rw [addn (by omega) (by omega) (by omega) (by omega)]; omega) (by rw [addn (by omega) (by omega) (by omega) (by omega)]; omega) (by omega) (by omega), addn (by omega) (by omega) (by omega) (by omega)]; omega) (by rw [addn (by rw [addn (by omega) (by omega) (by omega) (by omega)]; omega) (by rw [addn (by omega) (by omega) (by omega) (by omega)]; omega) (by omega) (by omega), addn (by omega) (by omega) (by omega) (by omega)]; omega) (by omega) (by omega), addn (by rw [addn (by omega) (by omega) (by omega) (by omega)]; omega) (by rw [addn (by omega) (by omega) (by omega) (by omega)]; omega) (by omega) (by omega), addn (by omega) (by omega) (by omega) (by omega), e1, e2, e3, e4]; rfl
  have q0 := pay_ti (u := a1) (v := I 63 16) (by omega) (by rw [f16]; exact p0)
  have q1 := pay_ti (u := a2) (v := I 63 17) (by omega) (by rw [f17]; exact p1)
  have q2 := pay_ti (u := a3) (v := I 63 18) (by omega) (by rw [f18]; exact p2)
  have q3 := pay_ti (u := a4) (v := I 63 19) (by omega) (by rw [f19]; exact p3)
  have s1 : (a1 * I 63 16 + a2 * I 63 17).toInt = a1.toInt * (I 63 16).toInt + a2.toInt * (I 63 17).toInt := by rw [addn (by omega) (by omega) (by omega) (by omega), q0.1, q1.1]
  have s2 : (a1 * I 63 16 + a2 * I 63 17 + a3 * I 63 18).toInt = a1.toInt * (I 63 16).toInt + a2.toInt * (I 63 17).toInt + a3.toInt * (I 63 18).toInt := by rw [addn (by omega) (by omega) (by omega) (by omega), s1, q2.1]
  have s3 : (a1 * I 63 16 + a2 * I 63 17 + a3 * I 63 18 + a4 * I 63 19).toInt = a1.toInt * (I 63 16).toInt + a2.toInt * (I 63 17).toInt + a3.toInt * (I 63 18).toInt + a4.toInt * (I 63 19).toInt := by rw [addn (by omega) (by omega) (by omega) (by omega), s2, q3.1]
  have pp : (a1 * I 63 16 + a2 * I 63 17 + a3 * I 63 18 + a4 * I 63 19).toInt = hPay f (cand f F X) := by rw [s3, f16, f17, f18, f19, e1, e2, e3, e4]; rfl
  have tb : hTot (cand f F X) < 1000000 := by
    have : hTot (cand f F X) = F + X + cT f F X + cU f F X := rfl
    omega
  have pbb : hPay f (cand f F X) < 100000000 := by rw [← pp, s3]; omega
  have done : ∀ (hn : hTot (cand f F X) < (I 62 5).toInt ∨ (hTot (cand f F X) = (I 62 5).toInt ∧ hPay f (cand f F X) < (I 62 6).toInt)), R (xwI (xwI (xwI (xwI (xwI (xwI I 62 5 (a1 + a2 + a3 + a4)) 62 6 (a1 * I 63 16 + a2 * I 63 17 + a3 * I 63 18 + a4 * I 63 19)) 66 0 a1) 66 1 a2) 66 2 a3) 66 3 a4) J := by
    intro hn
    refine K _ ⟨fun a g1 g2 g3 => ?_, fun j g1 g2 => ?_⟩ ?_ rfl
    · rw [xwI_ne g3, xwI_ne g3, xwI_ne g3, xwI_ne g3, xwI_ne g1, xwI_ne g1]
    · rw [xwI_ne (by decide), xwI_ne (by decide), xwI_ne (by decide), xwI_ne (by decide), xgn g2, xgn g1]
    · unfold KC
      have t5 : (xwI (xwI (xwI (xwI (xwI (xwI I 62 5 (a1 + a2 + a3 + a4)) 62 6 (a1 * I 63 16 + a2 * I 63 17 + a3 * I 63 18 + a4 * I 63 19)) 66 0 a1) 66 1 a2) 66 2 a3) 66 3 a4 62 5).toInt = hTot (cand f F X) := tt
      have t6 : (xwI (xwI (xwI (xwI (xwI (xwI I 62 5 (a1 + a2 + a3 + a4)) 62 6 (a1 * I 63 16 + a2 * I 63 17 + a3 * I 63 18 + a4 * I 63 19)) 66 0 a1) 66 1 a2) 66 2 a3) 66 3 a4 62 6).toInt = hPay f (cand f F X) := pp
      rw [t5, t6]
      have base : keptC f (I 62 5).toInt (I 62 6).toInt (kI I) (befC F X) := hk
      exact kept_yes (k := kI (xwI (xwI (xwI (xwI (xwI (xwI I 62 5 (a1 + a2 + a3 + a4)) 62 6 (a1 * I 63 16 + a2 * I 63 17 + a3 * I 63 18 + a4 * I 63 19)) 66 0 a1) 66 1 a2) 66 2 a3) 66 3 a4)) ha h1 hX1 hn tb pbb e1 e2 e3 e4 base
  refine w36_0 (brz lt_ti (fun z => ⟨_, _, rfl, rfl, K I frH_refl (kept_no hk ha h1 hX1 (Or.inl (by rw [tt] at z; exact z)) tb) rfl⟩) (fun z => brz lt_ti (fun y => ⟨_, _, rfl, rfl, done (Or.inl (by rw [tt] at y; exact y))⟩) (fun y => brz lt_ti (fun w => ⟨_, _, rfl, rfl, done (Or.inr ⟨by omega, by rw [pp] at w; exact w⟩)⟩) (fun w => ⟨_, _, rfl, rfl, K I frH_refl (kept_no hk ha h1 hX1 (Or.inr ⟨by omega, by omega⟩) tb) rfl⟩))))
end HIREC
