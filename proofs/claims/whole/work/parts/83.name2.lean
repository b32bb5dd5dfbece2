/-! ===== letter: the reference's names are numbers ===== -/
theorem bm64 {z : Int} (h1 : -9223372036854775808 ≤ z) (h2 : z < 9223372036854775808) : z.bmod 18446744073709551616 = z := by
  rw [Int.bmod_eq_of_le_mul_two] <;> omega
theorem div27 {a : Int64} (h1 : 0 ≤ a.toInt) (h2 : a.toInt < 1000000000) : (a / 27).toInt = a.toInt / 27 := by
  rw [Int64.toInt_div]
  have h4 : a.toInt.tdiv (27 : Int64).toInt = a.toInt / 27 := Int.tdiv_eq_ediv_of_nonneg h1
  rw [h4]
  exact bm64 (by omega) (by omega)
theorem rem27 {a : Int64} (h1 : 0 ≤ a.toInt) (h2 : a.toInt < 1000000000) : (Int64.toInt32 (a - a / 27 * 27)).toInt = a.toInt % 27 := by
  have e := div27 h1 h2
  have e2 : (a / 27 * 27).toInt = a.toInt / 27 * 27 := by
    rw [Int64.toInt_mul, e]
    exact bm64 (by show _ ≤ a.toInt / 27 * 27; omega) (by show a.toInt / 27 * 27 < _; omega)
  have e3 : (a - a / 27 * 27).toInt = a.toInt % 27 := by
    rw [Int64.toInt_sub, e2, bm64 (by omega) (by omega)]; omega
  rw [Int64.toInt_toInt32, e3]
  exact bm_id (by omega) (by omega)
theorem nameN_b {f : Nat → Int} : ∀ n : Nat, (∀ k : Nat, k < n → 1 ≤ f k ∧ f k ≤ 26) → 0 ≤ nameN f n ∧ nameN f n < 27 ^ n := by
  intro n
  induction n with
  | zero => intro _; exact ⟨Int.le_refl 0, (by decide : (0 : Int) < 27 ^ 0)⟩
  | succ n ih =>
    intro h
    obtain ⟨h1, h2⟩ := ih (fun k hk => h k (by omega))
    have h3 := h n (by omega)
    show 0 ≤ 27 * nameN f n + f n ∧ 27 * nameN f n + f n < 27 ^ (n + 1)
    rw [Int.pow_succ]
    omega
theorem nameN_s {f : Nat → Int} {n : Nat} (h : 1 ≤ f n ∧ f n ≤ 26) (h0 : 0 ≤ nameN f n) : nameN f (n + 1) / 27 = nameN f n ∧ nameN f (n + 1) % 27 = f n ∧ 0 < nameN f (n + 1) := by
  have e : nameN f (n + 1) = 27 * nameN f n + f n := rfl
  rw [e]; omega
theorem nameN_6 {f : Nat → Int} {n : Nat} (hn : n ≤ 6) (h : ∀ k : Nat, k < n → 1 ≤ f k ∧ f k ≤ 26) : 0 ≤ nameN f n ∧ nameN f n < 1000000000 := by
  obtain ⟨h1, h2⟩ := nameN_b n h
  have h3 : (27 : Int) ^ n ≤ 387420489 := by rcases (show n = 0 ∨ n = 1 ∨ n = 2 ∨ n = 3 ∨ n = 4 ∨ n = 5 ∨ n = 6 by omega) with rfl | rfl | rfl | rfl | rfl | rfl | rfl <;> decide
  omega
section NAME2
variable {S : aS} {L d dr tl : Nat} {I : Nat → Nat → Int32} {J : Nat → Nat → Int64} {a1 a2 a3 : Int32} {f : Nat → Int} {n : Nat}
theorem name_down (hn : n ≤ 6) (h : ∀ k : Nat, k < n → 1 ≤ f k ∧ f k ≤ 26) (h3 : 0 ≤ a3.toInt) : ∀ (m : Nat) (a4 : Int64) (i : Int32), i.toInt = a3.toInt + m → i.toInt < n → a4.toInt = nameN f (i.toInt.toNat + 1) → PI ((d + 1), 260, 151, [none, none, none, some (.int a3), some (.long a4), none, none, some (.int i), none], [], (xSH L dr tl, I, J)) (f a3.toInt.toNat) (xSH L dr tl, I, J) := by
  intro m
  induction m with
  | zero =>
    intro a4 i hi hl ha
    have b := nameN_6 (f := f) (n := i.toInt.toNat + 1) (by omega) (fun k hk => h k (by omega))
    have b0 := nameN_6 (f := f) (n := i.toInt.toNat) (by omega) (fun k hk => h k (by omega))
    refine w260_151 (brz lt_ti (fun g => by omega) (fun g => ⟨_, rfl, ?_, rfl⟩))
    rw [rem27 (by omega) (by omega), ha, (nameN_s (h i.toInt.toNat (by omega)) b0.1).2.1, show i.toInt.toNat = a3.toInt.toNat by omega]
  | succ m ih =>
    intro a4 i hi hl ha
    have b := nameN_6 (f := f) (n := i.toInt.toNat + 1) (by omega) (fun k hk => h k (by omega))
    have b0 := nameN_6 (f := f) (n := i.toInt.toNat) (by omega) (fun k hk => h k (by omega))
    have ei : (i + (-1)).toInt = i.toInt - 1 := by
      have z : (i + (-1)).toInt = i.toInt + (-1) := add_ti (by show _ ≤ i.toInt + (-1); omega) (by show i.toInt + (-1) < _; omega)
      rw [z]; omega
    refine w260_151 (brz lt_ti (fun g => ih _ _ (by omega) (by omega) ?_) (fun g => by omega))
    rw [div27 (by omega) (by omega), ha, (nameN_s (h i.toInt.toNat (by omega)) b0.1).1, ei, show (i.toInt - 1).toNat + 1 = i.toInt.toNat by omega]
theorem name_up (hn : n ≤ 6) (h : ∀ k : Nat, k < n → 1 ≤ f k ∧ f k ≤ 26) (h3 : 0 ≤ a3.toInt) {a4 : Int64} (ha : a4.toInt = nameN f n) : ∀ (k : Nat) (a7 : Int64) (c : Int32), k ≤ n → a7.toInt = nameN f k → c.toInt = (n : Int) - k → PI ((d + 1), 260, 116, [none, none, none, some (.int a3), some (.long a4), none, some (.int c), some (.long a7), none], [], (xSH L dr tl, I, J)) (if a3.toInt < n then f a3.toInt.toNat else 0) (xSH L dr tl, I, J) := by
  intro k
  induction k with
  | zero =>
    intro a7 c hk h7 hc
    have z7 : a7.toInt = 0 := h7
    refine w260_116 (brz xlc_gt (fun g => ?_) (fun g => brz lt_ti (fun y => ?_) (fun y => ⟨0, rfl, ?_, rfl⟩)))
    · have : (0 : Int) < a7.toInt := g
      omega
    · rw [if_pos (by omega)]
      have ec : (c - 1).toInt = c.toInt - 1 := sub1 (by omega)
      refine name_down hn h h3 ((n : Int) - 1 - a3.toInt).toNat a4 _ (by omega) (by omega) ?_
      rw [ha, ec, show (c.toInt - 1).toNat + 1 = n by omega]
    · rw [if_neg (by omega)]; rfl
  | succ k ih =>
    intro a7 c hk h7 hc
    have b := nameN_6 (f := f) (n := k + 1) (by omega) (fun j hj => h j (by omega))
    have b0 := nameN_6 (f := f) (n := k) (by omega) (fun j hj => h j (by omega))
    have st := nameN_s (h k (by omega)) b0.1
    refine w260_116 (brz xlc_gt (fun g => ih _ _ (by omega) ?_ ?_) (fun g => ?_))
    · rw [div27 (by omega) (by omega), h7, st.1]
    · rw [add1 (by omega) (by omega), hc]; omega
    · exact absurd (show (0 : Int) < a7.toInt by rw [h7]; exact st.2.2) g
end NAME2
