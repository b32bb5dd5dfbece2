/-! ===== book: the reference copies its draft ===== -/
def cp (I : Nat → Nat → Int32) (a o n : Nat) : Nat → Nat → Int32 := fun a' j => if a' = a ∧ o ≤ j ∧ j < o + n then I a (j - o) else I a' j
def cpJ (J : Nat → Nat → Int64) (a o n : Nat) : Nat → Nat → Int64 := fun a' j => if a' = a ∧ o ≤ j ∧ j < o + n then J a (j - o) else J a' j
def cp3 (I : Nat → Nat → Int32) (n : Nat) : Nat → Nat → Int32 := fun a' j => if (a' = 105 ∨ a' = 106 ∨ a' = 107) ∧ 8 ≤ j ∧ j < 8 + n then I a' (j - 8) else I a' j
section MCOPY
variable {t : Tp} {L d dr tl : Nat} {I I0 I1 I2 : Nat → Nat → Int32} {J J0 J1 J2 : Nat → Nat → Int64} {a0 a1 a2 a3 a4 : Int32} {R : (Nat → Nat → Int32) → (Nat → Nat → Int64) → Prop} {Q : Option Value → xMem → Prop} {c : List Int} {S B : aS} {a a' o n k j : Nat}
theorem cp_0 : cp I a o 0 = I := by funext a' j; exact if_neg (by omega)
theorem cpJ_0 : cpJ J a o 0 = J := by funext a' j; exact if_neg (by omega)
theorem cp3_0 : cp3 I 0 = I := by funext a' j; exact if_neg (by omega)
theorem cp_ne (h : a' ≠ a) : cp I a o n a' = I a' := by funext j; exact if_neg (fun z => h z.1)
theorem cpJ_ne (h : a' ≠ a) : cpJ J a o n a' = J a' := by funext j; exact if_neg (fun z => h z.1)
theorem cp3_ne (h : ¬ (a' = 105 ∨ a' = 106 ∨ a' = 107)) : cp3 I n a' = I a' := by funext j; exact if_neg (fun z => h z.1)
theorem cp_at (h : k < n) : cp I a o n a (o + k) = I a k := by
  have e : cp I a o n a (o + k) = I a (o + k - o) := if_pos ⟨rfl, by omega, by omega⟩
  rw [e, Nat.add_sub_cancel_left]
theorem cpJ_at (h : k < n) : cpJ J a o n a (o + k) = J a k := by
  have e : cpJ J a o n a (o + k) = J a (o + k - o) := if_pos ⟨rfl, by omega, by omega⟩
  rw [e, Nat.add_sub_cancel_left]
theorem cp3_at (h : k < n) (ha : a = 105 ∨ a = 106 ∨ a = 107) : cp3 I n a (8 + k) = I a k := by
  have e : cp3 I n a (8 + k) = I a (8 + k - 8) := if_pos ⟨ha, by omega, by omega⟩
  rw [e, Nat.add_sub_cancel_left]
theorem cp_lo (h : j < o) : cp I a o n a j = I a j := if_neg (by omega)
theorem cpJ_lo (h : j < o) : cpJ J a o n a j = J a j := if_neg (by omega)
theorem cp_s (h : k < o) : xwI (cp I a o k) a (o + k) (cp I a o k a k) = cp I a o (k + 1) := by
  rw [cp_lo h]
  funext a' j
  by_cases ha : a' = a
  · subst ha
    by_cases hj : j = o + k
    · subst hj
      rw [xg, cp_at (Nat.lt_succ_self k)]
    · rw [xgn hj]
      unfold cp
      by_cases h2 : o ≤ j ∧ j < o + k
      · rw [if_pos ⟨rfl, h2.1, h2.2⟩, if_pos ⟨rfl, h2.1, by omega⟩]
      · rw [if_neg (fun z => h2 z.2), if_neg (fun z => h2 ⟨z.2.1, by omega⟩)]
  · rw [xwI_ne ha, cp_ne ha, cp_ne ha]
theorem cpJ_s (h : k < o) : xwJ (cpJ J a o k) a (o + k) (cpJ J a o k a k) = cpJ J a o (k + 1) := by
  rw [cpJ_lo h]
  funext a' j
  by_cases ha : a' = a
  · subst ha
    by_cases hj : j = o + k
    · subst hj
      rw [jg, cpJ_at (Nat.lt_succ_self k)]
    · rw [jgn hj]
      unfold cpJ
      by_cases h2 : o ≤ j ∧ j < o + k
      · rw [if_pos ⟨rfl, h2.1, h2.2⟩, if_pos ⟨rfl, h2.1, by omega⟩]
      · rw [if_neg (fun z => h2 z.2), if_neg (fun z => h2 ⟨z.2.1, by omega⟩)]
  · rw [xwJ_ne ha, cpJ_ne ha, cpJ_ne ha]
theorem cp3_in (ha : a = 105 ∨ a = 106 ∨ a = 107) (hj : j ≠ 8 + k) : cp3 I k a j = cp3 I (k + 1) a j := by
  unfold cp3
  by_cases h2 : 8 ≤ j ∧ j < 8 + k
  · rw [if_pos ⟨ha, h2.1, h2.2⟩, if_pos ⟨ha, h2.1, by omega⟩]
  · rw [if_neg (fun z => h2 z.2), if_neg (fun z => h2 ⟨z.2.1, by omega⟩)]
theorem cp3_s (h : k < 8) : xwI (xwI (xwI (cp3 I k) 105 (8 + k) (cp3 I k 105 k)) 106 (8 + k) ((xwI (cp3 I k) 105 (8 + k) (cp3 I k 105 k)) 106 k)) 107 (8 + k) ((xwI (xwI (cp3 I k) 105 (8 + k) (cp3 I k 105 k)) 106 (8 + k) ((xwI (cp3 I k) 105 (8 + k) (cp3 I k 105 k)) 106 k)) 107 k) = cp3 I (k + 1) := by
  have lo : ∀ a : Nat, cp3 I k a k = I a k := fun a => if_neg (by omega)
  rw [xwI_ne (show 107 ≠ 106 by decide), xwI_ne (show 107 ≠ 105 by decide), xwI_ne (show 106 ≠ 105 by decide), lo, lo, lo]
  funext a' j
  by_cases h5 : a' = 105
  · subst h5
    rw [xwI_ne (by decide), xwI_ne (by decide)]
    by_cases hj : j = 8 + k
    · subst hj
      rw [xg, cp3_at (Nat.lt_succ_self k) (Or.inl rfl)]
    · rw [xgn hj, cp3_in (Or.inl rfl) hj]
  · by_cases h6 : a' = 106
    · subst h6
      rw [xwI_ne (by decide)]
      by_cases hj : j = 8 + k
      · subst hj
        rw [xg, cp3_at (Nat.lt_succ_self k) (Or.inr (Or.inl rfl))]
      · rw [xgn hj, xwI_ne (by decide), cp3_in (Or.inr (Or.inl rfl)) hj]
    · by_cases h7 : a' = 107
      · subst h7
        by_cases hj : j = 8 + k
        · subst hj
          rw [xg, cp3_at (Nat.lt_succ_self k) (Or.inr (Or.inr rfl))]
        · rw [xgn hj, xwI_ne (by decide), xwI_ne (by decide), cp3_in (Or.inr (Or.inr rfl)) hj]
      · rw [xwI_ne h7, xwI_ne h6, xwI_ne h5, cp3_ne (by omega), cp3_ne (by omega)]
theorem cl2 (K : WP ((d + 1), 223, 29, [some (.ref 71), some (.int 0), none], [], (xSH L dr tl, cp I 93 5 5, J)) Q) : ∀ (m k : Nat) (a1 : Int32), k + m = 5 → a1.toInt = k → WP ((d + 1), 223, 2, [some (.ref 71), some (.int a1), none], [], (xSH L dr tl, cp I 93 5 k, J)) Q := by
  intro m
  induction m with
  | zero =>
    intro k a1 hk h1
    have e : k = 5 := by omega
    subst e
    exact w223_2 (sk (fun z => by rw [lt_ti, h1] at z; exact absurd z (by decide)) K)
  | succ m ih =>
    intro k a1 hk h1
    have eo : ((5 : Int32) + a1).toInt = ((5 + k : Nat) : Int) := by
      have e5 : (5 : Int32).toInt = 5 := rfl
      rw [add_ti (by rw [e5]; omega) (by rw [e5]; omega), e5, h1]; omega
    have x1 : xIx a1 = k := by rw [xIx_ti, h1]; omega
    have x5 : xIx (5 + a1) = 5 + k := by rw [xIx_ti, eo]; omega
    refine w223_2 (hit (lt_ti.mpr (by rw [h1]; show (k : Int) < 5; omega)) ⟨by rw [xin_iff, h1]; omega, by rw [xin_iff, eo]; omega, ?_⟩)
    rw [x1, x5, cp_s (by omega)]
    exact ih (k + 1) (a1 + 1) (by omega) (by rw [add1 (by omega) (by omega), h1]; rfl)
theorem cz2 (K : WP ((d + 1), 223, 29, [some (.ref 71), some (.int 0), none], [], (xSH L dr tl, cp I 93 5 5, J)) Q) : WP ((d + 1), 223, 2, [some (.ref 71), some (.int 0), none], [], (xSH L dr tl, I, J)) Q := by
  have h := cl2 K 5 0 0 (by omega) rfl
  rw [cp_0] at h
  exact h
theorem cl29 (K : WP ((d + 1), 223, 58, [some (.ref 71), some (.int 0), none], [], (xSH L dr tl, I, cpJ J 94 10 10)) Q) : ∀ (m k : Nat) (a1 : Int32), k + m = 10 → a1.toInt = k → WP ((d + 1), 223, 29, [some (.ref 71), some (.int a1), none], [], (xSH L dr tl, I, cpJ J 94 10 k)) Q := by
  intro m
  induction m with
  | zero =>
    intro k a1 hk h1
    have e : k = 10 := by omega
    subst e
    exact w223_29 (sk (fun z => by rw [lt_ti, h1] at z; exact absurd z (by decide)) K)
  | succ m ih =>
    intro k a1 hk h1
    have eo : ((10 : Int32) + a1).toInt = ((10 + k : Nat) : Int) := by
      have e5 : (10 : Int32).toInt = 10 := rfl
      rw [add_ti (by rw [e5]; omega) (by rw [e5]; omega), e5, h1]; omega
    have x1 : xIx a1 = k := by rw [xIx_ti, h1]; omega
    have x5 : xIx (10 + a1) = 10 + k := by rw [xIx_ti, eo]; omega
    refine w223_29 (hit (lt_ti.mpr (by rw [h1]; show (k : Int) < 10; omega)) ⟨by rw [xin_iff, h1]; omega, by rw [xin_iff, eo]; omega, ?_⟩)
    rw [x1, x5, cpJ_s (by omega)]
    exact ih (k + 1) (a1 + 1) (by omega) (by rw [add1 (by omega) (by omega), h1]; rfl)
theorem cz29 (K : WP ((d + 1), 223, 58, [some (.ref 71), some (.int 0), none], [], (xSH L dr tl, I, cpJ J 94 10 10)) Q) : WP ((d + 1), 223, 29, [some (.ref 71), some (.int 0), none], [], (xSH L dr tl, I, J)) Q := by
  have h := cl29 K 10 0 0 (by omega) rfl
  rw [cpJ_0] at h
  exact h
theorem cl58 (K : WP ((d + 1), 223, 87, [some (.ref 71), some (.int 0), none], [], (xSH L dr tl, cp I 95 6 6, J)) Q) : ∀ (m k : Nat) (a1 : Int32), k + m = 6 → a1.toInt = k → WP ((d + 1), 223, 58, [some (.ref 71), some (.int a1), none], [], (xSH L dr tl, cp I 95 6 k, J)) Q := by
  intro m
  induction m with
  | zero =>
    intro k a1 hk h1
    have e : k = 6 := by omega
    subst e
    exact w223_58 (sk (fun z => by rw [lt_ti, h1] at z; exact absurd z (by decide)) K)
  | succ m ih =>
    intro k a1 hk h1
    have eo : ((6 : Int32) + a1).toInt = ((6 + k : Nat) : Int) := by
      have e5 : (6 : Int32).toInt = 6 := rfl
      rw [add_ti (by rw [e5]; omega) (by rw [e5]; omega), e5, h1]; omega
    have x1 : xIx a1 = k := by rw [xIx_ti, h1]; omega
    have x5 : xIx (6 + a1) = 6 + k := by rw [xIx_ti, eo]; omega
    refine w223_58 (hit (lt_ti.mpr (by rw [h1]; show (k : Int) < 6; omega)) ⟨by rw [xin_iff, h1]; omega, by rw [xin_iff, eo]; omega, ?_⟩)
    rw [x1, x5, cp_s (by omega)]
    exact ih (k + 1) (a1 + 1) (by omega) (by rw [add1 (by omega) (by omega), h1]; rfl)
theorem cz58 (K : WP ((d + 1), 223, 87, [some (.ref 71), some (.int 0), none], [], (xSH L dr tl, cp I 95 6 6, J)) Q) : WP ((d + 1), 223, 58, [some (.ref 71), some (.int 0), none], [], (xSH L dr tl, I, J)) Q := by
  have h := cl58 K 6 0 0 (by omega) rfl
  rw [cp_0] at h
  exact h
theorem cl87 (K : WP ((d + 1), 223, 116, [some (.ref 71), some (.int 0), none], [], (xSH L dr tl, cp I 96 8 8, J)) Q) : ∀ (m k : Nat) (a1 : Int32), k + m = 8 → a1.toInt = k → WP ((d + 1), 223, 87, [some (.ref 71), some (.int a1), none], [], (xSH L dr tl, cp I 96 8 k, J)) Q := by
  intro m
  induction m with
  | zero =>
    intro k a1 hk h1
    have e : k = 8 := by omega
    subst e
    exact w223_87 (sk (fun z => by rw [lt_ti, h1] at z; exact absurd z (by decide)) K)
  | succ m ih =>
    intro k a1 hk h1
    have eo : ((8 : Int32) + a1).toInt = ((8 + k : Nat) : Int) := by
      have e5 : (8 : Int32).toInt = 8 := rfl
      rw [add_ti (by rw [e5]; omega) (by rw [e5]; omega), e5, h1]; omega
    have x1 : xIx a1 = k := by rw [xIx_ti, h1]; omega
    have x5 : xIx (8 + a1) = 8 + k := by rw [xIx_ti, eo]; omega
    refine w223_87 (hit (lt_ti.mpr (by rw [h1]; show (k : Int) < 8; omega)) ⟨by rw [xin_iff, h1]; omega, by rw [xin_iff, eo]; omega, ?_⟩)
    rw [x1, x5, cp_s (by omega)]
    exact ih (k + 1) (a1 + 1) (by omega) (by rw [add1 (by omega) (by omega), h1]; rfl)
theorem cz87 (K : WP ((d + 1), 223, 116, [some (.ref 71), some (.int 0), none], [], (xSH L dr tl, cp I 96 8 8, J)) Q) : WP ((d + 1), 223, 87, [some (.ref 71), some (.int 0), none], [], (xSH L dr tl, I, J)) Q := by
  have h := cl87 K 8 0 0 (by omega) rfl
  rw [cp_0] at h
  exact h
theorem cl116 (K : WP ((d + 1), 223, 145, [some (.ref 71), some (.int 0), none], [], (xSH L dr tl, cp I 99 12 12, J)) Q) : ∀ (m k : Nat) (a1 : Int32), k + m = 12 → a1.toInt = k → WP ((d + 1), 223, 116, [some (.ref 71), some (.int a1), none], [], (xSH L dr tl, cp I 99 12 k, J)) Q := by
  intro m
  induction m with
  | zero =>
    intro k a1 hk h1
    have e : k = 12 := by omega
    subst e
    exact w223_116 (sk (fun z => by rw [lt_ti, h1] at z; exact absurd z (by decide)) K)
  | succ m ih =>
    intro k a1 hk h1
    have eo : ((12 : Int32) + a1).toInt = ((12 + k : Nat) : Int) := by
      have e5 : (12 : Int32).toInt = 12 := rfl
      rw [add_ti (by rw [e5]; omega) (by rw [e5]; omega), e5, h1]; omega
    have x1 : xIx a1 = k := by rw [xIx_ti, h1]; omega
    have x5 : xIx (12 + a1) = 12 + k := by rw [xIx_ti, eo]; omega
    refine w223_116 (hit (lt_ti.mpr (by rw [h1]; show (k : Int) < 12; omega)) ⟨by rw [xin_iff, h1]; omega, by rw [xin_iff, eo]; omega, ?_⟩)
    rw [x1, x5, cp_s (by omega)]
    exact ih (k + 1) (a1 + 1) (by omega) (by rw [add1 (by omega) (by omega), h1]; rfl)
theorem cz116 (K : WP ((d + 1), 223, 145, [some (.ref 71), some (.int 0), none], [], (xSH L dr tl, cp I 99 12 12, J)) Q) : WP ((d + 1), 223, 116, [some (.ref 71), some (.int 0), none], [], (xSH L dr tl, I, J)) Q := by
  have h := cl116 K 12 0 0 (by omega) rfl
  rw [cp_0] at h
  exact h
theorem cl145 (K : WP ((d + 1), 223, 174, [some (.ref 71), some (.int 0), none], [], (xSH L dr tl, cp I 100 16 16, J)) Q) : ∀ (m k : Nat) (a1 : Int32), k + m = 16 → a1.toInt = k → WP ((d + 1), 223, 145, [some (.ref 71), some (.int a1), none], [], (xSH L dr tl, cp I 100 16 k, J)) Q := by
  intro m
  induction m with
  | zero =>
    intro k a1 hk h1
    have e : k = 16 := by omega
    subst e
    exact w223_145 (sk (fun z => by rw [lt_ti, h1] at z; exact absurd z (by decide)) K)
  | succ m ih =>
    intro k a1 hk h1
    have eo : ((16 : Int32) + a1).toInt = ((16 + k : Nat) : Int) := by
      have e5 : (16 : Int32).toInt = 16 := rfl
      rw [add_ti (by rw [e5]; omega) (by rw [e5]; omega), e5, h1]; omega
    have x1 : xIx a1 = k := by rw [xIx_ti, h1]; omega
    have x5 : xIx (16 + a1) = 16 + k := by rw [xIx_ti, eo]; omega
    refine w223_145 (hit (lt_ti.mpr (by rw [h1]; show (k : Int) < 16; omega)) ⟨by rw [xin_iff, h1]; omega, by rw [xin_iff, eo]; omega, ?_⟩)
    rw [x1, x5, cp_s (by omega)]
    exact ih (k + 1) (a1 + 1) (by omega) (by rw [add1 (by omega) (by omega), h1]; rfl)
theorem cz145 (K : WP ((d + 1), 223, 174, [some (.ref 71), some (.int 0), none], [], (xSH L dr tl, cp I 100 16 16, J)) Q) : WP ((d + 1), 223, 145, [some (.ref 71), some (.int 0), none], [], (xSH L dr tl, I, J)) Q := by
  have h := cl145 K 16 0 0 (by omega) rfl
  rw [cp_0] at h
  exact h
theorem cl174 (K : WP ((d + 1), 223, 229, [some (.ref 71), some (.int 0), none], [], (xSH L dr tl, (xwI (xwI (cp I 101 192 192) 102 2 ((cp I 101 192 192) 102 0)) 102 3 ((xwI (cp I 101 192 192) 102 2 ((cp I 101 192 192) 102 0)) 102 1)), J)) Q) : ∀ (m k : Nat) (a1 : Int32), k + m = 192 → a1.toInt = k → WP ((d + 1), 223, 174, [some (.ref 71), some (.int a1), none], [], (xSH L dr tl, cp I 101 192 k, J)) Q := by
  intro m
  induction m with
  | zero =>
    intro k a1 hk h1
    have e : k = 192 := by omega
    subst e
    exact w223_174 (sk (fun z => by rw [lt_ti, h1] at z; exact absurd z (by decide)) K)
  | succ m ih =>
    intro k a1 hk h1
    have eo : ((192 : Int32) + a1).toInt = ((192 + k : Nat) : Int) := by
      have e5 : (192 : Int32).toInt = 192 := rfl
      rw [add_ti (by rw [e5]; omega) (by rw [e5]; omega), e5, h1]; omega
    have x1 : xIx a1 = k := by rw [xIx_ti, h1]; omega
    have x5 : xIx (192 + a1) = 192 + k := by rw [xIx_ti, eo]; omega
    refine w223_174 (hit (lt_ti.mpr (by rw [h1]; show (k : Int) < 192; omega)) ⟨by rw [xin_iff, h1]; omega, by rw [xin_iff, eo]; omega, ?_⟩)
    rw [x1, x5, cp_s (by omega)]
    exact ih (k + 1) (a1 + 1) (by omega) (by rw [add1 (by omega) (by omega), h1]; rfl)
theorem cz174 (K : WP ((d + 1), 223, 229, [some (.ref 71), some (.int 0), none], [], (xSH L dr tl, (xwI (xwI (cp I 101 192 192) 102 2 ((cp I 101 192 192) 102 0)) 102 3 ((xwI (cp I 101 192 192) 102 2 ((cp I 101 192 192) 102 0)) 102 1)), J)) Q) : WP ((d + 1), 223, 174, [some (.ref 71), some (.int 0), none], [], (xSH L dr tl, I, J)) Q := by
  have h := cl174 K 192 0 0 (by omega) rfl
  rw [cp_0] at h
  exact h
theorem cl229 (K : WP ((d + 1), 223, 288, [some (.ref 71), some (.int 0), none], [], (xSH L dr tl, cp3 I 8, J)) Q) : ∀ (m k : Nat) (a1 : Int32), k + m = 8 → a1.toInt = k → WP ((d + 1), 223, 229, [some (.ref 71), some (.int a1), none], [], (xSH L dr tl, cp3 I k, J)) Q := by
  intro m
  induction m with
  | zero =>
    intro k a1 hk h1
    have e : k = 8 := by omega
    subst e
    exact w223_229 (sk (fun z => by rw [lt_ti, h1] at z; exact absurd z (by decide)) K)
  | succ m ih =>
    intro k a1 hk h1
    have eo : ((8 : Int32) + a1).toInt = ((8 + k : Nat) : Int) := by
      have e5 : (8 : Int32).toInt = 8 := rfl
      rw [add_ti (by rw [e5]; omega) (by rw [e5]; omega), e5, h1]; omega
    have x1 : xIx a1 = k := by rw [xIx_ti, h1]; omega
    have x5 : xIx (8 + a1) = 8 + k := by rw [xIx_ti, eo]; omega
    refine w223_229 (hit (lt_ti.mpr (by rw [h1]; show (k : Int) < 8; omega)) ⟨by rw [xin_iff, h1]; omega, by rw [xin_iff, eo]; omega, by rw [xin_iff, h1]; omega, by rw [xin_iff, eo]; omega, by rw [xin_iff, h1]; omega, by rw [xin_iff, eo]; omega, ?_⟩)
    rw [x1, x5, cp3_s (by omega)]
    exact ih (k + 1) (a1 + 1) (by omega) (by rw [add1 (by omega) (by omega), h1]; rfl)
theorem cz229 (K : WP ((d + 1), 223, 288, [some (.ref 71), some (.int 0), none], [], (xSH L dr tl, cp3 I 8, J)) Q) : WP ((d + 1), 223, 229, [some (.ref 71), some (.int 0), none], [], (xSH L dr tl, I, J)) Q := by
  have h := cl229 K 8 0 0 (by omega) rfl
  rw [cp3_0] at h
  exact h
theorem cl288 (hn : (I 71 44).toInt = n) (hn2 : n ≤ 1600) (K : WP ((d + 1), 223, 330, [some (.ref 71), some (.int 0), none], [], (xSH L dr tl, (xwI (xwI (cp I 103 1600 n) 71 55 0) 71 65 0), J)) Q) : ∀ (m k : Nat) (a1 : Int32), k + m = n → a1.toInt = k → WP ((d + 1), 223, 288, [some (.ref 71), some (.int a1), none], [], (xSH L dr tl, cp I 103 1600 k, J)) Q := by
  intro m
  induction m with
  | zero =>
    intro k a1 hk h1
    have e : k = n := by omega
    subst e
    exact w223_288 (sk (fun z => by rw [lt_ti, h1, cp_ne (by decide), hn] at z; omega) K)
  | succ m ih =>
    intro k a1 hk h1
    have eo : ((1600 : Int32) + a1).toInt = ((1600 + k : Nat) : Int) := by
      have e5 : (1600 : Int32).toInt = 1600 := rfl
      rw [add_ti (by rw [e5]; omega) (by rw [e5]; omega), e5, h1]; omega
    have x1 : xIx a1 = k := by rw [xIx_ti, h1]; omega
    have x5 : xIx (1600 + a1) = 1600 + k := by rw [xIx_ti, eo]; omega
    refine w223_288 (hit (lt_ti.mpr (by rw [h1, cp_ne (by decide), hn]; omega)) ⟨by rw [xin_iff, h1]; omega, by rw [xin_iff, eo]; omega, ?_⟩)
    rw [x1, x5, cp_s (by omega)]
    exact ih (k + 1) (a1 + 1) (by omega) (by rw [add1 (by omega) (by omega), h1]; rfl)
theorem cz288 (hn : (I 71 44).toInt = n) (hn2 : n ≤ 1600) (K : WP ((d + 1), 223, 330, [some (.ref 71), some (.int 0), none], [], (xSH L dr tl, (xwI (xwI (cp I 103 1600 n) 71 55 0) 71 65 0), J)) Q) : WP ((d + 1), 223, 288, [some (.ref 71), some (.int 0), none], [], (xSH L dr tl, I, J)) Q := by
  have h := cl288 hn hn2 K n 0 0 (by omega) rfl
  rw [cp_0] at h
  exact h
def copied (c : List Int) (I I1 : Nat → Nat → Int32) (J J1 : Nat → Nat → Int64) : Prop :=
  (∀ a : Nat, a < 93 ∨ a = 97 ∨ a = 98 ∨ 107 < a → a ≠ 71 → a ≠ 114 → I1 a = I a) ∧ (∀ j : Nat, j ≠ 55 → j ≠ 65 → I1 71 j = I 71 j) ∧ ((I1 71 55).toInt = 0 ∧ (I1 71 65).toInt = 0) ∧ (∀ r : Nat, r < 4 → (I1 114 r).toInt = -1) ∧ (∀ a : Nat, a ≠ 94 → J1 a = J a) ∧ (∀ k : Nat, k < 10 → J1 94 (10 + k) = J 94 k) ∧ (I1 102 2 = I 102 0 ∧ I1 102 3 = I 102 1) ∧
  (∀ k : Nat, k < 5 → I1 93 (5 + k) = I 93 k) ∧ (∀ k : Nat, k < 6 → I1 95 (6 + k) = I 95 k) ∧ (∀ k : Nat, k < 8 → I1 96 (8 + k) = I 96 k) ∧ (∀ k : Nat, k < 12 → I1 99 (12 + k) = I 99 k) ∧ (∀ k : Nat, k < 16 → I1 100 (16 + k) = I 100 k) ∧ (∀ k : Nat, k < 192 → I1 101 (192 + k) = I 101 k) ∧ (∀ k : Nat, k < c.length → I1 103 (1600 + k) = I 103 k) ∧ (∀ k : Nat, k < 8 → I1 105 (8 + k) = I 105 k) ∧ (∀ k : Nat, k < 8 → I1 106 (8 + k) = I 106 k) ∧ (∀ k : Nat, k < 8 → I1 107 (8 + k) = I 107 k)
theorem m_copies (mc : MC c I) (hc : c.length ≤ 1600) (K : ∀ (I1 : Nat → Nat → Int32) (J1 : Nat → Nat → Int64), copied c I I1 J J1 → WP ((d + 1), 223, 350, [some (.ref 71), some (.int 0), none], [], (xSH L dr tl, I1, J1)) Q) : WP ((d + 1), 223, 0, [some (.ref 71), none, none], [], (xSH L dr tl, I, J)) Q := by
  refine w223_0 (cz2 (cz29 (cz58 (cz87 (cz116 (cz145 (cz174 (cz229 (cz288 (n := c.length) ?_ hc (w223_330 (hit (by decide) ⟨rfl, w223_330 (hit (by decide) ⟨rfl, w223_330 (hit (by decide) ⟨rfl, w223_330 (hit (by decide) ⟨rfl, w223_330 (sk (by decide) (K _ _ ?_))⟩)⟩)⟩)⟩)))))))))))
  · rw [cp3_ne (by decide), xwI_ne (by decide), xwI_ne (by decide), cp_ne (by decide), cp_ne (by decide), cp_ne (by decide), cp_ne (by decide), cp_ne (by decide), cp_ne (by decide)]; exact mc.1
  · show copied c I (xwI (xwI (xwI (xwI _ 114 0 (-1)) 114 1 (-1)) 114 2 (-1)) 114 3 (-1)) J _
    refine ⟨fun a ha h71 h114 => ?_, fun j h1 h2 => ?_, ⟨?_, ?_⟩, fun r hr => ?_, fun a ha => cpJ_ne ha, fun k hk => cpJ_at hk, ⟨?_, ?_⟩, fun k hk => ?_, fun k hk => ?_, fun k hk => ?_, fun k hk => ?_, fun k hk => ?_, fun k hk => ?_, fun k hk => ?_, fun k hk => ?_, fun k hk => ?_, fun k hk => ?_⟩
    · rw [xwI_ne (by omega), xwI_ne (by omega), xwI_ne (by omega), xwI_ne (by omega), xwI_ne (by omega), xwI_ne (by omega), cp_ne (by omega), cp3_ne (by omega), xwI_ne (by omega), xwI_ne (by omega), cp_ne (by omega), cp_ne (by omega), cp_ne (by omega), cp_ne (by omega), cp_ne (by omega), cp_ne (by omega)]
    · rw [xwI_ne (by decide), xwI_ne (by decide), xwI_ne (by decide), xwI_ne (by decide), xgn h2, xgn h1, cp_ne (by decide), cp3_ne (by decide), xwI_ne (by decide), xwI_ne (by decide), cp_ne (by decide), cp_ne (by decide), cp_ne (by decide), cp_ne (by decide), cp_ne (by decide), cp_ne (by decide)]
    · rfl
    · rfl
    · have : r = 0 ∨ r = 1 ∨ r = 2 ∨ r = 3 := by omega
      rcases this with rfl | rfl | rfl | rfl
      · rfl
      · rfl
      · rfl
      · rfl
    · rw [xwI_ne (by decide), xwI_ne (by decide), xwI_ne (by decide), xwI_ne (by decide), xwI_ne (by decide), xwI_ne (by decide), cp_ne (by decide), cp3_ne (by decide), xgn (by decide), xg, cp_ne (by decide), cp_ne (by decide), cp_ne (by decide), cp_ne (by decide), cp_ne (by decide), cp_ne (by decide)]
    · rw [xwI_ne (by decide), xwI_ne (by decide), xwI_ne (by decide), xwI_ne (by decide), xwI_ne (by decide), xwI_ne (by decide), cp_ne (by decide), cp3_ne (by decide), xg, xgn (by decide), cp_ne (by decide), cp_ne (by decide), cp_ne (by decide), cp_ne (by decide), cp_ne (by decide), cp_ne (by decide)]
    · rw [xwI_ne (by decide), xwI_ne (by decide), xwI_ne (by decide), xwI_ne (by decide), xwI_ne (by decide), xwI_ne (by decide), cp_ne (by decide), cp3_ne (by decide), xwI_ne (by decide), xwI_ne (by decide), cp_ne (by decide), cp_ne (by decide), cp_ne (by decide), cp_ne (by decide), cp_ne (by decide), cp_at hk]
    · rw [xwI_ne (by decide), xwI_ne (by decide), xwI_ne (by decide), xwI_ne (by decide), xwI_ne (by decide), xwI_ne (by decide), cp_ne (by decide), cp3_ne (by decide), xwI_ne (by decide), xwI_ne (by decide), cp_ne (by decide), cp_ne (by decide), cp_ne (by decide), cp_ne (by decide), cp_at hk, cp_ne (by decide)]
    · rw [xwI_ne (by decide), xwI_ne (by decide), xwI_ne (by decide), xwI_ne (by decide), xwI_ne (by decide), xwI_ne (by decide), cp_ne (by decide), cp3_ne (by decide), xwI_ne (by decide), xwI_ne (by decide), cp_ne (by decide), cp_ne (by decide), cp_ne (by decide), cp_at hk, cp_ne (by decide), cp_ne (by decide)]
    · rw [xwI_ne (by decide), xwI_ne (by decide), xwI_ne (by decide), xwI_ne (by decide), xwI_ne (by decide), xwI_ne (by decide), cp_ne (by decide), cp3_ne (by decide), xwI_ne (by decide), xwI_ne (by decide), cp_ne (by decide), cp_ne (by decide), cp_at hk, cp_ne (by decide), cp_ne (by decide), cp_ne (by decide)]
    · rw [xwI_ne (by decide), xwI_ne (by decide), xwI_ne (by decide), xwI_ne (by decide), xwI_ne (by decide), xwI_ne (by decide), cp_ne (by decide), cp3_ne (by decide), xwI_ne (by decide), xwI_ne (by decide), cp_ne (by decide), cp_at hk, cp_ne (by decide), cp_ne (by decide), cp_ne (by decide), cp_ne (by decide)]
    · rw [xwI_ne (by decide), xwI_ne (by decide), xwI_ne (by decide), xwI_ne (by decide), xwI_ne (by decide), xwI_ne (by decide), cp_ne (by decide), cp3_ne (by decide), xwI_ne (by decide), xwI_ne (by decide), cp_at hk, cp_ne (by decide), cp_ne (by decide), cp_ne (by decide), cp_ne (by decide), cp_ne (by decide)]
    · rw [xwI_ne (by decide), xwI_ne (by decide), xwI_ne (by decide), xwI_ne (by decide), xwI_ne (by decide), xwI_ne (by decide), cp_at hk, cp3_ne (by decide), xwI_ne (by decide), xwI_ne (by decide), cp_ne (by decide), cp_ne (by decide), cp_ne (by decide), cp_ne (by decide), cp_ne (by decide), cp_ne (by decide)]
    · rw [xwI_ne (by decide), xwI_ne (by decide), xwI_ne (by decide), xwI_ne (by decide), xwI_ne (by decide), xwI_ne (by decide), cp_ne (by decide), cp3_at hk (by decide), xwI_ne (by decide), xwI_ne (by decide), cp_ne (by decide), cp_ne (by decide), cp_ne (by decide), cp_ne (by decide), cp_ne (by decide), cp_ne (by decide)]
    · rw [xwI_ne (by decide), xwI_ne (by decide), xwI_ne (by decide), xwI_ne (by decide), xwI_ne (by decide), xwI_ne (by decide), cp_ne (by decide), cp3_at hk (by decide), xwI_ne (by decide), xwI_ne (by decide), cp_ne (by decide), cp_ne (by decide), cp_ne (by decide), cp_ne (by decide), cp_ne (by decide), cp_ne (by decide)]
    · rw [xwI_ne (by decide), xwI_ne (by decide), xwI_ne (by decide), xwI_ne (by decide), xwI_ne (by decide), xwI_ne (by decide), cp_ne (by decide), cp3_at hk (by decide), xwI_ne (by decide), xwI_ne (by decide), cp_ne (by decide), cp_ne (by decide), cp_ne (by decide), cp_ne (by decide), cp_ne (by decide), cp_ne (by decide)]
end MCOPY
