/-! ===== the rules' steps on a stack of numbers ===== -/
theorem ladd {a b : Int64} (h1 : -9223372036854775808 ≤ a.toInt + b.toInt) (h2 : a.toInt + b.toInt < 9223372036854775808) : (a + b).toInt = a.toInt + b.toInt := by
  rw [Int64.toInt_add]; exact bm64 h1 h2
theorem lsub {a b : Int64} (h1 : -9223372036854775808 ≤ a.toInt - b.toInt) (h2 : a.toInt - b.toInt < 9223372036854775808) : (a - b).toInt = a.toInt - b.toInt := by
  rw [Int64.toInt_sub]; exact bm64 h1 h2
theorem lmul {a b : Int64} (h1 : -9223372036854775808 ≤ a.toInt * b.toInt) (h2 : a.toInt * b.toInt < 9223372036854775808) : (a * b).toInt = a.toInt * b.toInt := by
  rw [Int64.toInt_mul]; exact bm64 h1 h2
theorem l32 {a : Int64} (h1 : -2147483648 ≤ a.toInt) (h2 : a.toInt < 2147483648) : (Int64.toInt32 a).toInt = a.toInt := by
  rw [Int64.toInt_toInt32]; exact bm_id h1 h2
def mill (x : Int) : Prop := -1000000 ≤ x ∧ x ≤ 1000000
theorem mill_mul {x y : Int} (hx : mill x) (hy : mill y) : -1000000000000 ≤ x * y ∧ x * y ≤ 1000000000000 := by
  have h1 : x.natAbs ≤ 1000000 := by have := hx.1; have := hx.2; omega
  have h2 : y.natAbs ≤ 1000000 := by have := hy.1; have := hy.2; omega
  have h3 : (x * y).natAbs ≤ 1000000 * 1000000 := by rw [Int.natAbs_mul]; exact Nat.mul_le_mul h1 h2
  omega
/-- rounding down, as both do it -/
def flo (x y : Int) : Int := if x.tdiv y * y = x then x.tdiv y else if (x < 0 ↔ y < 0) then x.tdiv y else x.tdiv y - 1
theorem tdiv_b {x y : Int} (hx : mill x) : mill (x.tdiv y) := by
  have h1 : x.natAbs ≤ 1000000 := by have := hx.1; have := hx.2; omega
  have h2 : (x.tdiv y).natAbs = x.natAbs / y.natAbs := Int.natAbs_tdiv x y
  have h3 : x.natAbs / y.natAbs ≤ x.natAbs := Nat.div_le_self _ _
  unfold mill; omega
theorem flo_b {x y : Int} (hx : mill x) (hy : y ≠ 0) : mill (flo x y) := by
  unfold flo
  have hb := tdiv_b (y := y) hx
  split
  · exact hb
  · rename_i h0
    split
    · exact hb
    · have h1 : x.natAbs ≤ 1000000 := by have := hx.1; have := hx.2; omega
      have h2 : (x.tdiv y).natAbs = x.natAbs / y.natAbs := Int.natAbs_tdiv x y
      have h3 : 2 ≤ y.natAbs := by
        apply Decidable.byContradiction
        intro z
        have z1 : y = 1 ∨ y = -1 := by omega
        rcases z1 with z1 | z1
        · subst z1; exact h0 (by rw [Int.tdiv_one, Int.mul_one])
        · subst z1; exact h0 (by rw [Int.tdiv_neg, Int.tdiv_one]; omega)
      have h4 : x.natAbs / y.natAbs ≤ x.natAbs / 2 := Nat.div_le_div_left h3 (by decide)
      unfold mill; omega
/-- two numbers joined (before they are clipped) -/
def binR (c x y : Int) : Int := if c = 1 then x + y else if c = 2 then x - y else if c = 3 then x * y else if c = 4 then (if y = 0 then 0 else flo x y) else if c = 5 then min x y else if c = 6 then max x y else if c = 11 then (if x < y then 1 else 0) else if c = 12 then (if y < x then 1 else 0) else if c = 13 then (if x = y then 1 else 0) else if c = 14 then min x y else max x y
/-- one step; g the four givens: place, leaf, letter, needs -/
def ev (g : Nat → Int) (c : Int) (st : List Int) : List Int :=
  if 1000 ≤ c then (c - 1000) :: st
  else if 7 ≤ c ∧ c ≤ 10 then g (c - 7).toNat :: st
  else if c = 17 then 1 :: st
  else if c = 16 then (match st with
    | x :: r => (1 - x) :: r
    | [] => [])
  else (match st with
    | y :: x :: r => clipI (binR c x y) :: r
    | _ => [])
def okV (b : Bool) (v : Int) : Prop := mill v ∧ (b = true → v = 0 ∨ v = 1)
def okS : List Bool → List Int → Prop
  | [], [] => True
  | b :: ts, v :: st => okV b v ∧ okS ts st
  | _, _ => False
theorem okS_len : ∀ {ts : List Bool} {st : List Int}, okS ts st → st.length = ts.length := by
  intro ts
  induction ts with
  | nil => intro st h; cases st with
    | nil => rfl
    | cons v st => exact absurd h id
  | cons b ts ih => intro st h; cases st with
    | nil => exact absurd h id
    | cons v st => simp only [List.length_cons]; rw [ih h.2]
theorem okS_c {b : Bool} {ts : List Bool} {st : List Int} (h : okS (b :: ts) st) : ∃ v r, st = v :: r ∧ okV b v ∧ okS ts r := by
  cases st with
  | nil => exact absurd h id
  | cons v r => exact ⟨v, r, rfl, h.1, h.2⟩
/-- the kinds of steps -/
theorem tyOp_k {c : Int} {ts ts' : List Bool} (h : tyOp c ts = some ts') :
    (1000 ≤ c ∧ c ≤ 10999 ∧ ts' = false :: ts) ∨ (7 ≤ c ∧ c ≤ 10 ∧ ts' = false :: ts) ∨ (c = 17 ∧ ts' = true :: ts) ∨ (c = 16 ∧ ∃ r, ts = true :: r ∧ ts' = true :: r) ∨ (1 ≤ c ∧ c ≤ 6 ∧ ∃ r, ts = false :: false :: r ∧ ts' = false :: r) ∨ (11 ≤ c ∧ c ≤ 13 ∧ ∃ r, ts = false :: false :: r ∧ ts' = true :: r) ∨ ((c = 14 ∨ c = 15) ∧ ∃ r, ts = true :: true :: r ∧ ts' = true :: r) := by
  unfold tyOp at h
  split at h
  · rename_i h1; exact Or.inl ⟨h1.1, h1.2, (Option.some.inj h).symm⟩
  · split at h
    · rename_i h1; exact Or.inr (Or.inl ⟨h1.1, h1.2, (Option.some.inj h).symm⟩)
    · split at h
      · rename_i h1; exact Or.inr (Or.inr (Or.inl ⟨h1, (Option.some.inj h).symm⟩))
      · split at h
        · rename_i h1
          split at h
          · exact Or.inr (Or.inr (Or.inr (Or.inl ⟨h1, _, rfl, (Option.some.inj h).symm⟩)))
          · exact absurd h (by simp)
        · split at h
          · rename_i h1
            split at h
            · exact Or.inr (Or.inr (Or.inr (Or.inr (Or.inl ⟨h1.1, h1.2, _, rfl, (Option.some.inj h).symm⟩))))
            · exact absurd h (by simp)
          · split at h
            · rename_i h1
              split at h
              · exact Or.inr (Or.inr (Or.inr (Or.inr (Or.inr (Or.inl ⟨h1.1, h1.2, _, rfl, (Option.some.inj h).symm⟩)))))
              · exact absurd h (by simp)
            · split at h
              · rename_i h1
                split at h
                · exact Or.inr (Or.inr (Or.inr (Or.inr (Or.inr (Or.inr ⟨h1, _, rfl, (Option.some.inj h).symm⟩)))))
                · exact absurd h (by simp)
              · exact absurd h (by simp)
section EV
variable {g : Nat → Int} {c x y : Int} {st r : List Int}
theorem ev_num (h : 1000 ≤ c) : ev g c st = (c - 1000) :: st := if_pos h
theorem ev_giv (h1 : 7 ≤ c) (h2 : c ≤ 10) : ev g c st = g (c - 7).toNat :: st := by
  unfold ev; rw [if_neg (by omega), if_pos ⟨h1, h2⟩]
theorem ev_all : ev g 17 st = 1 :: st := rfl
theorem ev_not : ev g 16 (x :: r) = (1 - x) :: r := rfl
theorem ev_bin (h : (1 ≤ c ∧ c ≤ 6) ∨ (11 ≤ c ∧ c ≤ 15)) : ev g c (y :: x :: r) = clipI (binR c x y) :: r := by
  unfold ev; rw [if_neg (by omega), if_neg (by omega), if_neg (by omega), if_neg (by omega)]
theorem clip_id (h : mill x) : clipI x = x := by unfold clipI; have := h.1; have := h.2; rw [if_neg (by omega), if_neg (by omega)]
theorem binR_b (hx : mill x) (hy : mill y) (h : c ≠ 1 ∧ c ≠ 2 ∧ c ≠ 3) : mill (binR c x y) := by
  unfold binR
  rw [if_neg h.1, if_neg h.2.1, if_neg h.2.2]
  have a1 := hx.1
  have a2 := hx.2
  have b1 := hy.1
  have b2 := hy.2
  split
  · split
    · exact ⟨by omega, by omega⟩
    · rename_i z; exact flo_b hx z
  · unfold mill; repeat' split
    all_goals omega
theorem binR_t (h : 11 ≤ c ∧ c ≤ 13) : binR c x y = 0 ∨ binR c x y = 1 := by
  unfold binR
  rw [if_neg (by omega), if_neg (by omega), if_neg (by omega), if_neg (by omega), if_neg (by omega), if_neg (by omega)]
  have : c = 11 ∨ c = 12 ∨ c = 13 := by omega
  rcases this with rfl | rfl | rfl
  · rw [if_pos rfl]; split <;> simp
  · rw [if_neg (by decide), if_pos rfl]; split <;> simp
  · rw [if_neg (by decide), if_neg (by decide), if_pos rfl]; split <;> simp
theorem binR_u (h : c = 14 ∨ c = 15) (hx : x = 0 ∨ x = 1) (hy : y = 0 ∨ y = 1) : binR c x y = 0 ∨ binR c x y = 1 := by
  rcases h with rfl | rfl <;> rcases hx with rfl | rfl <;> rcases hy with rfl | rfl <;> decide
theorem ev_ok {ts ts' : List Bool} (hg : ∀ k : Nat, k < 4 → mill (g k)) (h : tyOp c ts = some ts') (hs : okS ts st) : okS ts' (ev g c st) := by
  rcases tyOp_k h with ⟨h1, h2, rfl⟩ | ⟨h1, h2, rfl⟩ | ⟨rfl, rfl⟩ | ⟨rfl, r, rfl, rfl⟩ | ⟨h1, h2, r, rfl, rfl⟩ | ⟨h1, h2, r, rfl, rfl⟩ | ⟨h1, r, rfl, rfl⟩
  · rw [ev_num h1]; exact ⟨⟨⟨by omega, by omega⟩, fun z => absurd z (by decide)⟩, hs⟩
  · rw [ev_giv h1 h2]; exact ⟨⟨hg _ (by omega), fun z => absurd z (by decide)⟩, hs⟩
  · rw [ev_all]; exact ⟨⟨⟨by decide, by decide⟩, fun _ => Or.inr rfl⟩, hs⟩
  · obtain ⟨v, w, rfl, k1, k2⟩ := okS_c hs
    rw [ev_not]
    have := k1.2 rfl
    exact ⟨⟨⟨by omega, by omega⟩, fun _ => by omega⟩, k2⟩
  · obtain ⟨v, w, rfl, k1, k2⟩ := okS_c hs
    obtain ⟨v', w', rfl, k3, k4⟩ := okS_c k2
    rw [ev_bin (Or.inl ⟨h1, h2⟩)]
    exact ⟨⟨clipI_b _, fun z => absurd z (by decide)⟩, k4⟩
  · obtain ⟨v, w, rfl, k1, k2⟩ := okS_c hs
    obtain ⟨v', w', rfl, k3, k4⟩ := okS_c k2
    rw [ev_bin (Or.inr ⟨h1, by omega⟩)]
    have z := binR_t (x := v') (y := v) ⟨h1, h2⟩
    have zb : mill (binR c v' v) := ⟨by omega, by omega⟩
    rw [clip_id zb]
    exact ⟨⟨zb, fun _ => z⟩, k4⟩
  · obtain ⟨v, w, rfl, k1, k2⟩ := okS_c hs
    obtain ⟨v', w', rfl, k3, k4⟩ := okS_c k2
    rw [ev_bin (Or.inr (by omega))]
    have z := binR_u (x := v') (y := v) h1 (k3.2 rfl) (k1.2 rfl)
    have zb : mill (binR c v' v) := ⟨by omega, by omega⟩
    rw [clip_id zb]
    exact ⟨⟨zb, fun _ => z⟩, k4⟩
/-- n steps from k on -/
def evR (g : Nat → Int) (f : Nat → Int) : Nat → Nat → List Int → List Int
  | _, 0, st => st
  | k, n + 1, st => evR g f (k + 1) n (ev g (f k) st)
theorem evR_ok {f : Nat → Int} (hg : ∀ k : Nat, k < 4 → mill (g k)) : ∀ (n k : Nat) (ts ts' : List Bool) (st : List Int), tyRun f k n ts = some ts' → okS ts st → okS ts' (evR g f k n st) := by
  intro n
  induction n with
  | zero => intro k ts ts' st h hs; rw [tyRun] at h; rw [← Option.some.inj h]; exact hs
  | succ n ih =>
    intro k ts ts' st h hs
    rw [tyRun] at h
    rw [evR]
    split at h
    · exact absurd h (by simp)
    · rename_i st' e
      split at h
      · exact ih _ _ _ _ h (ev_ok hg e hs)
      · exact absurd h (by simp)
/-- a stack in a row of cells -/
def stk (f : Nat → Int) : List Int → Prop
  | [] => True
  | v :: st => f st.length = v ∧ stk f st
theorem stk_eq {f f' : Nat → Int} : ∀ {st : List Int}, stk f st → (∀ k, k < st.length → f' k = f k) → stk f' st := by
  intro st
  induction st with
  | nil => intro _ _; exact trivial
  | cons v st ih => intro h e; exact ⟨by rw [e _ (by simp)]; exact h.1, ih h.2 (fun k hk => e k (by simp only [List.length_cons]; omega))⟩
end EV
