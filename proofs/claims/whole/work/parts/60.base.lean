/-! ===== Layer 3: numbers, pure answers, the state that both sides stand for ===== -/
theorem lt_ti {a b : Int32} : a < b ↔ a.toInt < b.toInt := Int32.lt_iff_toInt_lt
theorem eq_ti {a b : Int32} : a = b ↔ a.toInt = b.toInt := ⟨fun h => by rw [h], fun h => Int32.toInt.inj h⟩
theorem ti_lo (a : Int32) : -2147483648 ≤ a.toInt := by have := Int32.le_toInt a; simpa using this
theorem ti_hi (a : Int32) : a.toInt < 2147483648 := by have := Int32.toInt_lt a; simpa using this
theorem bm_id {z : Int} (h1 : -2147483648 ≤ z) (h2 : z < 2147483648) : z.bmod 4294967296 = z := by
  rw [Int.bmod_eq_of_le_mul_two] <;> omega
theorem add_ti {a b : Int32} (h1 : -2147483648 ≤ a.toInt + b.toInt) (h2 : a.toInt + b.toInt < 2147483648) : (a + b).toInt = a.toInt + b.toInt := by
  rw [Int32.toInt_add]
  exact bm_id h1 h2
theorem sub_ti {a b : Int32} (h1 : -2147483648 ≤ a.toInt - b.toInt) (h2 : a.toInt - b.toInt < 2147483648) : (a - b).toInt = a.toInt - b.toInt := by
  rw [Int32.toInt_sub]
  exact bm_id h1 h2
theorem mul_ti {a b : Int32} (h1 : -2147483648 ≤ a.toInt * b.toInt) (h2 : a.toInt * b.toInt < 2147483648) : (a * b).toInt = a.toInt * b.toInt := by
  rw [Int32.toInt_mul]
  exact bm_id h1 h2
theorem neg_ti {a : Int32} (h : -2147483648 < a.toInt) : (-a).toInt = - a.toInt := by
  rw [Int32.toInt_neg]
  have := ti_hi a
  exact bm_id (by omega) (by omega)
theorem div_ti {a b : Int32} (h1 : 0 ≤ a.toInt) (h2 : 0 < b.toInt) : (a / b).toInt = a.toInt / b.toInt := by
  rw [Int32.toInt_div]
  have h3 := ti_hi a
  have h4 : a.toInt.tdiv b.toInt = a.toInt / b.toInt := Int.tdiv_eq_ediv_of_nonneg h1
  have h5 : 0 ≤ a.toInt / b.toInt := Int.ediv_nonneg h1 (by omega)
  have h6 : a.toInt / b.toInt ≤ a.toInt := Int.ediv_le_self _ h1
  rw [h4]
  exact bm_id (by omega) (by omega)
theorem rem_ti {a b : Int32} (h1 : 0 ≤ a.toInt) (h2 : 0 < b.toInt) : (a - a / b * b).toInt = a.toInt % b.toInt := by
  have h3 := ti_hi a
  have e := div_ti h1 h2
  have h5 : 0 ≤ a.toInt / b.toInt := Int.ediv_nonneg h1 (by omega)
  have h6 : a.toInt / b.toInt * b.toInt ≤ a.toInt := Int.ediv_mul_le _ (by omega)
  have h7 : 0 ≤ a.toInt / b.toInt * b.toInt := Int.mul_nonneg h5 (by omega)
  have e2 : (a / b * b).toInt = a.toInt / b.toInt * b.toInt := by rw [mul_ti (by rw [e]; omega) (by rw [e]; omega), e]
  rw [sub_ti (by rw [e2]; omega) (by rw [e2]; omega), e2, Int.emod_def, Int.mul_comm]
theorem xin_iff {i : Int32} {n : Nat} : xin i n = true ↔ 0 ≤ i.toInt ∧ i.toInt < n := by
  constructor
  · intro h
    exact vp_in_iff.mp (xin_vp h)
  · intro h
    have h1 := vp_in_iff.mpr h
    simp only [xin, Bool.not_eq_true', Bool.or_eq_false_iff, decide_eq_false_iff_not]
    refine ⟨fun z => h1 (Or.inl z), ?_⟩
    cases hb : Nat.ble n (xIx i) with
    | false => rfl
    | true => exact absurd (Or.inr (Nat.le_of_ble_eq_true hb)) h1
theorem xIx_ti (i : Int32) : xIx i = i.toInt.toNat := rfl
/-- a truth value as the machine answers it -/
def b2i (p : Prop) [Decidable p] : Int32 := if p then 1 else 0
theorem b2i_t {p : Prop} [Decidable p] (h : p) : b2i p = 1 := if_pos h
theorem b2i_f {p : Prop} [Decidable p] (h : ¬ p) : b2i p = 0 := if_neg h
theorem b2i_0 {p : Prop} [Decidable p] : b2i p = 0 ↔ ¬ p := by
  by_cases h : p
  · rw [b2i_t h]; exact ⟨fun z => absurd z (by decide), fun z => absurd h z⟩
  · rw [b2i_f h]; exact ⟨fun _ => h, fun _ => rfl⟩
/-- the run answers v and leaves the memory M -/
def PU (x : xSt) (v : Option Value) (M : xMem) : Prop := WP x (fun v' M' => v' = v ∧ M' = M)
section USE
variable {x : xSt} {S : List xSh} {I : Nat → Nat → Int32} {J : Nat → Nat → Int64}
theorem PU.i {r : Int32} {R : Int32 → (Nat → Nat → Int32) → (Nat → Nat → Int64) → Prop} (h : PU x (some (.int r)) (S, I, J)) (k : R r I J) : WP x (fun v M => ∃ (r : Int32) (I : Nat → Nat → Int32) (J : Nat → Nat → Int64), v = some (.int r) ∧ M = (S, I, J) ∧ R r I J) := WP.mono h (fun v M q => ⟨r, I, J, q.1, q.2, k⟩)
theorem PU.l {r : Int64} {R : Int64 → (Nat → Nat → Int32) → (Nat → Nat → Int64) → Prop} (h : PU x (some (.long r)) (S, I, J)) (k : R r I J) : WP x (fun v M => ∃ (r : Int64) (I : Nat → Nat → Int32) (J : Nat → Nat → Int64), v = some (.long r) ∧ M = (S, I, J) ∧ R r I J) := WP.mono h (fun v M q => ⟨r, I, J, q.1, q.2, k⟩)
theorem PU.v {w : Option Value} {R : (Nat → Nat → Int32) → (Nat → Nat → Int64) → Prop} (h : PU x w (S, I, J)) (k : R I J) : WP x (fun v M => ∃ (I : Nat → Nat → Int32) (J : Nat → Nat → Int64), v = w ∧ M = (S, I, J) ∧ R I J) := WP.mono h (fun v M q => ⟨I, J, q.1, q.2, k⟩)
end USE
/-- the run answers an int of the value z -/
def PI (x : xSt) (z : Int) (M : xMem) : Prop := WP x (fun v M' => ∃ r : Int32, v = some (.int r) ∧ r.toInt = z ∧ M' = M)
/-- the run answers whether p -/
def PB (x : xSt) (p : Prop) (M : xMem) : Prop := WP x (fun v M' => ∃ r : Int32, v = some (.int r) ∧ ((r = 1 ∧ p) ∨ (r = 0 ∧ ¬ p)) ∧ M' = M)
section USE2
variable {x : xSt} {S : List xSh} {I : Nat → Nat → Int32} {J : Nat → Nat → Int64}
theorem PI.u {z : Int} {R : Int32 → (Nat → Nat → Int32) → (Nat → Nat → Int64) → Prop} (h : PI x z (S, I, J)) (k : ∀ r : Int32, r.toInt = z → R r I J) : WP x (fun v M => ∃ (r : Int32) (I : Nat → Nat → Int32) (J : Nat → Nat → Int64), v = some (.int r) ∧ M = (S, I, J) ∧ R r I J) := WP.mono h (fun v M q => by obtain ⟨r, h1, h2, h3⟩ := q; exact ⟨r, I, J, h1, h3, k r h2⟩)
theorem PB.u {p : Prop} {R : Int32 → (Nat → Nat → Int32) → (Nat → Nat → Int64) → Prop} (h : PB x p (S, I, J)) (k1 : p → R 1 I J) (k0 : ¬ p → R 0 I J) : WP x (fun v M => ∃ (r : Int32) (I : Nat → Nat → Int32) (J : Nat → Nat → Int64), v = some (.int r) ∧ M = (S, I, J) ∧ R r I J) := WP.mono h (fun v M q => by
  obtain ⟨r, h1, h2, h3⟩ := q
  rcases h2 with ⟨rfl, hp⟩ | ⟨rfl, hp⟩
  · exact ⟨1, I, J, h1, h3, k1 hp⟩
  · exact ⟨0, I, J, h1, h3, k0 hp⟩)
end USE2
/-- branches on what is known -/
theorem br1 {A B : Prop} (a : A) : ((1 : Int32) = 0 → B) ∧ (¬ (1 : Int32) = 0 → A) := ⟨fun h => absurd h (by decide), fun _ => a⟩
theorem br0 {A B : Prop} (a : A) : ((0 : Int32) = 0 → A) ∧ (¬ (0 : Int32) = 0 → B) := ⟨fun _ => a, fun h => absurd rfl h⟩
theorem brz {p q A B : Prop} (e : p ↔ q) (a : q → A) (b : ¬ q → B) : (p → A) ∧ (¬ p → B) := ⟨fun h => a (e.mp h), fun h => b (fun z => h (e.mpr z))⟩
theorem b01 (z : Int32) (h : z = 0 ∨ z = 1) : (xeq z 0 || xeq z 1) = true := by rcases h with rfl | rfl <;> rfl
