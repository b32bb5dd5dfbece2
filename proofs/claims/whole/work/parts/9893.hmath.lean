/-! ===== hire: which plan is the best ===== -/
def mkC (a b c d : Int) : Nat → Int := fun r => if r = 0 then a else if r = 1 then b else if r = 2 then c else d
def betterC (f c c' : Nat → Int) : Prop := hTot c < hTot c' ∨ (hTot c = hTot c' ∧ (hPay f c < hPay f c' ∨ (hPay f c = hPay f c' ∧ hLex c c')))
section HMATH
variable {f c c' c'' k : Nat → Int} {F X T P : Int}
theorem hF16 : hFeas f c ↔ (0 ≤ c 0 ∧ 0 ≤ c 1 ∧ 0 ≤ c 2 ∧ 0 ≤ c 3) ∧ (f 0 ≤ 0 ∧ f 1 ≤ c 0 ∧ f 2 ≤ c 1 ∧ f 3 ≤ c 0 + c 1 ∧ f 4 ≤ c 2 ∧ f 5 ≤ c 0 + c 2 ∧ f 6 ≤ c 1 + c 2 ∧ f 7 ≤ c 0 + c 1 + c 2 ∧ f 8 ≤ c 3 ∧ f 9 ≤ c 0 + c 3 ∧ f 10 ≤ c 1 + c 3 ∧ f 11 ≤ c 0 + c 1 + c 3 ∧ f 12 ≤ c 2 + c 3 ∧ f 13 ≤ c 0 + c 2 + c 3 ∧ f 14 ≤ c 1 + c 2 + c 3 ∧ f 15 ≤ c 0 + c 1 + c 2 + c 3) := by
  have s : ∀ g : Nat, hSum c g = (if g % 2 = 1 then c 0 else 0) + (if g / 2 % 2 = 1 then c 1 else 0) + (if g / 4 % 2 = 1 then c 2 else 0) + (if g / 8 % 2 = 1 then c 3 else 0) := fun g => rfl
  constructor
  · intro h
    refine ⟨⟨h.1 0 (by decide), h.1 1 (by decide), h.1 2 (by decide), h.1 3 (by decide)⟩, ?_⟩
    have g0 := h.2 0 (by decide)
    have g1 := h.2 1 (by decide)
    have g2 := h.2 2 (by decide)
    have g3 := h.2 3 (by decide)
    have g4 := h.2 4 (by decide)
    have g5 := h.2 5 (by decide)
    have g6 := h.2 6 (by decide)
    have g7 := h.2 7 (by decide)
    have g8 := h.2 8 (by decide)
    have g9 := h.2 9 (by decide)
    have g10 := h.2 10 (by decide)
    have g11 := h.2 11 (by decide)
    have g12 := h.2 12 (by decide)
    have g13 := h.2 13 (by decide)
    have g14 := h.2 14 (by decide)
    have g15 := h.2 15 (by decide)
    simp [s] at g0 g1 g2 g3 g4 g5 g6 g7 g8 g9 g10 g11 g12 g13 g14 g15
    omega
  · rintro ⟨⟨h0, h1, h2, h3⟩, h⟩
    refine ⟨fun r hr => ?_, fun g hg => ?_⟩
    · have : r = 0 ∨ r = 1 ∨ r = 2 ∨ r = 3 := by omega
      rcases this with rfl | rfl | rfl | rfl <;> assumption
    · have : g = 0 ∨ g = 1 ∨ g = 2 ∨ g = 3 ∨ g = 4 ∨ g = 5 ∨ g = 6 ∨ g = 7 ∨ g = 8 ∨ g = 9 ∨ g = 10 ∨ g = 11 ∨ g = 12 ∨ g = 13 ∨ g = 14 ∨ g = 15 := by omega
      rcases this with rfl | rfl | rfl | rfl | rfl | rfl | rfl | rfl | rfl | rfl | rfl | rfl | rfl | rfl | rfl | rfl <;> (simp [s]; omega)
theorem mkC0 {a b c d : Int} : mkC a b c d 0 = a ∧ mkC a b c d 1 = b ∧ mkC a b c d 2 = c ∧ mkC a b c d 3 = d := ⟨rfl, rfl, rfl, rfl⟩
theorem better_tr (h : betterC f c c') (h' : betterC f c' c'') : betterC f c c'' := by
  unfold betterC hLex at *
  omega
theorem best_u (h : hBest f c) (h' : hBest f c') : c 0 = c' 0 ∧ c 1 = c' 1 ∧ c 2 = c' 2 ∧ c 3 = c' 3 := by
  have g := h.2 c' h'.1
  have g' := h'.2 c h.1
  unfold hLex at *
  omega
/-- what the other three must give when so many of the first are hired -/
def rsv (f : Nat → Int) (F : Int) (g : Nat) : Int := max (f (2 * g)) (f (2 * g + 1) - F)
def cT0 (f : Nat → Int) (F X : Int) : Int := max (rsv f F 2) (rsv f F 3 - X)
def cU0 (f : Nat → Int) (F X : Int) : Int := max (rsv f F 4) (rsv f F 5 - X)
def cLk (f : Nat → Int) (F X : Int) : Int := max (rsv f F 6) (rsv f F 7 - X) - cT0 f F X - cU0 f F X
def cT (f : Nat → Int) (F X : Int) : Int := if 0 < cLk f F X ∧ f 18 < f 19 then cT0 f F X + cLk f F X else cT0 f F X
def cU (f : Nat → Int) (F X : Int) : Int := if 0 < cLk f F X ∧ ¬ f 18 < f 19 then cU0 f F X + cLk f F X else cU0 f F X
def cand (f : Nat → Int) (F X : Int) : Nat → Int := mkC F X (cT f F X) (cU f F X)
def askOK (f : Nat → Int) : Prop := f 0 = 0 ∧ (∀ g : Nat, g < 16 → 0 ≤ f g ∧ f g ≤ 99) ∧ ∀ r : Nat, r < 4 → 0 ≤ f (16 + r) ∧ f (16 + r) ≤ 99
theorem askOK.b (h : askOK f) : f 0 = 0 ∧ (0 ≤ f 1 ∧ f 1 ≤ 99) ∧ (0 ≤ f 2 ∧ f 2 ≤ 99) ∧ (0 ≤ f 3 ∧ f 3 ≤ 99) ∧ (0 ≤ f 4 ∧ f 4 ≤ 99) ∧ (0 ≤ f 5 ∧ f 5 ≤ 99) ∧ (0 ≤ f 6 ∧ f 6 ≤ 99) ∧ (0 ≤ f 7 ∧ f 7 ≤ 99) ∧ (0 ≤ f 8 ∧ f 8 ≤ 99) ∧ (0 ≤ f 9 ∧ f 9 ≤ 99) ∧ (0 ≤ f 10 ∧ f 10 ≤ 99) ∧ (0 ≤ f 11 ∧ f 11 ≤ 99) ∧ (0 ≤ f 12 ∧ f 12 ≤ 99) ∧ (0 ≤ f 13 ∧ f 13 ≤ 99) ∧ (0 ≤ f 14 ∧ f 14 ≤ 99) ∧ (0 ≤ f 15 ∧ f 15 ≤ 99) := ⟨h.1, h.2.1 1 (by decide), h.2.1 2 (by decide), h.2.1 3 (by decide), h.2.1 4 (by decide), h.2.1 5 (by decide), h.2.1 6 (by decide), h.2.1 7 (by decide), h.2.1 8 (by decide), h.2.1 9 (by decide), h.2.1 10 (by decide), h.2.1 11 (by decide), h.2.1 12 (by decide), h.2.1 13 (by decide), h.2.1 14 (by decide), h.2.1 15 (by decide)⟩
theorem rsvE : rsv f F 0 = max (f 0) (f 1 - F) ∧ rsv f F 1 = max (f 2) (f 3 - F) ∧ rsv f F 2 = max (f 4) (f 5 - F) ∧ rsv f F 3 = max (f 6) (f 7 - F) ∧ rsv f F 4 = max (f 8) (f 9 - F) ∧ rsv f F 5 = max (f 10) (f 11 - F) ∧ rsv f F 6 = max (f 12) (f 13 - F) ∧ rsv f F 7 = max (f 14) (f 15 - F) := ⟨rfl, rfl, rfl, rfl, rfl, rfl, rfl, rfl⟩
theorem mx4 {a b c d X : Int} : a ≤ max (max a b) (max c d - X) ∧ b ≤ max (max a b) (max c d - X) ∧ c - X ≤ max (max a b) (max c d - X) ∧ d - X ≤ max (max a b) (max c d - X) := by omega
theorem cand_feas (h : askOK f) (h1 : f 1 ≤ F) (hX : rsv f F 1 ≤ X) : hFeas f (cand f F X) := by
  have b := h.b
  obtain ⟨r0, r1, r2, r3, r4, r5, r6, r7⟩ := rsvE (f := f) (F := F)
  rw [hF16]
  obtain ⟨m0, m1, m2, m3⟩ := mkC0 (a := F) (b := X) (c := cT f F X) (d := cU f F X)
  unfold cand
  rw [m0, m1, m2, m3]
  have hT : cT0 f F X ≤ cT f F X ∧ cU0 f F X ≤ cU f F X ∧ cT0 f F X + cU0 f F X + cLk f F X ≤ cT f F X + cU f F X := by
    unfold cT cU
    by_cases a : 0 < cLk f F X
    · by_cases b : f 18 < f 19
      · rw [if_pos ⟨a, b⟩, if_neg (fun z => z.2 b)]; omega
      · rw [if_neg (fun z => b z.2), if_pos ⟨a, b⟩]; omega
    · rw [if_neg (fun z => a z.1), if_neg (fun z => a z.1)]; omega
  have e1 : cT0 f F X = max (max (f 4) (f 5 - F)) (max (f 6) (f 7 - F) - X) := rfl
  have e2 : cU0 f F X = max (max (f 8) (f 9 - F)) (max (f 10) (f 11 - F) - X) := rfl
  have e3 : cLk f F X = max (max (f 12) (f 13 - F)) (max (f 14) (f 15 - F) - X) - cT0 f F X - cU0 f F X := rfl
  have e4 : max (f 2) (f 3 - F) ≤ X := hX
  have m1 := mx4 (a := f 4) (b := f 5 - F) (c := f 6) (d := f 7 - F) (X := X)
  have m2 := mx4 (a := f 8) (b := f 9 - F) (c := f 10) (d := f 11 - F) (X := X)
  have m3 := mx4 (a := f 12) (b := f 13 - F) (c := f 14) (d := f 15 - F) (X := X)
  rw [← e1] at m1
  rw [← e2] at m2
  have e5 : max (max (f 12) (f 13 - F)) (max (f 14) (f 15 - F) - X) = cLk f F X + cT0 f F X + cU0 f F X := by omega
  rw [e5] at m3
  have m4 : f 2 ≤ X ∧ f 3 - F ≤ X := by omega
  clear e1 e2 e3 e4 e5 hX r0 r1 r2 r3 r4 r5 r6 r7
  generalize cT f F X = t at *
  generalize cU f F X = u at *
  generalize cT0 f F X = t0 at *
  generalize cU0 f F X = u0 at *
  generalize cLk f F X = lk at *
  obtain ⟨b0, b1, b2, b3, b4, b5, b6, b7, b8, b9, b10, b11, b12, b13, b14, b15⟩ := b
  obtain ⟨t1, t2, t3⟩ := hT
  obtain ⟨p1, p2, p3, p4⟩ := m1
  obtain ⟨q1, q2, q3, q4⟩ := m2
  obtain ⟨s1, s2, s3, s4⟩ := m3
  exact ⟨⟨by omega, by omega, by omega, by omega⟩, by omega, by omega, by omega, by omega, by omega, by omega, by omega, by omega, by omega, by omega, by omega, by omega, by omega, by omega, by omega, by omega⟩
theorem cand_best (h : askOK f) (hc : hFeas f c') (e0 : c' 0 = F) (e1 : c' 1 = X) : betterC f (cand f F X) c' := by
  have b := h.b
  have p8 := h.2.2 2 (by decide)
  have p9 := h.2.2 3 (by decide)
  obtain ⟨r0, r1, r2, r3, r4, r5, r6, r7⟩ := rsvE (f := f) (F := F)
  rw [hF16] at hc
  obtain ⟨m0, m1, m2, m3⟩ := mkC0 (a := F) (b := X) (c := cT f F X) (d := cU f F X)
  unfold betterC hTot hPay hLex cand
  rw [m0, m1, m2, m3, e0, e1]
  have g1 : cT0 f F X = max (rsv f F 2) (rsv f F 3 - X) := rfl
  have g2 : cU0 f F X = max (rsv f F 4) (rsv f F 5 - X) := rfl
  have g3 : cLk f F X = max (rsv f F 6) (rsv f F 7 - X) - cT0 f F X - cU0 f F X := rfl
  rw [r2, r3] at g1
  rw [r4, r5] at g2
  rw [r6, r7] at g3
  have c2 : cT0 f F X ≤ c' 2 := by omega
  have c3 : cU0 f F X ≤ c' 3 := by omega
  have c4 : cT0 f F X + cU0 f F X + cLk f F X ≤ c' 2 + c' 3 := by omega
  by_cases a : 0 < cLk f F X
  · by_cases d : f 18 < f 19
    · have eT : cT f F X = cT0 f F X + cLk f F X := if_pos ⟨a, d⟩
      have eU : cU f F X = cU0 f F X := if_neg (fun z => z.2 d)
      rw [eT, eU]
      by_cases tt : c' 2 + c' 3 = cT0 f F X + cU0 f F X + cLk f F X
      · right
        refine ⟨by omega, ?_⟩
        have dd : c' 2 = cT0 f F X + cLk f F X - (c' 3 - cU0 f F X) := by omega
        have k1 : 0 ≤ (c' 3 - cU0 f F X) * (f 19 - f 18) := Int.mul_nonneg (by omega) (by omega)
        have k2 : (c' 3 - cU0 f F X) * (f 19 - f 18) = (c' 3 - cU0 f F X) * f 19 - (c' 3 - cU0 f F X) * f 18 := Int.mul_sub _ _ _
        have k3 : c' 2 * f 18 = (cT0 f F X + cLk f F X) * f 18 - (c' 3 - cU0 f F X) * f 18 := by rw [dd]; exact Int.sub_mul _ _ _
        have k4 : c' 3 * f 19 = cU0 f F X * f 19 + (c' 3 - cU0 f F X) * f 19 := by rw [← Int.add_mul]; congr 1; omega
        by_cases z : c' 3 = cU0 f F X
        · right
          rw [z] at k2 k3 k4 ⊢
          rw [Int.sub_self, Int.zero_mul, Int.zero_mul] at k2
          rw [Int.sub_self, Int.zero_mul] at k3 k4
          exact ⟨by omega, by omega⟩
        · left
          have k5 : 0 < (c' 3 - cU0 f F X) * (f 19 - f 18) := Int.mul_pos (by omega) (by omega)
          omega
      · left; omega
    · have eT : cT f F X = cT0 f F X := if_neg (fun z => d z.2)
      have eU : cU f F X = cU0 f F X + cLk f F X := if_pos ⟨a, d⟩
      rw [eT, eU]
      by_cases tt : c' 2 + c' 3 = cT0 f F X + cU0 f F X + cLk f F X
      · right
        refine ⟨by omega, ?_⟩
        have k1 : 0 ≤ (c' 2 - cT0 f F X) * (f 18 - f 19) := Int.mul_nonneg (by omega) (by omega)
        have k2 : (c' 2 - cT0 f F X) * (f 18 - f 19) = (c' 2 - cT0 f F X) * f 18 - (c' 2 - cT0 f F X) * f 19 := Int.mul_sub _ _ _
        have k3 : c' 2 * f 18 = cT0 f F X * f 18 + (c' 2 - cT0 f F X) * f 18 := by rw [← Int.add_mul]; congr 1; omega
        have k4 : c' 3 * f 19 = (cU0 f F X + cLk f F X) * f 19 - (c' 2 - cT0 f F X) * f 19 := by rw [← Int.sub_mul]; congr 1; omega
        by_cases w : F * f 16 + X * f 17 + cT0 f F X * f 18 + (cU0 f F X + cLk f F X) * f 19 < F * f 16 + X * f 17 + c' 2 * f 18 + c' 3 * f 19
        · exact Or.inl w
        · exact Or.inr ⟨by omega, by omega⟩
      · left; omega
  · have eT : cT f F X = cT0 f F X := if_neg (fun z => a z.1)
    have eU : cU f F X = cU0 f F X := if_neg (fun z => a z.1)
    rw [eT, eU]
    by_cases tt : c' 2 + c' 3 = cT0 f F X + cU0 f F X
    · have z1 : c' 2 = cT0 f F X := by omega
      have z2 : c' 3 = cU0 f F X := by omega
      rw [z1, z2]
      right; exact ⟨rfl, Or.inr ⟨rfl, by omega⟩⟩
    · left; omega
/-- what was looked at before: fewer of the first, or as many of them and fewer of the second -/
def befC (F X : Int) (c : Nat → Int) : Prop := c 0 < F ∨ (c 0 = F ∧ c 1 < X)
/-- what is kept: total, pay, counts -/
def keptC (f : Nat → Int) (T P : Int) (k : Nat → Int) (D : (Nat → Int) → Prop) : Prop := (∀ c' : Nat → Int, hFeas f c' → D c' → T < 2147483647 ∧ betterC f k c') ∧ ((T = 2147483647 ∧ P = 2147483647) ∨ (T < 1000000 ∧ P < 100000000 ∧ hFeas f k ∧ T = hTot k ∧ P = hPay f k ∧ D k))
theorem lex_of (h : befC F X k) (e0 : c 0 = F) (e1 : c 1 = X) : hLex k c := by unfold befC hLex at *; omega
theorem kept_no (hk : keptC f T P k (befC F X)) (ha : askOK f) (h1 : f 1 ≤ F) (hX : rsv f F 1 ≤ X) (hn : T < hTot (cand f F X) ∨ (T = hTot (cand f F X) ∧ P ≤ hPay f (cand f F X))) (hT : hTot (cand f F X) < 1000000) : keptC f T P k (befC F (X + 1)) := by
  obtain ⟨k1, k2⟩ := hk
  have kv : T < 1000000 ∧ P < 100000000 ∧ hFeas f k ∧ T = hTot k ∧ P = hPay f k ∧ befC F X k := k2.elim (fun z => by omega) id
  obtain ⟨v1, v2, v3, v4, v5, v6⟩ := kv
  have be : betterC f k (cand f F X) := by
    unfold betterC
    rcases hn with hn | ⟨hn1, hn2⟩
    · left; omega
    · right
      refine ⟨by omega, ?_⟩
      by_cases z : hPay f k < hPay f (cand f F X)
      · exact Or.inl z
      · exact Or.inr ⟨by omega, lex_of v6 rfl rfl⟩
  refine ⟨fun c' hc hb => ⟨by omega, ?_⟩, Or.inr ⟨v1, v2, v3, v4, v5, ?_⟩⟩
  · by_cases z : befC F X c'
    · exact (k1 c' hc z).2
    · have : c' 0 = F ∧ c' 1 = X := by unfold befC at *; omega
      exact better_tr be (cand_best ha hc this.1 this.2)
  · unfold befC at *; omega
theorem kept_yes (ha : askOK f) (h1 : f 1 ≤ F) (hX : rsv f F 1 ≤ X) (hn : hTot (cand f F X) < T ∨ (hTot (cand f F X) = T ∧ hPay f (cand f F X) < P)) (hT : hTot (cand f F X) < 1000000) (hP : hPay f (cand f F X) < 100000000) (e0 : k 0 = F) (e1 : k 1 = X) (e2 : k 2 = cT f F X) (e3 : k 3 = cU f F X) {kold : Nat → Int} (hko : keptC f T P kold (befC F X)) : keptC f (hTot (cand f F X)) (hPay f (cand f F X)) k (befC F (X + 1)) := by
  have tk : hTot k = hTot (cand f F X) := by unfold hTot; rw [e0, e1, e2, e3]; rfl
  have pk : hPay f k = hPay f (cand f F X) := by unfold hPay; rw [e0, e1, e2, e3]; rfl
  have lk : ∀ c', betterC f (cand f F X) c' → betterC f k c' := by
    intro c' z
    unfold betterC at *
    rw [tk, pk]
    have : hLex (cand f F X) c' → hLex k c' := by
      intro y
      have m0 : cand f F X 0 = F := rfl
      have m1 : cand f F X 1 = X := rfl
      have m2 : cand f F X 2 = cT f F X := rfl
      have m3 : cand f F X 3 = cU f F X := rfl
      unfold hLex at *
      omega
    rcases z with z | ⟨z1, z2 | ⟨z3, z4⟩⟩
    · exact Or.inl z
    · exact Or.inr ⟨z1, Or.inl z2⟩
    · exact Or.inr ⟨z1, Or.inr ⟨z3, this z4⟩⟩
  have fk : hFeas f k := by
    have := cand_feas ha h1 hX
    rw [hF16] at this ⊢
    have m0 : cand f F X 0 = F := rfl
    have m1 : cand f F X 1 = X := rfl
    have m2 : cand f F X 2 = cT f F X := rfl
    have m3 : cand f F X 3 = cU f F X := rfl
    rw [m0, m1, m2, m3] at this
    rw [e0, e1, e2, e3]; exact this
  obtain ⟨k1, k2⟩ := hko
  refine ⟨fun c' hc hb => ⟨by omega, lk c' ?_⟩, Or.inr ⟨hT, hP, fk, tk.symm, pk.symm, ?_⟩⟩
  · by_cases z : befC F X c'
    · have o := (k1 c' hc z)
      have kv : T < 1000000 ∧ P < 100000000 ∧ hFeas f kold ∧ T = hTot kold ∧ P = hPay f kold ∧ befC F X kold := k2.elim (fun z => by omega) id
      obtain ⟨v1, v2, v3, v4, v5, v6⟩ := kv
      have be : betterC f (cand f F X) kold := by
        unfold betterC
        rcases hn with hn | ⟨hn1, hn2⟩
        · left; omega
        · right; exact ⟨by omega, Or.inl (by omega)⟩
      exact better_tr be o.2
    · have : c' 0 = F ∧ c' 1 = X := by unfold befC at *; omega
      exact cand_best ha hc this.1 this.2
  · unfold befC; omega
end HMATH
