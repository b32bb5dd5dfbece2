/-! ===== hire: the reference ===== -/
def hI4 (I : Nat → Nat → Int32) (r : Nat) : Int := (I 120 r).toInt
def bI4 (I : Nat → Nat → Int32) (r : Nat) : Int := (I 121 r).toInt
/-- the reference's hiring touches only its own rows -/
def frN (I I1 : Nat → Nat → Int32) : Prop := (∀ a : Nat, a ≠ 71 → a ≠ 119 → a ≠ 120 → a ≠ 121 → I1 a = I a) ∧ ∀ j : Nat, j ≠ 71 → I1 71 j = I 71 j
/-- what is asked, by those who skip; n readers -/
def NB (f : Nat → Int) (n : Nat) (I : Nat → Nat → Int32) : Prop := ∀ j : Nat, j < 16 → (I 119 j).toInt = if j < 2 ^ n then f (2 ^ n - 1 - j) else 0
def memA (n : Nat) (A : Int) (c : Nat → Int) : Prop := 0 ≤ c 0 ∧ 0 ≤ c 1 ∧ 0 ≤ c 2 ∧ 0 ≤ c 3 ∧ hTot c = A ∧ (n ≤ 3 → c 3 = 0) ∧ (n ≤ 2 → c 2 = 0) ∧ (n ≤ 1 → c 1 = 0)
def ltC (c c' : Nat → Int) : Prop := c 0 < c' 0 ∨ (c 0 = c' 0 ∧ (c 1 < c' 1 ∨ (c 1 = c' 1 ∧ c 2 < c' 2)))
/-- the best of those that were looked at -/
def partI (f : Nat → Int) (n : Nat) (A : Int) (D : (Nat → Int) → Prop) (I : Nat → Nat → Int32) : Prop := ((I 71 71).toInt = -1 ∧ ∀ c' : Nat → Int, memA n A c' → hFeas f c' → ¬ D c') ∨ (0 ≤ (I 71 71).toInt ∧ memA n A (bI4 I) ∧ hFeas f (bI4 I) ∧ D (bI4 I) ∧ (I 71 71).toInt = hPay f (bI4 I) ∧ ∀ c' : Nat → Int, memA n A c' → hFeas f c' → D c' → hPay f (bI4 I) < hPay f c' ∨ (hPay f (bI4 I) = hPay f c' ∧ hLex (bI4 I) c'))
def hsJ (h : Nat → Int) (j : Nat) : Nat → Int
  | 0 => 0
  | k + 1 => hsJ h j k + (if j / 2 ^ k % 2 = 0 then h k else 0)
def fOK (f : Nat → Int) (n : Nat) : Prop := (∀ g : Nat, g < 16 → 0 ≤ f g ∧ f g ≤ 99) ∧ (∀ g : Nat, 2 ^ n ≤ g → g < 16 → f g = 0) ∧ ∀ r : Nat, r < 4 → 0 ≤ f (16 + r) ∧ f (16 + r) ≤ 99
theorem bit_z : ∀ j : Nat, j < 16 → ∀ r : Nat, r < 4 → (((Int32.ofNat j) >>> ((Int32.ofNat r) &&& 31)) &&& 1 = 0 ↔ j / 2 ^ r % 2 = 0) := by decide
theorem bit_n1 : ∀ n : Nat, n < 5 → ∀ j : Nat, j < 16 → ∀ r : Nat, r < 4 → (j < 2 ^ n ∧ r < n → ((2 ^ n - 1 - j) / 2 ^ r % 2 = 1 ↔ j / 2 ^ r % 2 = 0)) := by decide
theorem bit_n2 : ∀ n : Nat, n < 5 → ∀ j : Nat, j < 16 → ∀ r : Nat, r < 4 → (j < 2 ^ n ∧ n ≤ r → (2 ^ n - 1 - j) / 2 ^ r % 2 = 0) := by decide
theorem shl_n : ∀ n : Nat, n < 5 → (((1 : Int32) <<< (Int32.ofNat n &&& 31)) - 1).toInt = ((2 ^ n - 1 : Nat) : Int) := by decide
section HIREM
variable {S : aS} {L d dr tl : Nat} {I I0 I1 : Nat → Nat → Int32} {J : Nat → Nat → Int64} {a1 a2 a3 a4 a5 x : Int32} {r q p m n : Nat} {l : Int} {f k c c' h : Nat → Int} {A : Int} {Q : Option Value → xMem → Prop} {D : (Nat → Int) → Prop}
theorem frN_refl : frN I I := ⟨fun _ _ _ _ _ => rfl, fun _ _ => rfl⟩
theorem frN.tr {I2 : Nat → Nat → Int32} (h : frN I I1) (h' : frN I1 I2) : frN I I2 := ⟨fun a g1 g2 g3 g4 => (h'.1 a g1 g2 g3 g4).trans (h.1 a g1 g2 g3 g4), fun j g => (h'.2 j g).trans (h.2 j g)⟩
theorem frN_w {a k : Nat} {v : Int32} (h : a = 119 ∨ a = 120 ∨ a = 121) : frN I (xwI I a k v) := ⟨fun b g1 g2 g3 g4 => xwI_ne (by omega), fun j _ => by rw [xwI_ne (by omega)]⟩
theorem frN_p {v : Int32} : frN I (xwI I 71 71 v) := ⟨fun b g1 _ _ _ => xwI_ne g1, fun j hj => xgn hj⟩
theorem frN.kc (h : frN I I1) : keepC I I1 J J := fun a ha => ⟨h.1 a (by omega) (by omega) (by omega) (by omega), rfl⟩
theorem MInv.frn (q : MInv S I J) (h : frN I I1) : MInv S I1 J := by
  obtain ⟨g1, g2, g3, g4, g5, g6, g7, g8, g9, g10⟩ := q
  have c : ∀ a : Nat, a ≠ 71 → a ≠ 119 → a ≠ 120 → a ≠ 121 → I1 a = I a := h.1
  refine ⟨g1, ?_, g3, ?_, ?_, ?_, ?_, ?_, g9, ?_⟩
  · unfold MIb at *; rw [c 93 (by decide) (by decide) (by decide) (by decide), c 95 (by decide) (by decide) (by decide) (by decide), c 96 (by decide) (by decide) (by decide) (by decide), c 99 (by decide) (by decide) (by decide) (by decide), c 100 (by decide) (by decide) (by decide) (by decide), c 101 (by decide) (by decide) (by decide) (by decide), c 102 (by decide) (by decide) (by decide) (by decide), c 103 (by decide) (by decide) (by decide) (by decide), c 105 (by decide) (by decide) (by decide) (by decide), c 106 (by decide) (by decide) (by decide) (by decide), c 107 (by decide) (by decide) (by decide) (by decide)]; exact g2
  · unfold MIw at *; rw [h.2 55 (by decide), c 110 (by decide) (by decide) (by decide) (by decide), c 111 (by decide) (by decide) (by decide) (by decide), c 112 (by decide) (by decide) (by decide) (by decide), c 113 (by decide) (by decide) (by decide) (by decide), c 114 (by decide) (by decide) (by decide) (by decide), c 115 (by decide) (by decide) (by decide) (by decide)]; exact g4
  · unfold MIc at *; rw [h.2 65 (by decide), h.2 66 (by decide), c 116 (by decide) (by decide) (by decide) (by decide), c 117 (by decide) (by decide) (by decide) (by decide), c 118 (by decide) (by decide) (by decide) (by decide)]; exact g5
  · unfold MIt at *; rw [h.2 1 (by decide), c 72 (by decide) (by decide) (by decide) (by decide)]; exact g6
  · unfold MIp at *; rw [h.2 82 (by decide), c 130 (by decide) (by decide) (by decide) (by decide)]; exact g7
  · unfold MIf at *; rw [h.2 7 (by decide), h.2 8 (by decide)]; exact g8
  · intro a w hm k hk
    have ha : 73 ≤ a ∧ a ≤ 91 := by
      simp only [List.mem_cons, Prod.mk.injEq, List.not_mem_nil, or_false] at hm
      omega
    rw [c a (by omega) (by omega) (by omega) (by omega)]
    exact g10 a w hm k hk
/-- what a group gives, by those who skip -/
theorem hs_sum (hn : n ≤ 4) {j : Nat} (hj : j < 2 ^ n) (hj16 : j < 16) (z : ∀ r : Nat, n ≤ r → r < 4 → h r = 0) : hsJ h j n = hSum h (2 ^ n - 1 - j) := by
  have b : ∀ r : Nat, r < 4 → (r < n → ((2 ^ n - 1 - j) / 2 ^ r % 2 = 1 ↔ j / 2 ^ r % 2 = 0)) ∧ (n ≤ r → (2 ^ n - 1 - j) / 2 ^ r % 2 = 0) := fun r hr => ⟨fun c => bit_n1 n (by omega) j hj16 r hr ⟨hj, c⟩, fun c => bit_n2 n (by omega) j hj16 r hr ⟨hj, c⟩⟩
  have e : hSum h (2 ^ n - 1 - j) = (if (2 ^ n - 1 - j) / 2 ^ 0 % 2 = 1 then h 0 else 0) + (if (2 ^ n - 1 - j) / 2 ^ 1 % 2 = 1 then h 1 else 0) + (if (2 ^ n - 1 - j) / 2 ^ 2 % 2 = 1 then h 2 else 0) + (if (2 ^ n - 1 - j) / 2 ^ 3 % 2 = 1 then h 3 else 0) := by
    unfold hSum
    rw [show (2 : Nat) ^ 0 = 1 from rfl, show (2 : Nat) ^ 1 = 2 from rfl, show (2 : Nat) ^ 2 = 4 from rfl, show (2 : Nat) ^ 3 = 8 from rfl, Nat.div_one]
  have t : ∀ r : Nat, r < 4 → (if (2 ^ n - 1 - j) / 2 ^ r % 2 = 1 then h r else 0) = (if r < n ∧ j / 2 ^ r % 2 = 0 then h r else 0) := by
    intro r hr
    by_cases c : r < n
    · by_cases d : j / 2 ^ r % 2 = 0
      · rw [if_pos (((b r hr).1 c).mpr d), if_pos ⟨c, d⟩]
      · rw [if_neg (fun y => d (((b r hr).1 c).mp y)), if_neg (fun y => d y.2)]
    · have d := (b r hr).2 (by omega)
      rw [if_neg (by omega), if_neg (fun y => c y.1)]
  rw [e, t 0 (by decide), t 1 (by decide), t 2 (by decide), t 3 (by decide)]
  have nn : n = 0 ∨ n = 1 ∨ n = 2 ∨ n = 3 ∨ n = 4 := by omega
  rcases nn with rfl | rfl | rfl | rfl | rfl <;> simp [hsJ] <;> omega
theorem hs_b (h0 : ∀ r : Nat, r < 4 → 0 ≤ h r ∧ h r ≤ A) {j : Nat} : ∀ k : Nat, k ≤ 4 → 0 ≤ hsJ h j k ∧ hsJ h j k ≤ A * k := by
  intro k
  induction k with
  | zero => intro _; show (0 : Int) ≤ 0 ∧ (0 : Int) ≤ A * ((0 : Nat) : Int); rw [show ((0 : Nat) : Int) = 0 from rfl, Int.mul_zero]; omega
  | succ k ih =>
    intro hk
    have i := ih (by omega)
    have b := h0 k (by omega)
    have e : A * ((k + 1 : Nat) : Int) = A * k + A := by rw [Int.natCast_add, Int.mul_add]; show _ + A * 1 = _; rw [Int.mul_one]
    show 0 ≤ hsJ h j k + _ ∧ hsJ h j k + _ ≤ _
    rw [e]
    split <;> omega
theorem enough_in (hm : MB S I J) (en : sNR S = n) (hn : n ≤ 4) (h0 : ∀ r : Nat, r < 4 → 0 ≤ hI4 I r ∧ hI4 I r ≤ 1000) {j : Nat} (hj : j < 16) (e1 : a1 = Int32.ofNat j) (K0 : hsJ (hI4 I) j n < (I 119 j).toInt → Q (some (.int 0)) (xSH L dr tl, I, J)) (K1 : ¬ hsJ (hI4 I) j n < (I 119 j).toInt → WP ((d + 2), 284, 2, [some (.ref 71), some (.int (a1 + 1)), none, none], [], (xSH L dr tl, I, J)) Q) : ∀ (m k : Nat) (s : Int32), k + m = n → s.toInt = hsJ (hI4 I) j k → WP ((d + 2), 284, 12, [some (.ref 71), some (.int a1), some (.int s), some (.int (Int32.ofNat k))], [], (xSH L dr tl, I, J)) Q := by
  have ej : a1.toInt = j := by rw [e1]; exact ofN16 j (by omega)
  have xj : xIx a1 = j := by rw [xIx_ti, ej]; exact Int.toNat_natCast _
  intro m
  induction m with
  | zero =>
    intro k s hk hs
    have ek := ofN16 k (by omega)
    have kn : k = n := by omega
    subst kn
    refine w284_12 ((m_people hm.2.1).u fun r1 g1 => brz lt_ti (fun z => by omega) (fun _ => ⟨by rw [xin_iff, ej]; omega, ?_⟩))
    rw [xj]
    exact brz lt_ti (fun y => K0 (by omega)) (fun y => K1 (by omega))
  | succ m ih =>
    intro k s hk hs
    have ek := ofN16 k (by omega)
    have i1 : Int32.ofNat k + 1 = Int32.ofNat (k + 1) := eq_ti.mpr (by rw [add1 (by omega) (by omega), ek, ofN16 (k + 1) (by omega)]; rfl)
    have xk : xIx (Int32.ofNat k) = k := by rw [xIx_ti, ek]; exact Int.toNat_natCast _
    have hb := hs_b (j := j) h0 k (by omega)
    have hk0 := h0 k (by omega)
    have hk0' : hI4 I k = (I 120 k).toInt := rfl
    have es : hsJ (hI4 I) j (k + 1) = hsJ (hI4 I) j k + (if j / 2 ^ k % 2 = 0 then hI4 I k else 0) := rfl
    refine w284_12 ((m_people hm.2.1).u fun r1 g1 => brz lt_ti (fun _ => ?_) (fun z => by omega))
    rw [e1, i1]
    refine brz (bit_z j hj k (by omega)) (fun y => ⟨by rw [xin_iff, ek]; omega, ?_⟩) (fun y => ?_)
    · rw [xk, ← e1]
      refine ih (k + 1) _ (by omega) ?_
      rw [es, if_pos y, addn (by omega) (by omega) (by omega) (by omega), hs]; rfl
    · rw [← e1]
      refine ih (k + 1) _ (by omega) ?_
      rw [es, if_neg y, hs]; omega
theorem enough_out (hm : MB S I J) (en : sNR S = n) (hn : n ≤ 4) (h0 : ∀ r : Nat, r < 4 → 0 ≤ hI4 I r ∧ hI4 I r ≤ 1000) : ∀ (m j : Nat), j + m = 16 → (∀ i : Nat, i < j → ¬ hsJ (hI4 I) i n < (I 119 i).toInt) → PB ((d + 2), 284, 2, [some (.ref 71), some (.int (Int32.ofNat j)), none, none], [], (xSH L dr tl, I, J)) (∀ i : Nat, i < 16 → ¬ hsJ (hI4 I) i n < (I 119 i).toInt) (xSH L dr tl, I, J) := by
  have lt16 : ∀ {a : Int32}, a < 16 ↔ a.toInt < 16 := fun {a} => lt_ti
  intro m
  induction m with
  | zero =>
    intro j hj h
    have ej := ofN16 j (by omega)
    exact w284_2 (brz lt16 (fun z => by omega) (fun _ => ⟨1, rfl, Or.inl ⟨rfl, fun i hi => h i (by omega)⟩, rfl⟩))
  | succ m ih =>
    intro j hj h
    have ej := ofN16 j (by omega)
    have i1 : Int32.ofNat j + 1 = Int32.ofNat (j + 1) := eq_ti.mpr (by rw [add1 (by omega) (by omega), ej, ofN16 (j + 1) (by omega)]; rfl)
    refine w284_2 (brz lt16 (fun _ => enough_in (j := j) hm en hn h0 (by omega) rfl (fun y => ⟨0, rfl, Or.inr ⟨rfl, fun z => z j (by omega) y⟩, rfl⟩) (fun y => ?_) n 0 0 (by omega) rfl) (fun z => by omega))
    rw [i1]
    refine ih (j + 1) (by omega) (fun i hi => ?_)
    by_cases e : i = j
    · rw [e]; exact y
    · exact h i (by omega)
theorem m_enough (hm : MB S I J) (en : sNR S = n) (hn : n ≤ 4) (hf : fOK f n) (nb : NB f n I) (hA : memA n A (hI4 I)) (hA2 : A ≤ 1000) (z : ∀ r : Nat, n ≤ r → r < 4 → hI4 I r = 0) : PB ((d + 2), 284, 0, [some (.ref 71), none, none, none], [], (xSH L dr tl, I, J)) (hFeas f (hI4 I)) (xSH L dr tl, I, J) := by
  have p16 : (2 : Nat) ^ n ≤ 16 := by
    have : n = 0 ∨ n = 1 ∨ n = 2 ∨ n = 3 ∨ n = 4 := by omega
    rcases this with rfl | rfl | rfl | rfl | rfl <;> decide
  have ht : hTot (hI4 I) = hI4 I 0 + hI4 I 1 + hI4 I 2 + hI4 I 3 := rfl
  obtain ⟨m0, m1, m2, m3, m4, _⟩ := hA
  have h0 : ∀ r : Nat, r < 4 → 0 ≤ hI4 I r ∧ hI4 I r ≤ 1000 := by
    intro r hr
    have : r = 0 ∨ r = 1 ∨ r = 2 ∨ r = 3 := by omega
    rcases this with rfl | rfl | rfl | rfl <;> omega
  have pe : (∀ i : Nat, i < 16 → ¬ hsJ (hI4 I) i n < (I 119 i).toInt) = hFeas f (hI4 I) := propext (by
    constructor
    · intro y
      refine ⟨fun r hr => (h0 r hr).1, fun g hg => ?_⟩
      by_cases c : g < 2 ^ n
      · have w := y (2 ^ n - 1 - g) (by omega)
        rw [nb _ (by omega), if_pos (by omega), show 2 ^ n - 1 - (2 ^ n - 1 - g) = g by omega, hs_sum hn (by omega) (by omega) z, show 2 ^ n - 1 - (2 ^ n - 1 - g) = g by omega] at w
        omega
      · rw [hf.2.1 g (by omega) hg]
        unfold hSum
        split <;> split <;> split <;> split <;> omega
    · intro y i hi w
      by_cases c : i < 2 ^ n
      · rw [nb i hi, if_pos c, hs_sum hn c hi z] at w
        have := y.2 (2 ^ n - 1 - i) (by omega)
        omega
      · rw [nb i hi, if_neg c] at w
        have := hs_b (j := i) h0 n hn
        omega)
  rw [← pe]
  exact w284_0 (enough_out hm en hn h0 16 0 rfl (fun i hi => by omega))
theorem pay_loop (hm : MB S I J) (en : sNR S = n) (hn : n ≤ 4) (hA : memA n A (hI4 I)) (hA2 : A ≤ 1000) (hp : ∀ r : Nat, r < n → f (16 + r) = S 8 r) : ∀ (m k : Nat) (s i : Int32), k + m = n → i.toInt = k → s.toInt = sumI (fun r => hI4 I r * f (16 + r)) k → PI ((d + 2), 285, 4, [some (.ref 71), some (.int s), some (.int i)], [], (xSH L dr tl, I, J)) (sumI (fun r => hI4 I r * f (16 + r)) n) (xSH L dr tl, I, J) := by
  have ht : hTot (hI4 I) = hI4 I 0 + hI4 I 1 + hI4 I 2 + hI4 I 3 := rfl
  obtain ⟨m0, m1, m2, m3, m4, _⟩ := hA
  have h0 : ∀ r : Nat, r < 4 → 0 ≤ hI4 I r ∧ hI4 I r ≤ 1000 := by
    intro r hr
    have : r = 0 ∨ r = 1 ∨ r = 2 ∨ r = 3 := by omega
    rcases this with rfl | rfl | rfl | rfl <;> omega
  intro m
  induction m with
  | zero =>
    intro k s i hk hi hs
    have kn : k = n := by omega
    subst kn
    exact w285_4 ((m_people hm.2.1).u fun r1 g1 => brz lt_ti (fun z => by omega) (fun _ => ⟨s, rfl, hs, rfl⟩))
  | succ m ih =>
    intro k s i hk hi hs
    have i1 : (i + 1).toInt = ((k + 1 : Nat) : Int) := by rw [add1 (by omega) (by omega), hi]; rfl
    have xi : xIx i = k := by rw [xIx_ti, hi]; exact Int.toNat_natCast _
    have e3 : (12 + 3 * i + 2).toInt = ((12 + 3 * k + 2 : Nat) : Int) := by
      have a1 : (3 * i).toInt = 3 * k := by rw [mul3 (by omega) (by omega), hi]
      have a2 : (12 + 3 * i).toInt = 12 + 3 * k := by rw [addn (by decide) (by decide) (by omega) (by omega), a1]; rfl
      rw [addn (by omega) (by omega) (by decide) (by decide), a2]; show (12 : Int) + 3 * k + 2 = _; omega
    have x3 : xIx (12 + 3 * i + 2) = 12 + 3 * k + 2 := by rw [xIx_ti, e3]; exact Int.toNat_natCast _
    have pv := (hm.2.1.2.2.2.1 k (by omega)).2.2
    have pb := hm.1.2.2.2.1.2.2 k (by omega)
    have hk0 := h0 k (by omega)
    have sb := sumI_b (f := fun r => hI4 I r * f (16 + r)) (B := 99000) k (fun r hr => by
      have b1 := h0 r (by omega)
      have b2 := hm.1.2.2.2.1.2.2 r (by omega)
      rw [hp r (by omega)]
      exact ⟨Int.mul_nonneg b1.1 (by omega), by have := Int.mul_le_mul b1.2 (show S 8 r ≤ 99 by omega) (by omega) (by decide); omega⟩)
    have hk0' : hI4 I k = (I 120 k).toInt := rfl
    have q1 : (I 120 k * I 99 (12 + 3 * k + 2)).toInt = hI4 I k * f (16 + k) := by
      have k1 : 0 ≤ (I 120 k).toInt * S 8 k := Int.mul_nonneg (by omega) (by omega)
      have k2 : (I 120 k).toInt * S 8 k ≤ 1000 * 99 := Int.mul_le_mul (by omega) (by omega) (by omega) (by decide)
      rw [mul_ti (by rw [pv]; omega) (by rw [pv]; omega), pv, hp k (by omega)]; rfl
    have q2 : 0 ≤ hI4 I k * f (16 + k) ∧ hI4 I k * f (16 + k) ≤ 99000 := by
      rw [hp k (by omega)]
      exact ⟨Int.mul_nonneg hk0.1 (by omega), by have := Int.mul_le_mul hk0.2 (show S 8 k ≤ 99 by omega) (by omega) (by decide); omega⟩
    refine w285_4 ((m_people hm.2.1).u fun r1 g1 => brz lt_ti (fun _ => ⟨by rw [xin_iff, hi]; omega, by rw [xin_iff, e3]; omega, ih (k + 1) _ _ (by omega) i1 ?_⟩) (fun z => by omega))
    rw [xi, x3, addn (by omega) (by omega) (by omega) (by omega), hs, q1]; rfl
theorem m_payNow (hm : MB S I J) (en : sNR S = n) (hn : n ≤ 4) (hA : memA n A (hI4 I)) (hA2 : A ≤ 1000) (hp : ∀ r : Nat, r < n → f (16 + r) = S 8 r) (z : ∀ r : Nat, n ≤ r → r < 4 → hI4 I r = 0) : PI ((d + 2), 285, 0, [some (.ref 71), none, none], [], (xSH L dr tl, I, J)) (hPay f (hI4 I)) (xSH L dr tl, I, J) := by
  have e : hPay f (hI4 I) = sumI (fun r => hI4 I r * f (16 + r)) n := by
    have nn : n = 0 ∨ n = 1 ∨ n = 2 ∨ n = 3 ∨ n = 4 := by omega
    unfold hPay
    rcases nn with rfl | rfl | rfl | rfl | rfl
    · rw [z 0 (by decide) (by decide), z 1 (by decide) (by decide), z 2 (by decide) (by decide), z 3 (by decide) (by decide)]; simp [sumI]
    · rw [z 1 (by decide) (by decide), z 2 (by decide) (by decide), z 3 (by decide) (by decide)]; simp [sumI]
    · rw [z 2 (by decide) (by decide), z 3 (by decide) (by decide)]; simp [sumI]
    · rw [z 3 (by decide) (by decide)]; simp [sumI]
    · simp [sumI]
  rw [e]
  exact w285_0 (pay_loop hm en hn hA hA2 hp n 0 0 0 (by omega) rfl rfl)
end HIREM
