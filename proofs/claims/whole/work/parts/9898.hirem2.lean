/-! ===== hire: the reference parts so many readers in all ways ===== -/
theorem lex3 {P : Nat → Nat → Nat → Prop} (h : ∀ x y z : Nat, (∀ x' y' z' : Nat, x' < x ∨ (x' = x ∧ (y' < y ∨ (y' = y ∧ z' < z))) → P x' y' z') → P x y z) : ∀ x y z : Nat, P x y z := by
  intro x
  induction x using Nat.strongRecOn with
  | _ x ix =>
    intro y
    induction y using Nat.strongRecOn with
    | _ y iy =>
      intro z
      induction z using Nat.strongRecOn with
      | _ z iz =>
        refine h x y z (fun x' y' z' w => ?_)
        rcases w with w | ⟨rfl, w | ⟨rfl, w⟩⟩
        · exact ix x' w y' z'
        · exact iy y' w z'
        · exact iz z' w
/-- the way at hand: the last reader takes what is left -/
def curC (I : Nat → Nat → Int32) (n : Nat) (A : Int) : Nat → Int := fun i => if i = n - 1 then A - sumI (hI4 I) (n - 1) else hI4 I i
def leC (c c' : Nat → Int) : Prop := ltC c c' ∨ (c 0 = c' 0 ∧ c 1 = c' 1 ∧ c 2 = c' 2)
def pgt (k : Nat) (c c' : Nat → Int) : Prop := (1 ≤ k ∧ c 0 < c' 0) ∨ (2 ≤ k ∧ c 0 = c' 0 ∧ c 1 < c' 1) ∨ (3 ≤ k ∧ c 0 = c' 0 ∧ c 1 = c' 1 ∧ c 2 < c' 2)
/-- the row of the hired is sound -/
def rowOK (I : Nat → Nat → Int32) (n : Nat) (A : Int) : Prop := (∀ i : Nat, i < n - 1 → 0 ≤ hI4 I i) ∧ sumI (hI4 I) (n - 1) ≤ A ∧ ∀ i : Nat, n ≤ i → i < 4 → hI4 I i = 0
section HIREM2
variable {S : aS} {L d dr tl : Nat} {I I0 I1 I2 : Nat → Nat → Int32} {J : Nat → Nat → Int64} {a1 a2 a3 a4 a5 x : Int32} {r q p m n : Nat} {l : Int} {f k c c' h : Nat → Int} {A : Int} {Q : Option Value → xMem → Prop} {D D' : (Nat → Int) → Prop}
theorem cur_v (h1 : 1 ≤ n) (hn : n ≤ 4) : (n = 1 → curC I n A 0 = A ∧ curC I n A 1 = hI4 I 1 ∧ curC I n A 2 = hI4 I 2 ∧ curC I n A 3 = hI4 I 3 ∧ sumI (hI4 I) (n - 1) = 0) ∧ (n = 2 → curC I n A 0 = hI4 I 0 ∧ curC I n A 1 = A - hI4 I 0 ∧ curC I n A 2 = hI4 I 2 ∧ curC I n A 3 = hI4 I 3 ∧ sumI (hI4 I) (n - 1) = hI4 I 0) ∧ (n = 3 → curC I n A 0 = hI4 I 0 ∧ curC I n A 1 = hI4 I 1 ∧ curC I n A 2 = A - (hI4 I 0 + hI4 I 1) ∧ curC I n A 3 = hI4 I 3 ∧ sumI (hI4 I) (n - 1) = hI4 I 0 + hI4 I 1) ∧ (n = 4 → curC I n A 0 = hI4 I 0 ∧ curC I n A 1 = hI4 I 1 ∧ curC I n A 2 = hI4 I 2 ∧ curC I n A 3 = A - (hI4 I 0 + hI4 I 1 + hI4 I 2) ∧ sumI (hI4 I) (n - 1) = hI4 I 0 + hI4 I 1 + hI4 I 2) := by
  refine ⟨fun e => ?_, fun e => ?_, fun e => ?_, fun e => ?_⟩ <;> subst e <;> simp [curC, sumI]
theorem cur_mem (h1 : 1 ≤ n) (hn : n ≤ 4) (h : rowOK I n A) : memA n A (curC I n A) := by
  obtain ⟨v1, v2, v3, v4⟩ := cur_v (I := I) (A := A) h1 hn
  obtain ⟨r1, r2, r3⟩ := h
  have e : hTot (curC I n A) = curC I n A 0 + curC I n A 1 + curC I n A 2 + curC I n A 3 := rfl
  unfold memA
  rw [e]
  have nn : n = 1 ∨ n = 2 ∨ n = 3 ∨ n = 4 := by omega
  rcases nn with rfl | rfl | rfl | rfl
  · obtain ⟨w0, w1, w2, w3, w4⟩ := v1 rfl
    have z1 := r3 1 (by decide) (by decide)
    have z2 := r3 2 (by decide) (by decide)
    have z3 := r3 3 (by decide) (by decide)
    omega
  · obtain ⟨w0, w1, w2, w3, w4⟩ := v2 rfl
    have z0 := r1 0 (by decide)
    have z2 := r3 2 (by decide) (by decide)
    have z3 := r3 3 (by decide) (by decide)
    omega
  · obtain ⟨w0, w1, w2, w3, w4⟩ := v3 rfl
    have z0 := r1 0 (by decide)
    have z1 := r1 1 (by decide)
    have z3 := r3 3 (by decide) (by decide)
    omega
  · obtain ⟨w0, w1, w2, w3, w4⟩ := v4 rfl
    have z0 := r1 0 (by decide)
    have z1 := r1 1 (by decide)
    have z2 := r1 2 (by decide)
    omega
theorem partI_c (h : ∀ c' : Nat → Int, memA n A c' → (D c' ↔ D' c')) (g : partI f n A D I) : partI f n A D' I := by
  rcases g with ⟨g1, g2⟩ | ⟨g1, g2, g3, g4, g5, g6⟩
  · exact Or.inl ⟨g1, fun c' hc hf hd => g2 c' hc hf ((h c' hc).mpr hd)⟩
  · exact Or.inr ⟨g1, g2, g3, (h _ g2).mp g4, g5, fun c' hc hf hd => g6 c' hc hf ((h c' hc).mpr hd)⟩
theorem partI_m (h7 : I1 71 71 = I 71 71) (h121 : I1 121 = I 121) (g : partI f n A D I) : partI f n A D I1 := by
  have e : bI4 I1 = bI4 I := by unfold bI4; rw [h121]
  unfold partI at *
  rw [h7, e]; exact g
theorem mem_eq (hc : memA n A c) (hc' : memA n A c') (e0 : c 0 = c' 0) (e1 : c 1 = c' 1) (e2 : c 2 = c' 2) : c 3 = c' 3 := by
  have t1 : hTot c = c 0 + c 1 + c 2 + c 3 := rfl
  have t2 : hTot c' = c' 0 + c' 1 + c' 2 + c' 3 := rfl
  have := hc.2.2.2.2.1
  have := hc'.2.2.2.2.1
  omega
theorem feas_eq (e0 : c 0 = c' 0) (e1 : c 1 = c' 1) (e2 : c 2 = c' 2) (e3 : c 3 = c' 3) : (hFeas f c ↔ hFeas f c') ∧ hPay f c = hPay f c' := by
  rw [hF16, hF16, e0, e1, e2, e3]
  unfold hPay
  rw [e0, e1, e2, e3]
  exact ⟨Iff.rfl, rfl⟩
/-- the way at hand is looked at -/
theorem partI_no (hc : memA n A c) (g : partI f n A (fun c' => ltC c' c) I) (hno : ¬ hFeas f c ∨ ((I 71 71).toInt ≠ -1 ∧ (I 71 71).toInt ≤ hPay f c)) : partI f n A (fun c' => leC c' c) I := by
  rcases g with ⟨g1, g2⟩ | ⟨g1, g2, g3, g4, g5, g6⟩
  · refine Or.inl ⟨g1, fun c' hc' hf hd => ?_⟩
    rcases hd with hd | ⟨e0, e1, e2⟩
    · exact g2 c' hc' hf hd
    · have e3 := mem_eq hc' hc e0 e1 e2
      rcases hno with z | z
      · exact z ((feas_eq e0 e1 e2 e3).1.mp hf)
      · exact z.1 g1
  · refine Or.inr ⟨g1, g2, g3, Or.inl g4, g5, fun c' hc' hf hd => ?_⟩
    rcases hd with hd | ⟨e0, e1, e2⟩
    · exact g6 c' hc' hf hd
    · have e3 := mem_eq hc' hc e0 e1 e2
      have fe := feas_eq (f := f) e0 e1 e2 e3
      rcases hno with z | z
      · exact absurd (fe.1.mp hf) z
      · rw [fe.2]
        by_cases w : hPay f (bI4 I) < hPay f c
        · exact Or.inl w
        · refine Or.inr ⟨by omega, ?_⟩
          unfold ltC at g4
          unfold hLex
          omega
theorem partI_yes (hc : memA n A c) (hf : hFeas f c) (g : partI f n A (fun c' => ltC c' c) I) (hy : (I 71 71).toInt = -1 ∨ hPay f c < (I 71 71).toInt) (hp0 : 0 ≤ hPay f c) (hp : (I1 71 71).toInt = hPay f c) (hb : ∀ r : Nat, r < 4 → bI4 I1 r = c r) : partI f n A (fun c' => leC c' c) I1 := by
  have b0 := hb 0 (by decide)
  have b1 := hb 1 (by decide)
  have b2 := hb 2 (by decide)
  have b3 := hb 3 (by decide)
  have fe := feas_eq (f := f) b0 b1 b2 b3
  refine Or.inr ⟨by omega, ?_, fe.1.mpr hf, Or.inr ⟨b0, b1, b2⟩, by rw [fe.2]; exact hp, fun c' hc' hf' hd => ?_⟩
  · unfold memA at *
    have e : hTot (bI4 I1) = hTot c := by unfold hTot; rw [b0, b1, b2, b3]
    rw [e, b0, b1, b2, b3]; exact hc
  · rw [fe.2]
    rcases hd with hd | ⟨e0, e1, e2⟩
    · rcases g with ⟨g1, g2⟩ | ⟨g1, g2, g3, g4, g5, g6⟩
      · exact absurd hd (g2 c' hc' hf')
      · have o := g6 c' hc' hf' hd
        left
        rcases hy with z | z
        · omega
        · rcases o with o | o <;> omega
    · have e3 := mem_eq hc' hc e0 e1 e2
      have fe2 := feas_eq (f := f) e0 e1 e2 e3
      right
      refine ⟨fe2.2.symm, ?_⟩
      unfold hLex
      omega
theorem tri (c c' : Nat → Int) : leC c' c ∨ ltC c c' := by unfold leC ltC; omega
/-- the next way -/
theorem next_c (h1 : 1 ≤ n) (hn : n ≤ 4) {k : Nat} (hk : k + 1 ≤ n - 1) (hc : memA n A c) (hc2 : memA n A c) (inv : ∀ c' : Nat → Int, memA n A c' → ltC c c' → pgt (k + 1) c c') {t : Nat → Int} (ht : memA n A t) (t1 : ∀ i : Nat, i < k → t i = c i) (t2 : t k = c k + 1) (t3 : ∀ i : Nat, k < i → i < n - 1 → t i = 0) : ∀ c' : Nat → Int, memA n A c' → (leC c' c ↔ ltC c' t) := by
  intro c' hc'
  have T := ht
  have C' := hc'
  have cases3 : (n = 2 ∧ k = 0) ∨ (n = 3 ∧ k = 0) ∨ (n = 3 ∧ k = 1) ∨ (n = 4 ∧ k = 0) ∨ (n = 4 ∧ k = 1) ∨ (n = 4 ∧ k = 2) := by omega
  have st : hTot t = t 0 + t 1 + t 2 + t 3 := rfl
  have sc : hTot c' = c' 0 + c' 1 + c' 2 + c' 3 := rfl
  unfold memA at T C'
  constructor
  · intro z
    rcases cases3 with ⟨rfl, rfl⟩ | ⟨rfl, rfl⟩ | ⟨rfl, rfl⟩ | ⟨rfl, rfl⟩ | ⟨rfl, rfl⟩ | ⟨rfl, rfl⟩
    · unfold leC ltC at *; omega
    · unfold leC ltC at *; omega
    · have a0 := t1 0 (by decide); unfold leC ltC at *; omega
    · unfold leC ltC at *; omega
    · have a0 := t1 0 (by decide); unfold leC ltC at *; omega
    · have a0 := t1 0 (by decide)
      have a1 := t1 1 (by decide)
      unfold leC ltC at *; omega
  · intro z
    rcases tri c c' with y | y
    · exact y
    · exfalso
      have w := inv c' hc' y
      rcases cases3 with ⟨rfl, rfl⟩ | ⟨rfl, rfl⟩ | ⟨rfl, rfl⟩ | ⟨rfl, rfl⟩ | ⟨rfl, rfl⟩ | ⟨rfl, rfl⟩
      · unfold ltC pgt at *; omega
      · have a1 := t3 1 (by decide) (by decide); unfold ltC pgt at *; omega
      · have a0 := t1 0 (by decide); unfold ltC pgt at *; omega
      · have a1 := t3 1 (by decide) (by decide)
        have a2 := t3 2 (by decide) (by decide)
        unfold ltC pgt at *; omega
      · have a0 := t1 0 (by decide)
        have a2 := t3 2 (by decide) (by decide)
        unfold ltC pgt at *; omega
      · have a0 := t1 0 (by decide)
        have a1 := t1 1 (by decide)
        unfold ltC pgt at *; omega
end HIREM2
