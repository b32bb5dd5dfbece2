/-! ===== book: signs, rows and words of a text ===== -/
abbrev Tp : Type := (Nat → Int) × Nat
abbrev Lx : Type := Nat × Bool
def kA (t : Tp) (q : Nat) : Int := if t.2 ≤ q then 0 else if t.1 q = 10 ∨ t.1 q = 32 then 1 else if 97 ≤ t.1 q ∧ t.1 q ≤ 122 then 2 else if 48 ≤ t.1 q ∧ t.1 q ≤ 57 then 3 else 4
def rG (t : Tp) (c : Int) : Nat → Nat → Nat
  | 0, q => q
  | m + 1, q => if kA t q = c then rG t c m (q + 1) else q
/-- where a row of one kind ends -/
def rE (t : Tp) (c : Int) (q : Nat) : Nat := rG t c (t.2 - q) q
section LEXM
variable {t : Tp} {c : Int} {q r m : Nat} {s : Lx}
theorem kA_lt (h : kA t q ≠ 0) : q < t.2 := by
  apply Classical.byContradiction
  intro z
  exact h (if_pos (by omega))
theorem kA_end (h : t.2 ≤ q) : kA t q = 0 := if_pos h
theorem kA_b : 0 ≤ kA t q ∧ kA t q ≤ 4 := by
  unfold kA
  split
  · omega
  · split
    · omega
    · split
      · omega
      · split <;> omega
theorem kA_0 (h : kA t q = 0) : t.2 ≤ q := by
  unfold kA at h
  split at h
  · assumption
  · split at h
    · omega
    · split at h
      · omega
      · split at h <;> omega
theorem rE_s (h : kA t q = c) (hc : c ≠ 0) : rE t c q = rE t c (q + 1) := by
  have := kA_lt (t := t) (q := q) (by rw [h]; exact hc)
  unfold rE
  rw [show t.2 - q = (t.2 - (q + 1)) + 1 by omega]
  show (if kA t q = c then rG t c (t.2 - (q + 1)) (q + 1) else q) = _
  rw [if_pos h]
theorem rE_e (h : kA t q ≠ c) : rE t c q = q := by
  unfold rE
  cases e : t.2 - q with
  | zero => rfl
  | succ m => show (if kA t q = c then _ else q) = q; rw [if_neg h]
theorem rG_p (hc : c ≠ 0) : ∀ m q : Nat, t.2 - q ≤ m → q ≤ rG t c m q ∧ (∀ j : Nat, q ≤ j → j < rG t c m q → kA t j = c) ∧ kA t (rG t c m q) ≠ c ∧ (q ≤ t.2 → rG t c m q ≤ t.2) := by
  intro m
  induction m with
  | zero =>
    intro q hq
    refine ⟨Nat.le_refl _, fun j h1 h2 => ?_, ?_, fun h => h⟩
    · have : j < q := h2
      omega
    · show kA t q ≠ c
      rw [kA_end (by omega)]; exact hc.symm
  | succ m ih =>
    intro q hq
    show q ≤ (if kA t q = c then rG t c m (q + 1) else q) ∧ (∀ j : Nat, q ≤ j → j < (if kA t q = c then rG t c m (q + 1) else q) → kA t j = c) ∧ kA t (if kA t q = c then rG t c m (q + 1) else q) ≠ c ∧ (q ≤ t.2 → (if kA t q = c then rG t c m (q + 1) else q) ≤ t.2)
    by_cases h : kA t q = c
    · rw [if_pos h]
      have lt := kA_lt (t := t) (q := q) (by rw [h]; exact hc)
      obtain ⟨i1, i2, i3, i4⟩ := ih (q + 1) (by omega)
      refine ⟨by omega, fun j h1 h2 => ?_, i3, fun _ => i4 (by omega)⟩
      by_cases e : j = q
      · rw [e]; exact h
      · exact i2 j (by omega) h2
    · rw [if_neg h]
      exact ⟨Nat.le_refl _, fun j h1 h2 => by omega, h, fun z => z⟩
theorem rE_le (hc : c ≠ 0) : q ≤ rE t c q := (rG_p hc _ q (Nat.le_refl _)).1
theorem rE_in (hc : c ≠ 0) : ∀ j : Nat, q ≤ j → j < rE t c q → kA t j = c := (rG_p hc _ q (Nat.le_refl _)).2.1
theorem rE_out (hc : c ≠ 0) : kA t (rE t c q) ≠ c := (rG_p hc _ q (Nat.le_refl _)).2.2.1
theorem rE_n (hc : c ≠ 0) (h : q ≤ t.2) : rE t c q ≤ t.2 := (rG_p hc _ q (Nat.le_refl _)).2.2.2 h
end LEXM
/-- what stands next: where it begins, what it is, where it ends -/
def qq (t : Tp) (s : Lx) : Nat := rE t 1 s.1
def kd (t : Tp) (s : Lx) : Int := if (kA t (qq t s) = 2 ∨ kA t (qq t s) = 3) ∧ s.2 = true ∧ qq t s = s.1 then 5 else kA t (qq t s)
def ps (t : Tp) (s : Lx) : Nat := if kA t (qq t s) = 2 ∨ kA t (qq t s) = 3 then rE t (kA t (qq t s)) (qq t s) else min (qq t s + 1) t.2
def mW (t : Tp) (q r : Nat) (w : List Int) : Prop := r = q + w.length ∧ allF (fun j => t.1 (q + j) = w.getD j 0) 0 w.length
noncomputable def oI (t : Tp) (q r : Nat) : List (List Int) → Int → Int
  | [], _ => -1
  | w :: ws, k => @ite Int (mW t q r w) (Classical.propDecidable _) k (oI t q r ws (k + 1))
def OW : List (List Int) := [[105, 110, 107], [101, 121, 101, 115], [108, 101, 97, 102], [114, 101, 97, 100, 101, 114], [112, 97, 99, 101], [115, 107, 105, 112, 115], [112, 97, 121], [119, 104, 101, 110], [119, 111, 114, 100], [103, 117, 97, 114, 100], [111, 114], [97, 110, 100], [110, 111, 116], [97, 108, 108], [112, 108, 97, 99, 101], [108, 101, 116, 116, 101, 114], [110, 101, 101, 100, 115], [109, 105, 110], [109, 97, 120]]
noncomputable def ow (t : Tp) (s : Lx) : Int := if kd t s = 2 then oI t (qq t s) (ps t s) OW 0 else -1
def adv (t : Tp) (s : Lx) : Lx := (ps t s, decide (kd t s = 2 ∨ kd t s = 3))
def isMk (t : Tp) (m : Int) (s : Lx) : Prop := kd t s = 4 ∧ t.1 (qq t s) = m
section LEXF
variable {t : Tp} {c m : Int} {q r : Nat} {s : Lx}
theorem qq_le : s.1 ≤ qq t s := rE_le (by decide)
theorem qq_n (h : s.1 ≤ t.2) : qq t s ≤ t.2 := rE_n (by decide) h
theorem qq_1 : kA t (qq t s) ≠ 1 := rE_out (by decide)
theorem ps_n (h : s.1 ≤ t.2) : ps t s ≤ t.2 := by
  unfold ps
  split
  · rename_i z
    exact rE_n (by omega) (qq_n h)
  · omega
theorem ps_lt (h : qq t s < t.2) : qq t s < ps t s := by
  unfold ps
  split
  · rename_i z
    have e : rE t (kA t (qq t s)) (qq t s) = rE t (kA t (qq t s)) (qq t s + 1) := rE_s rfl (by omega)
    rw [e]
    have := rE_le (t := t) (c := kA t (qq t s)) (q := qq t s + 1) (by omega)
    omega
  · omega
theorem ps_le (h : s.1 ≤ t.2) : qq t s ≤ ps t s := by
  by_cases z : qq t s < t.2
  · exact Nat.le_of_lt (ps_lt z)
  · have h1 := qq_n h
    have e : kA t (qq t s) = 0 := kA_end (by omega)
    unfold ps
    rw [if_neg (by omega)]
    omega
theorem kd_0 : kd t s = 0 ↔ t.2 ≤ qq t s := by
  unfold kd
  split
  · rename_i z
    constructor
    · intro y; omega
    · intro y
      have := kA_end (t := t) y
      omega
  · exact ⟨kA_0, kA_end⟩
theorem kd_lt (h : kd t s ≠ 0) : qq t s < t.2 := by
  apply Classical.byContradiction
  intro z
  exact h (kd_0.mpr (by omega))
theorem adv_n (h : s.1 ≤ t.2) : (adv t s).1 ≤ t.2 := ps_n h
theorem adv_gt (h : kd t s ≠ 0) : s.1 < (adv t s).1 := Nat.lt_of_le_of_lt qq_le (ps_lt (kd_lt h))
theorem adv_ge (h : s.1 ≤ t.2) : s.1 ≤ (adv t s).1 := Nat.le_trans qq_le (ps_le h)
theorem kd_4 (h : kd t s = 4) : kA t (qq t s) = 4 ∧ ps t s = qq t s + 1 := by
  have lt := kd_lt (t := t) (s := s) (by omega)
  unfold kd at h
  split at h
  · omega
  · refine ⟨h, ?_⟩
    unfold ps
    rw [if_neg (by omega)]
    omega
theorem kd_2 (h : kd t s = 2) : kA t (qq t s) = 2 ∧ ps t s = rE t 2 (qq t s) ∧ ¬ (s.2 = true ∧ qq t s = s.1) := by
  unfold kd at h
  split at h
  · omega
  · rename_i z
    refine ⟨h, ?_, fun y => z ⟨Or.inl h, y⟩⟩
    unfold ps
    rw [if_pos (Or.inl h), h]
theorem kd_3 (h : kd t s = 3) : kA t (qq t s) = 3 ∧ ps t s = rE t 3 (qq t s) ∧ ¬ (s.2 = true ∧ qq t s = s.1) := by
  unfold kd at h
  split at h
  · omega
  · rename_i z
    refine ⟨h, ?_, fun y => z ⟨Or.inr h, y⟩⟩
    unfold ps
    rw [if_pos (Or.inr h), h]
end LEXF
/-- the class's tape -/
def TP (t : Tp) (I : Nat → Nat → Int32) : Prop := (t.2 ≤ 1600 ∧ ∀ j : Nat, j < t.2 → 0 ≤ t.1 j ∧ t.1 j ≤ 255) ∧ (I 3 1).toInt = t.2 ∧ ∀ j : Nat, j < t.2 → (I 4 j).toInt = t.1 j
def fr74 (I I1 : Nat → Nat → Int32) : Prop := (∀ a : Nat, a ≠ 7 → I1 a = I a) ∧ ∀ j : Nat, j ≠ 2 → j ≠ 3 → j ≠ 4 → j ≠ 5 → I1 7 j = I 7 j
section LEXC
variable {t : Tp} {L d dr tl : Nat} {I I0 I1 : Nat → Nat → Int32} {J : Nat → Nat → Int64} {a0 a1 a2 a3 a4 x : Int32} {q r m p : Nat} {s : Lx} {b : Bool} {Q : Option Value → xMem → Prop}
theorem fr74_refl : fr74 I I := ⟨fun _ _ => rfl, fun _ _ _ _ _ => rfl⟩
theorem fr74.tr {I2 : Nat → Nat → Int32} (h : fr74 I I1) (h' : fr74 I1 I2) : fr74 I I2 := ⟨fun a g => (h'.1 a g).trans (h.1 a g), fun j g1 g2 g3 g4 => (h'.2 j g1 g2 g3 g4).trans (h.2 j g1 g2 g3 g4)⟩
theorem fr74_w {k : Nat} {v : Int32} (h : k = 2 ∨ k = 3 ∨ k = 4 ∨ k = 5) : fr74 I (xwI I 7 k v) := ⟨fun a g => xwI_ne g, fun j g1 g2 g3 g4 => xgn (by omega)⟩
theorem TP.f (h : TP t I) (e : fr74 I I1) : TP t I1 := by
  unfold TP at *
  rw [e.1 3 (by decide), e.1 4 (by decide)]; exact h
theorem s_isRow : PB ((d + 1), 75, 0, [some (.int a0)], [], (xSH L dr tl, I, J)) (a0.toInt = 2 ∨ a0.toInt = 3) (xSH L dr tl, I, J) := by
  refine w75_0 (brz eq_ti (fun y => ⟨1, rfl, Or.inl ⟨rfl, Or.inl y⟩, rfl⟩) (fun y => brz eq_ti (fun z => ⟨1, rfl, Or.inl ⟨rfl, Or.inr z⟩, rfl⟩) (fun z => ⟨0, rfl, Or.inr ⟨rfl, fun u => ?_⟩, rfl⟩)))
  rcases u with u | u
  · exact y u
  · exact z u
theorem s_kindAt (tp : TP t I) (e1 : a1.toInt = q) : PI ((d + 1), 76, 0, [some (.ref 7), some (.int a1), none], [], (xSH L dr tl, I, J)) (kA t q) (xSH L dr tl, I, J) := by
  have xi : xIx a1 = q := by rw [xIx_ti, e1]; exact Int.toNat_natCast _
  refine w76_0 (sk (fun z => by rw [lt0] at z; omega) (brz lt_ti (fun y => ⟨?_, ?_⟩) (fun y => ⟨0, rfl, ?_, rfl⟩)))
  · rw [tp.2.1] at y
    have := tp.1.1
    rw [xin_iff, e1]; omega
  · rw [tp.2.1] at y
    have lt : q < t.2 := by omega
    have e : (I 4 (xIx a1)).toInt = t.1 q := by rw [xi]; exact tp.2.2 q lt
    have f1 : (10 : Int32).toInt = 10 := rfl
    have f2 : (32 : Int32).toInt = 32 := rfl
    have f3 : (97 : Int32).toInt = 97 := rfl
    have f4 : (122 : Int32).toInt = 122 := rfl
    have f5 : (48 : Int32).toInt = 48 := rfl
    have f6 : (57 : Int32).toInt = 57 := rfl
    have kE : kA t q = if t.1 q = 10 ∨ t.1 q = 32 then 1 else if 97 ≤ t.1 q ∧ t.1 q ≤ 122 then 2 else if 48 ≤ t.1 q ∧ t.1 q ≤ 57 then 3 else 4 := if_neg (by omega)
    rw [kE]
    refine brz eq_ti (fun z1 => ⟨1, rfl, ?_, rfl⟩) (fun z1 => brz eq_ti (fun z2 => ⟨1, rfl, ?_, rfl⟩) (fun z2 => brz lt_ti (fun z3 => brz lt_ti (fun z4 => ⟨4, rfl, ?_, rfl⟩) (fun z4 => brz lt_ti (fun z5 => ⟨4, rfl, ?_, rfl⟩) (fun z5 => ⟨3, rfl, ?_, rfl⟩))) (fun z3 => brz lt_ti (fun z4 => brz lt_ti (fun z5 => ⟨4, rfl, ?_, rfl⟩) (fun z5 => brz lt_ti (fun z6 => ⟨4, rfl, ?_, rfl⟩) (fun z6 => ⟨3, rfl, ?_, rfl⟩))) (fun z4 => ⟨2, rfl, ?_, rfl⟩))))
    · rw [if_pos (by omega)]; rfl
    · rw [if_pos (by omega)]; rfl
    · rw [if_neg (by omega), if_neg (by omega), if_neg (by omega)]; rfl
    · rw [if_neg (by omega), if_neg (by omega), if_neg (by omega)]; rfl
    · rw [if_neg (by omega), if_neg (by omega), if_pos (by omega)]; rfl
    · rw [if_neg (by omega), if_neg (by omega), if_neg (by omega)]; rfl
    · rw [if_neg (by omega), if_neg (by omega), if_neg (by omega)]; rfl
    · rw [if_neg (by omega), if_neg (by omega), if_pos (by omega)]; rfl
    · rw [if_neg (by omega), if_pos (by omega)]; rfl
  · rw [tp.2.1] at y
    rw [kA_end (by omega)]; rfl
end LEXC
