/-! ===== book: the reference's signs and words ===== -/
def MT (t : Tp) (I : Nat → Nat → Int32) : Prop := TB t ∧ (I 71 3).toInt = t.2 ∧ ∀ j : Nat, j < t.2 → (I 72 j).toInt = t.1 j
def E4 (s : Lx) (I : Nat → Nat → Int32) : Prop := ((s.2 = true → (I 71 4).toInt = s.1) ∧ (s.2 = false → (I 71 4).toInt < s.1)) ∧ (I 71 6).toInt = -1
/-- the reference stands at s, perhaps behind some blanks -/
def MR (t : Tp) (s : Lx) (I : Nat → Nat → Int32) : Prop := s.1 ≤ t.2 ∧ (∃ q0 : Nat, (I 71 2).toInt = q0 ∧ s.1 ≤ q0 ∧ rE t 1 q0 = qq t s) ∧ E4 s I ∧ (I 71 5).toInt = 0
/-- it stands behind all of them -/
def MQx (t : Tp) (s : Lx) (I : Nat → Nat → Int32) : Prop := s.1 ≤ t.2 ∧ (I 71 2).toInt = qq t s ∧ E4 s I ∧ (I 71 5).toInt = 0
def MZ (e : Int × Int) (I : Nat → Nat → Int32) : Prop := e.1 ≠ 0 ∧ (I 71 5).toInt = e.1 ∧ (I 71 6).toInt = e.2
def MX (t : Tp) (x : RX Lx) (I : Nat → Nat → Int32) : Prop := match x with
  | .ok s => MR t s I
  | .error e => MZ e I
def frX (I I1 : Nat → Nat → Int32) : Prop := (∀ a : Nat, a ≠ 71 → I1 a = I a) ∧ ∀ j : Nat, j ≠ 2 → j ≠ 4 → j ≠ 5 → j ≠ 6 → j ≠ 9 → I1 71 j = I 71 j
def WA (I : Nat → Nat → Int32) : Prop := ∀ k : Nat, k < 19 → ∀ j : Nat, j < (OW.getD k []).length → (I (73 + k) j).toInt = (OW.getD k []).getD j 0
theorem wCell : ∀ k : Nat, k < 19 → (73 + k = 73 ∨ 73 + k = 74 ∨ 73 + k = 75 ∨ 73 + k = 76 ∨ 73 + k = 77 ∨ 73 + k = 78 ∨ 73 + k = 79 ∨ 73 + k = 80 ∨ 73 + k = 81 ∨ 73 + k = 82 ∨ 73 + k = 83 ∨ 73 + k = 84 ∨ 73 + k = 85 ∨ 73 + k = 86 ∨ 73 + k = 87 ∨ 73 + k = 88 ∨ 73 + k = 89 ∨ 73 + k = 90 ∨ 73 + k = 91) := by decide
theorem wLen : ∀ k : Nat, k < 19 → clen (73 + k) = (OW.getD k []).length ∧ 1 ≤ (OW.getD k []).length ∧ (OW.getD k []).length ≤ 6 := by decide
theorem oNd : ∀ i : Nat, i < 19 → ∀ j : Nat, j < 19 → OW.getD i [] = OW.getD j [] → i = j := by decide
section MLEX0
variable {t : Tp} {I I0 I1 I2 : Nat → Nat → Int32} {s : Lx} {q r : Nat} {w w' : List Int}
theorem WA_of (h : wordsAt I) : WA I := by
  intro k hk
  have : k = 0 ∨ k = 1 ∨ k = 2 ∨ k = 3 ∨ k = 4 ∨ k = 5 ∨ k = 6 ∨ k = 7 ∨ k = 8 ∨ k = 9 ∨ k = 10 ∨ k = 11 ∨ k = 12 ∨ k = 13 ∨ k = 14 ∨ k = 15 ∨ k = 16 ∨ k = 17 ∨ k = 18 := by omega
  rcases this with rfl | rfl | rfl | rfl | rfl | rfl | rfl | rfl | rfl | rfl | rfl | rfl | rfl | rfl | rfl | rfl | rfl | rfl | rfl
  · intro j hj
    rw [h 73 [105, 110, 107] (by decide) j hj]
    revert j
    decide
  · intro j hj
    rw [h 74 [101, 121, 101, 115] (by decide) j hj]
    revert j
    decide
  · intro j hj
    rw [h 75 [108, 101, 97, 102] (by decide) j hj]
    revert j
    decide
  · intro j hj
    rw [h 76 [114, 101, 97, 100, 101, 114] (by decide) j hj]
    revert j
    decide
  · intro j hj
    rw [h 77 [112, 97, 99, 101] (by decide) j hj]
    revert j
    decide
  · intro j hj
    rw [h 78 [115, 107, 105, 112, 115] (by decide) j hj]
    revert j
    decide
  · intro j hj
    rw [h 79 [112, 97, 121] (by decide) j hj]
    revert j
    decide
  · intro j hj
    rw [h 80 [119, 104, 101, 110] (by decide) j hj]
    revert j
    decide
  · intro j hj
    rw [h 81 [119, 111, 114, 100] (by decide) j hj]
    revert j
    decide
  · intro j hj
    rw [h 82 [103, 117, 97, 114, 100] (by decide) j hj]
    revert j
    decide
  · intro j hj
    rw [h 83 [111, 114] (by decide) j hj]
    revert j
    decide
  · intro j hj
    rw [h 84 [97, 110, 100] (by decide) j hj]
    revert j
    decide
  · intro j hj
    rw [h 85 [110, 111, 116] (by decide) j hj]
    revert j
    decide
  · intro j hj
    rw [h 86 [97, 108, 108] (by decide) j hj]
    revert j
    decide
  · intro j hj
    rw [h 87 [112, 108, 97, 99, 101] (by decide) j hj]
    revert j
    decide
  · intro j hj
    rw [h 88 [108, 101, 116, 116, 101, 114] (by decide) j hj]
    revert j
    decide
  · intro j hj
    rw [h 89 [110, 101, 101, 100, 115] (by decide) j hj]
    revert j
    decide
  · intro j hj
    rw [h 90 [109, 105, 110] (by decide) j hj]
    revert j
    decide
  · intro j hj
    rw [h 91 [109, 97, 120] (by decide) j hj]
    revert j
    decide
theorem mW_inj (h : mW t q r w) (h' : mW t q r w') : w = w' := by
  have l : w.length = w'.length := by have := h.1; have := h'.1; omega
  refine List.ext_getElem l (fun i h1 h2 => ?_)
  have e1 := h.2 i (Nat.zero_le _) h1
  have e2 := h'.2 i (Nat.zero_le _) h2
  have e : w.getD i 0 = w'.getD i 0 := e1.symm.trans e2
  rw [List.getD_eq_getElem?_getD, List.getD_eq_getElem?_getD, List.getElem?_eq_getElem h1, List.getElem?_eq_getElem h2] at e
  exact e
theorem oI_m : ∀ (ws : List (List Int)) (j0 : Int), oI t q r ws j0 = -1 ∨ ∃ i : Nat, i < ws.length ∧ oI t q r ws j0 = j0 + i ∧ mW t q r (ws.getD i []) := by
  intro ws
  induction ws with
  | nil => intro j0; exact Or.inl rfl
  | cons w ws ih =>
    intro j0
    have e : oI t q r (w :: ws) j0 = @ite Int (mW t q r w) (Classical.propDecidable _) j0 (oI t q r ws (j0 + 1)) := rfl
    rw [e]
    by_cases y : mW t q r w
    · rw [if_pos y]
      exact Or.inr ⟨0, by simp, by omega, y⟩
    · rw [if_neg y]
      rcases ih (j0 + 1) with h | ⟨i, h1, h2, h3⟩
      · exact Or.inl h
      · exact Or.inr ⟨i + 1, by simp; omega, by rw [h2]; omega, h3⟩
theorem oI_f : ∀ (ws : List (List Int)) (j0 : Int) (i : Nat), i < ws.length → mW t q r (ws.getD i []) → ∃ i' : Nat, i' < ws.length ∧ oI t q r ws j0 = j0 + i' ∧ mW t q r (ws.getD i' []) := by
  intro ws
  induction ws with
  | nil => intro j0 i hi; exact absurd hi (Nat.not_lt_zero _)
  | cons w ws ih =>
    intro j0 i hi hm
    have e : oI t q r (w :: ws) j0 = @ite Int (mW t q r w) (Classical.propDecidable _) j0 (oI t q r ws (j0 + 1)) := rfl
    rw [e]
    by_cases y : mW t q r w
    · rw [if_pos y]
      exact ⟨0, by simp, by omega, y⟩
    · rw [if_neg y]
      cases i with
      | zero => exact absurd hm y
      | succ i =>
        obtain ⟨i', h1, h2, h3⟩ := ih (j0 + 1) i (by simp at hi; omega) hm
        exact ⟨i' + 1, by simp; omega, by rw [h2]; omega, h3⟩
theorem ow_iff {k : Nat} (hk : k < 19) : ow t s = k ↔ (kd t s = 2 ∧ mW t (qq t s) (ps t s) (OW.getD k [])) := by
  have l : OW.length = 19 := rfl
  constructor
  · intro h
    have k2 : kd t s = 2 := ow_2 (by omega)
    refine ⟨k2, ?_⟩
    have e : oI t (qq t s) (ps t s) OW 0 = k := by
      have : ow t s = oI t (qq t s) (ps t s) OW 0 := if_pos k2
      rw [← this]; exact h
    rcases oI_m (t := t) (q := qq t s) (r := ps t s) OW 0 with z | ⟨i, h1, h2, h3⟩
    · omega
    · have : i = k := by omega
      rw [← this]; exact h3
  · rintro ⟨k2, hm⟩
    have e : ow t s = oI t (qq t s) (ps t s) OW 0 := if_pos k2
    obtain ⟨i', h1, h2, h3⟩ := oI_f (t := t) (q := qq t s) (r := ps t s) OW 0 k (by omega) hm
    have : i' = k := oNd i' (by omega) k hk (mW_inj h3 hm)
    rw [e, h2]; omega
theorem ow_b : ow t s = -1 ∨ ∃ k : Nat, k < 19 ∧ ow t s = k := by
  by_cases k2 : kd t s = 2
  · have e : ow t s = oI t (qq t s) (ps t s) OW 0 := if_pos k2
    rcases oI_m (t := t) (q := qq t s) (r := ps t s) OW 0 with z | ⟨i, h1, h2, h3⟩
    · exact Or.inl (e.trans z)
    · exact Or.inr ⟨i, h1, by rw [e, h2]; omega⟩
  · exact Or.inl (if_neg k2)
theorem frX_refl : frX I I := ⟨fun _ _ => rfl, fun _ _ _ _ _ _ => rfl⟩
theorem frX.tr (h : frX I I1) (h' : frX I1 I2) : frX I I2 := ⟨fun a g => (h'.1 a g).trans (h.1 a g), fun j g1 g2 g3 g4 g5 => (h'.2 j g1 g2 g3 g4 g5).trans (h.2 j g1 g2 g3 g4 g5)⟩
theorem frX_w {k : Nat} {v : Int32} (h : k = 2 ∨ k = 4 ∨ k = 5 ∨ k = 6 ∨ k = 9) : frX I (xwI I 71 k v) := ⟨fun a g => xwI_ne g, fun j g1 g2 g3 g4 g5 => xgn (by omega)⟩
theorem MT.f (h : MT t I) (f : frX I I1) : MT t I1 := by
  unfold MT at *
  rw [f.1 72 (by decide), f.2 3 (by decide) (by decide) (by decide) (by decide) (by decide)]; exact h
theorem WA.f (h : WA I) (f : frX I I1) : WA I1 := fun k hk j hj => by rw [f.1 (73 + k) (by omega)]; exact h k hk j hj
theorem qq_id (h : s.1 ≤ t.2) : rE t 1 (qq t s) = qq t s := rE_e qq_1
theorem MQx.toR (h : MQx t s I) : MR t s I := ⟨h.1, ⟨qq t s, h.2.1, qq_le, qq_id h.1⟩, h.2.2⟩
end MLEX0
section MLEX
variable {t : Tp} {L d dr tl : Nat} {I I0 I1 I2 : Nat → Nat → Int32} {J : Nat → Nat → Int64} {a0 a1 a2 a3 a4 : Int32} {s : Lx} {k l v lo hi : Int} {R : (Nat → Nat → Int32) → (Nat → Nat → Int64) → Prop} {Q : Option Value → xMem → Prop} {x : RX Lx}
theorem m_fail0 (h : (I 71 5).toInt = 0) (hk : a1.toInt = k) (hk0 : k ≠ 0) (hl : a2.toInt = l) (K : ∀ I1 : Nat → Nat → Int32, frX I I1 → MZ (k, l) I1 → R I1 J) : WP ((d + 1), 199, 0, [some (.ref 71), some (.int a1), some (.int a2)], [], (xSH L dr tl, I, J)) (fun v M => ∃ (I2 : Nat → Nat → Int32) (J2 : Nat → Nat → Int64), v = none ∧ M = (xSH L dr tl, I2, J2) ∧ R I2 J2) :=
  w199_0 (hit (eq0.mpr h) ⟨_, J, rfl, rfl, K _ ((frX_w (by decide)).tr (frX_w (by decide))) ⟨hk0, hk, hl⟩⟩)
theorem m_failZ {e : Int × Int} (h : MZ e I) (K : R I J) : WP ((d + 1), 199, 0, [some (.ref 71), some (.int a1), some (.int a2)], [], (xSH L dr tl, I, J)) (fun v M => ∃ (I2 : Nat → Nat → Int32) (J2 : Nat → Nat → Int64), v = none ∧ M = (xSH L dr tl, I2, J2) ∧ R I2 J2) :=
  w199_0 (sk (fun z => h.1 (by rw [← h.2.1]; exact eq0.mp z)) ⟨I, J, rfl, rfl, K⟩)
theorem MZ.n0 {e : Int × Int} (h : MZ e I) : ¬ (I 71 5) = 0 := fun z => h.1 (by rw [← h.2.1]; exact eq0.mp z)
theorem m_isLet : PB ((d + 1), 200, 0, [some (.int a0)], [], (xSH L dr tl, I, J)) (97 ≤ a0.toInt ∧ a0.toInt ≤ 122) (xSH L dr tl, I, J) := by
  have e97 : (97 : Int32).toInt = 97 := rfl
  have e122 : (122 : Int32).toInt = 122 := rfl
  exact w200_0 (brz lt_ti (fun y => ⟨0, rfl, Or.inr ⟨rfl, by omega⟩, rfl⟩) (fun y => brz lt_ti (fun z => ⟨0, rfl, Or.inr ⟨rfl, by omega⟩, rfl⟩) (fun z => ⟨1, rfl, Or.inl ⟨rfl, by omega⟩, rfl⟩)))
theorem m_isDig : PB ((d + 1), 201, 0, [some (.int a0)], [], (xSH L dr tl, I, J)) (48 ≤ a0.toInt ∧ a0.toInt ≤ 57) (xSH L dr tl, I, J) := by
  have e97 : (48 : Int32).toInt = 48 := rfl
  have e122 : (57 : Int32).toInt = 57 := rfl
  exact w201_0 (brz lt_ti (fun y => ⟨0, rfl, Or.inr ⟨rfl, by omega⟩, rfl⟩) (fun y => brz lt_ti (fun z => ⟨0, rfl, Or.inr ⟨rfl, by omega⟩, rfl⟩) (fun z => ⟨1, rfl, Or.inl ⟨rfl, by omega⟩, rfl⟩)))
theorem m_look {R : Int32 → (Nat → Nat → Int32) → (Nat → Nat → Int64) → Prop} (mt : MT t I) (h : MR t s I) (K : ∀ (r : Int32) (I1 : Nat → Nat → Int32), frX I I1 → MQx t s I1 → r.toInt = tb t (qq t s : Int) → R r I1 J) : WP ((d + 1), 202, 0, [some (.ref 71)], [], (xSH L dr tl, I, J)) (fun v M => ∃ (r : Int32) (I2 : Nat → Nat → Int32) (J2 : Nat → Nat → Int64), v = some (.int r) ∧ M = (xSH L dr tl, I2, J2) ∧ R r I2 J2) := by
  have n1600 := mt.1.1
  obtain ⟨h0, ⟨q0, h1, h2, h3⟩, h4, h5⟩ := h
  have hqn := qq_n (t := t) (s := s) h0
  have e10 : (10 : Int32).toInt = 10 := rfl
  have e32 : (32 : Int32).toInt = 32 := rfl
  have loop : ∀ (m i : Nat) (I1 : Nat → Nat → Int32), t.2 - i ≤ m → frX I I1 → (I1 71 4) = I 71 4 → (I1 71 5 = I 71 5 ∧ I1 71 6 = I 71 6) → (I1 71 2).toInt = i → rE t 1 i = qq t s → WP ((d + 1), 202, 0, [some (.ref 71)], [], (xSH L dr tl, I1, J)) (fun v M => ∃ (r : Int32) (I2 : Nat → Nat → Int32) (J2 : Nat → Nat → Int64), v = some (.int r) ∧ M = (xSH L dr tl, I2, J2) ∧ R r I2 J2) := by
    intro m
    induction m with
    | zero =>
      intro i I1 hm f1 g4 g5 e1 hr
      have mt1 := mt.f f1
      have lt : ¬ (I1 71 2) < (I1 71 3) := fun z => by rw [lt_ti, e1, mt1.2.1] at z; omega
      have k0 := kA_end (t := t) (q := i) (by omega)
      rw [rE_e (by omega)] at hr
      refine w202_0 (sk lt (sk lt ⟨-1, I1, J, rfl, rfl, K (-1) I1 f1 ⟨h0, by rw [e1, hr], by unfold E4 at *; rw [g4, g5.2]; exact h4, by rw [g5.1]; exact h5⟩ ?_⟩))
      unfold tb
      rw [if_neg (by omega)]; rfl
    | succ m ih =>
      intro i I1 hm f1 g4 g5 e1 hr
      have mt1 := mt.f f1
      have inc : (I1 71 2).toInt + 1 = ((i + 1 : Nat) : Int) := by omega
      have nx : kA t i = 1 → WP ((d + 1), 202, 0, [some (.ref 71)], [], (xSH L dr tl, xwI I1 71 2 (I1 71 2 + 1), J)) (fun v M => ∃ (r : Int32) (I2 : Nat → Nat → Int32) (J2 : Nat → Nat → Int64), v = some (.int r) ∧ M = (xSH L dr tl, I2, J2) ∧ R r I2 J2) := by
        intro k1
        have ltt := kA_lt (t := t) (q := i) (by omega)
        refine ih (i + 1) _ (by omega) (f1.tr (frX_w (by decide))) g4 g5 ?_ (by rw [← rE_s k1 (by decide)]; exact hr)
        rw [xg, add1 (by omega) (by omega), e1]; rfl
      by_cases ltn : i < t.2
      · have lt : (I1 71 2) < (I1 71 3) := by rw [lt_ti, e1, mt1.2.1]; omega
        have xi : xIx (I1 71 2) = i := by rw [xIx_ti, e1]; exact Int.toNat_natCast _
        have e72 : (I1 72 (xIx (I1 71 2))).toInt = t.1 i := by rw [xi]; exact mt1.2.2 i ltn
        have ix : xin (I1 71 2) 1600 = true := by rw [xin_iff, e1]; omega
        have kE : kA t i = if t.1 i = 10 ∨ t.1 i = 32 then 1 else if 97 ≤ t.1 i ∧ t.1 i ≤ 122 then 2 else if 48 ≤ t.1 i ∧ t.1 i ≤ 57 then 3 else 4 := if_neg (by omega)
        refine w202_0 (hit lt ⟨ix, brz eq_ti (fun y => nx (by rw [kE, if_pos (by omega)])) (fun y => ⟨ix, brz eq_ti (fun z => nx (by rw [kE, if_pos (by omega)])) (fun z => hit lt ⟨ix, _, I1, J, rfl, rfl, ?_⟩)⟩)⟩)
        have k1 : kA t i ≠ 1 := by
          rw [kE, if_neg (by omega)]
          split
          · decide
          · split <;> decide
        rw [rE_e k1] at hr
        refine K _ I1 f1 ⟨h0, by rw [e1, hr], by unfold E4 at *; rw [g4, g5.2]; exact h4, by rw [g5.1]; exact h5⟩ ?_
        rw [e72, ← hr, tb_in ltn]
      · have lt : ¬ (I1 71 2) < (I1 71 3) := fun z => by rw [lt_ti, e1, mt1.2.1] at z; omega
        have k0 := kA_end (t := t) (q := i) (by omega)
        rw [rE_e (by omega)] at hr
        refine w202_0 (sk lt (sk lt ⟨-1, I1, J, rfl, rfl, K (-1) I1 f1 ⟨h0, by rw [e1, hr], by unfold E4 at *; rw [g4, g5.2]; exact h4, by rw [g5.1]; exact h5⟩ ?_⟩))
        unfold tb
        rw [if_neg (by omega)]; rfl
  exact loop (t.2 - q0) q0 I (Nat.le_refl _) frX_refl rfl ⟨rfl, rfl⟩ h1 h3
theorem tb_k2 : (97 ≤ tb t (qq t s : Int) ∧ tb t (qq t s : Int) ≤ 122) ↔ kA t (qq t s) = 2 := by
  constructor
  · intro h
    by_cases lt : qq t s < t.2
    · rw [tb_in lt] at h; exact kA_2i lt h
    · unfold tb at h
      rw [if_neg (by omega)] at h; omega
  · intro h
    have lt := kA_lt (t := t) (q := qq t s) (by omega)
    rw [tb_in lt]; exact kA_2 h
theorem tb_k3 : (48 ≤ tb t (qq t s : Int) ∧ tb t (qq t s : Int) ≤ 57) ↔ kA t (qq t s) = 3 := by
  constructor
  · intro h
    by_cases lt : qq t s < t.2
    · rw [tb_in lt] at h; exact kA_3i lt h
    · unfold tb at h
      rw [if_neg (by omega)] at h; omega
  · intro h
    have lt := kA_lt (t := t) (q := qq t s) (by omega)
    rw [tb_in lt]; exact kA_3 h
/-- at and ended are one where a row stands too near -/
theorem MQx.near (h : MQx t s I) : (I 71 2) = (I 71 4) ↔ (s.2 = true ∧ qq t s = s.1) := by
  have hq := qq_le (t := t) (s := s)
  rw [eq_ti, h.2.1]
  cases hb : s.2 with
  | true =>
    rw [h.2.2.1.1.1 hb]
    exact ⟨fun z => ⟨rfl, by omega⟩, fun z => by omega⟩
  | false =>
    have := h.2.2.1.1.2 hb
    exact ⟨fun z => by omega, fun z => absurd z.1 (by decide)⟩
theorem MQx.adv (h : MQx t s I) (hk : kd t s ≠ 0) (f1 : I1 71 5 = I 71 5 ∧ I1 71 6 = I 71 6) (e2 : (I1 71 2).toInt = ps t s) (e4 : (kd t s = 2 ∨ kd t s = 3 → (I1 71 4).toInt = ps t s)) (e5 : ¬ (kd t s = 2 ∨ kd t s = 3) → I1 71 4 = I 71 4) : MR t (adv t s) I1 := by
  have hq := qq_le (t := t) (s := s)
  have hp := ps_lt (t := t) (s := s) (kd_lt hk)
  refine ⟨adv_n h.1, ⟨ps t s, e2, Nat.le_refl _, rfl⟩, ⟨⟨fun z => ?_, fun z => ?_⟩, by rw [f1.2]; exact h.2.2.1.2⟩, by rw [f1.1]; exact h.2.2.2⟩
  · exact e4 (of_decide_eq_true z)
  · have z' := of_decide_eq_false z
    rw [e5 z']
    show (I 71 4).toInt < (ps t s : Int)
    cases hb : s.2 with
    | true => have := h.2.2.1.1.1 hb; omega
    | false => have := h.2.2.1.1.2 hb; omega
end MLEX
