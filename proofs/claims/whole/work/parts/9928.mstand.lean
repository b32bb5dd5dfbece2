/-! ===== book: the reference writes the leaves ===== -/
def frZ (I I1 : Nat → Nat → Int32) (J J1 : Nat → Nat → Int64) : Prop := (∀ a : Nat, a ≠ 71 → a < 109 ∨ 113 < a → I1 a = I a) ∧ (∀ j : Nat, j ≠ 53 → I1 71 j = I 71 j) ∧ ∀ a : Nat, a ≠ 108 → J1 a = J a
/-- what the writing reads -/
def SBm (S : aS) (I : Nat → Nat → Int32) : Prop := RuM S I ∧ (∀ i : Nat, (i : Int) < sNI S → (I 95 (6 + i)).toInt = S 2 i) ∧ (I 93 7).toInt = sNL S ∧ (∀ l : Nat, (l : Int) < sNL S → (I 96 (8 + l)).toInt = S 5 l ∧ (I 97 l).toInt = S 26 l ∧ ∀ k : Nat, (k : Int) < S 5 l → (I 98 (64 * l + k)).toInt = S 25 (64 * l + k)) ∧ (I 71 55).toInt = 0
/-- how far the leaves are written -/
def Wr (S : aS) (l p : Nat) (I : Nat → Nat → Int32) : Prop := ∀ l' p' : Int, isP S l' p' → (l' < l ∨ (l' = l ∧ p' < p)) → (I 110 (slot l' p')).toInt = S 15 (slot l' p') ∧ (I 111 (slot l' p')).toInt = S 16 (slot l' p') ∧ (S 16 (slot l' p') = 0 → (I 112 (slot l' p')).toInt = 0) ∧ (I 113 (slot l' p')).toInt = 0
section MSTAND
variable {L d dr tl : Nat} {I I0 I1 I2 : Nat → Nat → Int32} {J J0 J1 J2 : Nat → Nat → Int64} {a0 a1 a2 a3 a4 : Int32} {R : (Nat → Nat → Int32) → (Nat → Nat → Int64) → Prop} {Q : Option Value → xMem → Prop} {c : List Int} {S B : aS} {l p : Nat}
theorem frZ_refl : frZ I I J J := ⟨fun _ _ _ => rfl, fun _ _ => rfl, fun _ _ => rfl⟩
theorem frZ.tr (h : frZ I I1 J J1) (h' : frZ I1 I2 J1 J2) : frZ I I2 J J2 := ⟨fun a g1 g2 => (h'.1 a g1 g2).trans (h.1 a g1 g2), fun j g => (h'.2.1 j g).trans (h.2.1 j g), fun a g => (h'.2.2 a g).trans (h.2.2 a g)⟩
theorem SBm.fz (h : SBm S I) (f : frZ I I1 J J1) : SBm S I1 := by
  unfold SBm RuM at *
  rw [f.1 93 (by decide) (by decide), f.1 95 (by decide) (by decide), f.1 96 (by decide) (by decide), f.1 97 (by decide) (by decide), f.1 98 (by decide) (by decide), f.1 103 (by decide) (by decide), f.1 105 (by decide) (by decide), f.1 106 (by decide) (by decide), f.1 107 (by decide) (by decide), f.2.1 55 (by decide)]
  exact h
theorem m_eyes0 {R : Int32 → (Nat → Nat → Int32) → (Nat → Nat → Int64) → Prop} (hw : WF S) (hRW : RW S) (sb : SBm S I) (m1 : mill a1.toInt) (m2 : mill a2.toInt) (m3 : mill a3.toInt) (h4 : 0 ≤ a4.toInt ∧ a4.toInt < sNI S) (K : ∀ (x : Int32) (I1 : Nat → Nat → Int32) (J1 : Nat → Nat → Int64), x.toInt = eyesV S a1.toInt a2.toInt a3.toInt (S 2 a4.toInt.toNat) → (∀ a : Nat, a ≠ 71 → a ≠ 109 → I1 a = I a) → (∀ j : Nat, j ≠ 53 → I1 71 j = I 71 j) → (∀ a : Nat, a ≠ 108 → J1 a = J a) → R x I1 J1) : WP ((d + 4), 245, 0, [some (.ref 71), some (.int a1), some (.int a2), some (.int a3), some (.int a4), none, none, none, none], [], (xSH L dr tl, I, J)) (fun v M => ∃ (r1 : Int32) (I1 : Nat → Nat → Int32) (J1 : Nat → Nat → Int64), v = some (.int r1) ∧ M = (xSH L dr tl, I1, J1) ∧ R r1 I1 J1) := by
  have hN := hw.2.2.2.2.2.2.2.2.2.2.2.2
  have hI := hw.2.1
  have e6 : (6 + a4).toInt = 6 + a4.toInt := by rw [add_ti (by show _ ≤ 6 + a4.toInt; omega) (by show 6 + a4.toInt < _; omega)]; rfl
  have x6 : xIx (6 + a4) = 6 + a4.toInt.toNat := by rw [xIx_ti, e6]; omega
  have ek := sb.2.1 a4.toInt.toNat (by omega)
  have eb := hI.2.2 a4.toInt.toNat (by omega)
  refine w245_0 ⟨by rw [xin_iff, e6]; omega, ?_⟩
  rw [x6]
  refine m_eyes_loop (g := givS a2.toInt a1.toInt a3.toInt (S 2 a4.toInt.toNat)) hRW hN (giv_m m2 m1 m3 ⟨by omega, by omega⟩) (sNU S).toNat 0 8 _ _ (by omega) rfl sb.1 ?_ fun x I1 J1 e f => ⟨x, I1, J1, rfl, rfl, K x I1 J1 ?_ (fun a h1 h2 => ?_) (fun j hj => ?_) (fun a ha => f.2.2 a ha)⟩
  · intro k hk
    have : k = 0 ∨ k = 1 ∨ k = 2 ∨ k = 3 := by omega
    rcases this with rfl | rfl | rfl | rfl
    · rfl
    · rfl
    · rfl
    · exact ek
  · rw [e]; unfold eyesV; rw [ek]
  · rw [f.1 a h1, xwI_ne h2, xwI_ne h2, xwI_ne h2, xwI_ne h2]
  · rw [f.2.1 j hj, xwI_ne (by decide), xwI_ne (by decide), xwI_ne (by decide), xwI_ne (by decide)]
theorem m_pen0 (hw : WF S) (hRW : RW S) (nw : NW S) (h17 : ∀ k : Nat, S 17 k = 0) (sb : SBm S I) (wr : Wr S l p I) (e1 : a1.toInt = l) (e2 : a2.toInt = p) (hP : isP S (l : Int) (p : Int)) (e3 : a3.toInt = S 25 (64 * l + p)) (e4 : a4.toInt = S 26 l) (e5 : (I 113 (slot l p)).toInt = 0) (K : ∀ (I1 : Nat → Nat → Int32) (J1 : Nat → Nat → Int64), frZ I I1 J J1 → Wr S l (p + 1) I1 → R I1 J1) :
    WP ((d + 5), 254, 0, [some (.ref 71), some (.int a1), some (.int a2), some (.int a3), some (.int a4), none], [], (xSH L dr tl, I, J)) (fun v M => ∃ (I2 : Nat → Nat → Int32) (J2 : Nat → Nat → Int64), v = none ∧ M = (xSH L dr tl, I2, J2) ∧ R I2 J2) := by
  obtain ⟨n1, n2, n3, n4⟩ := nw l p hP
  rw [Int.toNat_natCast] at n3 n4
  rw [Int.toNat_natCast, Int.toNat_natCast] at n1
  have hB := isP_b hw hP
  have hP' : isP S a1.toInt a2.toInt := by rw [e1, e2]; exact hP
  obtain ⟨s1, s2, s3⟩ := slot_m hw hP'
  rw [e1, e2] at s2
  refine w254_0 ⟨s3, ?_⟩
  rw [s2]
  have sb1 : SBm S (xwI I 110 (slot l p) a3) := sb
  refine m_eyes0 hw hRW sb1 ⟨by omega, by omega⟩ ⟨by omega, by omega⟩ ⟨by omega, by omega⟩ (by rw [e4]; exact n3) fun x I1 J1 ex f1 f2 f3 => ?_
  rw [e1, e2, e3, e4, ← n1, ← n4] at ex
  have fin : ∀ z : Int32, (S 16 (slot l p) = 0 → z.toInt = 0) → R (xwI (xwI I1 111 (slot l p) x) 112 (slot l p) z) J1 := by
    intro z hz
    refine K _ J1 ⟨fun a g1 g2 => ?_, fun j hj => ?_, f3⟩ fun l' p' h' hlt => ?_
    · rw [xwI_ne (by omega), xwI_ne (by omega), f1 a g1 (by omega), xwI_ne (by omega)]
    · rw [xwI_ne (by decide), xwI_ne (by decide), f2 j hj, xwI_ne (by decide)]
    · rw [xwI_ne (show 110 ≠ 112 by decide), xwI_ne (show 110 ≠ 111 by decide), f1 110 (by decide) (by decide), xwI_ne (show 113 ≠ 112 by decide), xwI_ne (show 113 ≠ 111 by decide), f1 113 (by decide) (by decide), xwI_ne (show 113 ≠ 110 by decide), xwI_ne (show 111 ≠ 112 by decide)]
      by_cases e : slot l' p' = slot l p
      · rw [e, xg, xg, xg]
        exact ⟨e3.trans n1.symm, ex, hz, e5⟩
      · rw [xgn e, xgn e, xgn e, xwI_ne (show 112 ≠ 111 by decide), f1 111 (by decide) (by decide), f1 112 (by decide) (by decide), xwI_ne (show 111 ≠ 110 by decide), xwI_ne (show 112 ≠ 110 by decide)]
        refine wr l' p' h' ?_
        rcases hlt with h | ⟨h1, h2⟩
        · exact Or.inl h
        · refine Or.inr ⟨h1, ?_⟩
          have : p' ≠ p := fun z => e (by rw [h1, z])
          omega
  refine ⟨s3, s3, ?_⟩
  rw [xg]
  refine brz eq0 (fun y => ⟨s3, _, J1, rfl, rfl, fin _ (fun _ => ?_)⟩) (fun y => ⟨s3, _, J1, rfl, rfl, fin _ (fun z => absurd (ex.trans z) y)⟩)
  rw [xwI_ne (by decide), f2 55 (by decide)]
  exact sb.2.2.2.2
theorem m_places (hw : WF S) (hRW : RW S) (nw : NW S) (h17 : ∀ k : Nat, S 17 k = 0) (hl : (l : Int) < sNL S) (e1 : a1.toInt = l) (K : ∀ (I1 : Nat → Nat → Int32) (J1 : Nat → Nat → Int64), frZ I0 I1 J0 J1 → Wr S (l + 1) 0 I1 → SBm S I1 → WP ((d + 6), 223, 350, [some (.ref 71), some (.int (a1 + 1)), none], [], (xSH L dr tl, I1, J1)) Q) : ∀ (m p : Nat) (a2 : Int32) (I : Nat → Nat → Int32) (J : Nat → Nat → Int64), ((p + m : Nat) : Int) = S 5 l → a2.toInt = p → frZ I0 I J0 J → SBm S I → Wr S l p I → WP ((d + 6), 223, 360, [some (.ref 71), some (.int a1), some (.int a2)], [], (xSH L dr tl, I, J)) Q := by
  have hL := hw.2.2.1.2.1
  have h5 := hw.2.2.1.2.2 l hl
  have e8 : (8 : Int32).toInt = 8 := rfl
  have i8 : (8 + a1).toInt = ((8 + l : Nat) : Int) := by rw [add_ti (by rw [e8]; omega) (by rw [e8]; omega), e8, e1]; omega
  have x8 : xIx (8 + a1) = 8 + l := by rw [xIx_ti, i8]; omega
  have x1 : xIx a1 = l := by rw [xIx_ti, e1]; omega
  intro m
  induction m with
  | zero =>
    intro p a2 I J hp e2 fr sb wr
    refine w223_360 (w247_0 ⟨by rw [xin_iff, i8]; omega, ?_⟩)
    rw [x8]
    have r8 := (sb.2.2.2.1 l hl).1
    refine ⟨_, I, J, rfl, rfl, sk (fun z => by rw [lt_ti, e2, r8] at z; omega) (K I J fr (fun l' p' h' hlt => wr l' p' h' ?_) sb)⟩
    rcases hlt with h | ⟨h1, h2⟩
    · by_cases e : l' = l
      · refine Or.inr ⟨e, ?_⟩
        have h3 : p' < S 5 l'.toNat := h'.2.2
        rw [e, Int.toNat_natCast] at h3
        omega
      · left; omega
    · have h3 : 0 ≤ p' := h'.2.1
      omega
  | succ m ih =>
    intro p a2 I J hp e2 fr sb wr
    refine w223_360 (w247_0 ⟨by rw [xin_iff, i8]; omega, ?_⟩)
    rw [x8]
    have r8 := sb.2.2.2.1 l hl
    have hP : isP S (l : Int) (p : Int) := ⟨⟨by omega, hl⟩, by omega, by rw [Int.toNat_natCast]; omega⟩
    have hP' : isP S a1.toInt a2.toInt := by rw [e1, e2]; exact hP
    obtain ⟨s1, s2, s3⟩ := slot_m hw hP'
    rw [e1, e2] at s2
    have sn : slot (l : Int) (p : Int) = 64 * l + p := by unfold slot; omega
    refine ⟨_, I, J, rfl, rfl, hit (lt_ti.mpr (by rw [e2, r8.1]; omega)) ⟨s3, s3, by rw [xin_iff, e1]; omega, ?_⟩⟩
    rw [s2, x1]
    have sb1 : SBm S (xwI I 113 (slot l p) 0) := sb
    have wr1 : Wr S l p (xwI I 113 (slot l p) 0) := by
      intro l' p' h' hlt
      obtain ⟨w1, w2, w3, w4⟩ := wr l' p' h' hlt
      refine ⟨w1, w2, w3, ?_⟩
      by_cases e : slot l' p' = slot l p
      · rw [e, xg]; rfl
      · rw [xgn e]; exact w4
    refine m_pen0 (l := l) (p := p) hw hRW nw h17 sb1 wr1 e1 e2 hP ?_ r8.2.1 (by rw [xg]; rfl) fun I1 J1 f1 w1 => ?_
    · rw [xwI_ne (by decide), sn]
      exact r8.2.2 p (by omega)
    · have f0 : frZ I (xwI I 113 (slot l p) 0) J J := ⟨fun a g1 g2 => xwI_ne (by omega), fun j _ => rfl, fun _ _ => rfl⟩
      exact ih (p + 1) (a2 + 1) I1 J1 (by omega) (by rw [add1 (by omega) (by omega), e2]; rfl) ((fr.tr f0).tr f1) (sb1.fz f1) w1
theorem m_leavesW (hw : WF S) (hRW : RW S) (nw : NW S) (h17 : ∀ k : Nat, S 17 k = 0) (K : ∀ (I1 : Nat → Nat → Int32) (J1 : Nat → Nat → Int64), frZ I0 I1 J0 J1 → (∀ l' p' : Int, isP S l' p' → (I1 110 (slot l' p')).toInt = S 15 (slot l' p') ∧ (I1 111 (slot l' p')).toInt = S 16 (slot l' p') ∧ (S 16 (slot l' p') = 0 → (I1 112 (slot l' p')).toInt = 0) ∧ (I1 113 (slot l' p')).toInt = 0) → Q none (xSH L dr tl, I1, J1)) : ∀ (m l : Nat) (a1 : Int32) (I : Nat → Nat → Int32) (J : Nat → Nat → Int64), ((l + m : Nat) : Int) = sNL S → a1.toInt = l → frZ I0 I J0 J → SBm S I → Wr S l 0 I → WP ((d + 6), 223, 350, [some (.ref 71), some (.int a1), none], [], (xSH L dr tl, I, J)) Q := by
  have hL := hw.2.2.1.2.1
  intro m
  induction m with
  | zero =>
    intro l a1 I J hl e1 fr sb wr
    refine w223_350 (w246_0 ⟨_, I, J, rfl, rfl, sk (fun z => by rw [lt_ti, e1, sb.2.2.1] at z; omega) (K I J fr fun l' p' h' => wr l' p' h' (Or.inl ?_))⟩)
    have h1 : l' < sNL S := h'.1.2
    omega
  | succ m ih =>
    intro l a1 I J hl e1 fr sb wr
    have h5 := hw.2.2.1.2.2 l (by omega)
    refine w223_350 (w246_0 ⟨_, I, J, rfl, rfl, hit (lt_ti.mpr (by rw [e1, sb.2.2.1]; omega)) ?_⟩)
    exact m_places (l := l) hw hRW nw h17 (by omega) e1 (fun I1 J1 f1 w1 sb1 => ih (l + 1) (a1 + 1) I1 J1 (by omega) (by rw [add1 (by omega) (by omega), e1]; rfl) f1 sb1 w1) (S 5 l).toNat 0 0 I J (by omega) rfl fr sb wr
end MSTAND
