/-! ===== book: the class's parser, its smallest deeds ===== -/
/-- the parser stands at s, no fault yet -/
def PS (t : Tp) (s : Lx) (I : Nat → Nat → Int32) : Prop := s.1 ≤ t.2 ∧ (I 7 2).toInt = qq t s ∧ (I 7 3).toInt = ps t s ∧ (I 7 4).toInt = kd t s ∧ (I 7 5).toInt = ow t s ∧ (I 7 6).toInt = 0 ∧ (I 7 7).toInt = -1
/-- a fault was found -/
def PF (t : Tp) (k p : Int) (I : Nat → Nat → Int32) : Prop := k ≠ 0 ∧ (I 7 3).toInt = t.2 ∧ (I 7 4).toInt = 0 ∧ (I 7 5).toInt = -1 ∧ (I 7 6).toInt = k ∧ (I 7 7).toInt = p
def fr7 (I I1 : Nat → Nat → Int32) : Prop := (∀ a : Nat, a ≠ 7 → I1 a = I a) ∧ ∀ j : Nat, j < 2 ∨ 7 < j → I1 7 j = I 7 j
section LEXD
variable {t : Tp} {L d dr tl : Nat} {I I0 I1 : Nat → Nat → Int32} {J : Nat → Nat → Int64} {a0 a1 a2 a3 a4 x : Int32} {q r m p : Nat} {s : Lx} {b : Bool} {Q : Option Value → xMem → Prop} {k l : Int} {R : (Nat → Nat → Int32) → (Nat → Nat → Int64) → Prop}
theorem fr7_refl : fr7 I I := ⟨fun _ _ => rfl, fun _ _ => rfl⟩
theorem fr7.tr {I2 : Nat → Nat → Int32} (h : fr7 I I1) (h' : fr7 I1 I2) : fr7 I I2 := ⟨fun a g => (h'.1 a g).trans (h.1 a g), fun j g => (h'.2 j g).trans (h.2 j g)⟩
theorem fr74.w (h : fr74 I I1) : fr7 I I1 := ⟨h.1, fun j g => h.2 j (by omega) (by omega) (by omega) (by omega)⟩
theorem fr7_w {k : Nat} {v : Int32} (h : 2 ≤ k ∧ k ≤ 7) : fr7 I (xwI I 7 k v) := ⟨fun a g => xwI_ne g, fun j g => xgn (by omega)⟩
theorem TP.g (h : TP t I) (e : fr7 I I1) : TP t I1 := by
  unfold TP at *
  rw [e.1 3 (by decide), e.1 4 (by decide)]; exact h
theorem gap_loop (e1 : a1.toInt = p) (G : Nat) (K : ∀ I1 : Nat → Nat → Int32, fr74 I I1 → (I1 7 2).toInt = G → (I1 7 4).toInt = kA t G → (I1 7 3).toInt = (min (G + 1) t.2 : Nat) → WP ((d + 5), 74, 89, [some (.ref 7), some (.int a1), some (.int a2)], [], (xSH L dr tl, I1, J)) Q) : ∀ (m i : Nat) (I1 : Nat → Nat → Int32), t.2 - i ≤ m → i ≤ t.2 → TP t I1 → fr74 I I1 → (I1 7 2).toInt = i → rE t 1 i = G → WP ((d + 5), 74, 18, [some (.ref 7), some (.int a1), some (.int a2)], [], (xSH L dr tl, I1, J)) Q := by
  have fin : ∀ (i : Nat) (I1 : Nat → Nat → Int32), i ≤ t.2 → TP t I1 → fr74 I I1 → (I1 7 2).toInt = i → kA t i ≠ 1 → rE t 1 i = G → WP ((d + 4), 76, 0, [some (.ref 7), some (.int (I1 7 2)), none], [], (xSH L dr tl, I1, J)) (fun v M => ∃ (r2 : Int32) (I2 : Nat → Nat → Int32) (J2 : Nat → Nat → Int64), v = some (.int r2) ∧ M = (xSH L dr tl, I2, J2) ∧ WP ((d + 4), 319, 0, [some (.int (((xwI I2 7 4 r2) 7 2) + 1)), some (.int ((xwI I2 7 4 r2) 3 1))], [], (xSH L dr tl, (xwI I2 7 4 r2), J2)) (fun v M => ∃ (r3 : Int32) (I3 : Nat → Nat → Int32) (J3 : Nat → Nat → Int64), v = some (.int r3) ∧ M = (xSH L dr tl, I3, J3) ∧ WP ((d + 5), 74, 89, [some (.ref 7), some (.int a1), some (.int a2)], [], (xSH L dr tl, (xwI I3 7 3 r3), J3)) Q)) := by
    intro i I1 hi tp fr1 h2 hk hG
    have n1600 := tp.1.1
    rw [rE_e hk] at hG
    subst hG
    refine (s_kindAt tp h2).u fun r2 g2 => s_min.u fun r3 g3 => K _ (fr1.tr ((fr74_w (by decide)).tr (fr74_w (by decide)))) h2 ?_ ?_
    · exact g2
    · rw [xg, g3]
      have u1 : ((xwI I1 7 4 r2) 7 2 + 1).toInt = (i : Int) + 1 := by
        show (I1 7 2 + 1).toInt = _
        rw [add1 (by omega) (by omega), h2]
      have u2 : ((xwI I1 7 4 r2) 3 1).toInt = t.2 := tp.2.1
      rw [u1, u2]; omega
  intro m
  induction m with
  | zero =>
    intro i I1 hm hi tp fr1 h2 hG
    have e0 := kA_end (t := t) (q := i) (by omega)
    exact w74_18 (sk (fun z => by rw [lt_ti, h2, tp.2.1] at z; omega) (fin i I1 hi tp fr1 h2 (by omega) hG))
  | succ m ih =>
    intro i I1 hm hi tp fr1 h2 hG
    have n1600 := tp.1.1
    by_cases lt : i < t.2
    · refine w74_18 (hit (lt_ti.mpr (by rw [h2, tp.2.1]; omega)) ((s_kindAt tp h2).u fun r4 g4 => brz eq_ti (fun y => ?_) (fun y => fin i I1 hi tp fr1 h2 (by rw [← g4]; exact y) hG)))
      have y1 : kA t i = 1 := g4.symm.trans y
      refine ih (i + 1) _ (by omega) (by omega) (tp.f (fr74_w (by decide))) (fr1.tr (fr74_w (by decide))) ?_ ((rE_s y1 (by decide)).symm.trans hG)
      rw [xg, add1 (by omega) (by omega), h2]; rfl
    · have e0 := kA_end (t := t) (q := i) (by omega)
      exact w74_18 (sk (fun z => by rw [lt_ti, h2, tp.2.1] at z; omega) (fin i I1 hi tp fr1 h2 (by omega) hG))
theorem row_loop (hp : p ≤ t.2) (e1 : a1.toInt = p) (e2 : (a2 = 1 ∧ b = true) ∨ (a2 = 0 ∧ b = false)) (K : ∀ I1 : Nat → Nat → Int32, fr74 I I1 → (I1 7 2).toInt = qq t (p, b) → (I1 7 3).toInt = ps t (p, b) → (I1 7 4).toInt = kd t (p, b) → (I1 7 5).toInt = ow t (p, b) → Q none (xSH L dr tl, I1, J)) : ∀ (m i : Nat) (I1 : Nat → Nat → Int32), t.2 - i ≤ m → i ≤ t.2 → TP t I1 → fr74 I I1 → (I1 7 2).toInt = qq t (p, b) → (I1 7 4).toInt = kA t (qq t (p, b)) → (I1 7 3).toInt = i → ((kA t (qq t (p, b)) = 2 ∨ kA t (qq t (p, b)) = 3) → rE t (kA t (qq t (p, b))) i = ps t (p, b)) → (¬ (kA t (qq t (p, b)) = 2 ∨ kA t (qq t (p, b)) = 3) → i = ps t (p, b)) → WP ((d + 5), 74, 89, [some (.ref 7), some (.int a1), some (.int a2)], [], (xSH L dr tl, I1, J)) Q := by
  have tail : ∀ I1 : Nat → Nat → Int32, TP t I1 → fr74 I I1 → (I1 7 2).toInt = qq t (p, b) → (I1 7 4).toInt = kA t (qq t (p, b)) → (I1 7 3).toInt = ps t (p, b) → _ := fun I1 tp fr1 h2 h4 h3 => adv_tail (d := d) (L := L) (dr := dr) (tl := tl) (J := J) (R := fun I2 J2 => Q none (xSH L dr tl, I2, J2)) tp hp e1 e2 h2 h3 h4 (fun I2 fr2 g2 g3 g4 g5 => K I2 (fr1.tr fr2) g2 g3 g4 g5)
  intro m
  induction m with
  | zero =>
    intro i I1 hm hi tp fr1 h2 h4 h3 hr hn
    have e0 := kA_end (t := t) (q := i) (by omega)
    refine w74_89 (sk (fun z => by rw [lt_ti, h3, tp.2.1] at z; omega) (tail I1 tp fr1 h2 h4 ?_))
    by_cases z : kA t (qq t (p, b)) = 2 ∨ kA t (qq t (p, b)) = 3
    · have := hr z
      rw [rE_e (by omega)] at this
      rw [h3, this]
    · rw [h3, hn z]
  | succ m ih =>
    intro i I1 hm hi tp fr1 h2 h4 h3 hr hn
    have n1600 := tp.1.1
    by_cases lt : i < t.2
    · refine w74_89 (hit (lt_ti.mpr (by rw [h3, tp.2.1]; omega)) (s_isRow.u (fun z => br1 ((s_kindAt tp h3).u fun r28 g28 => brz eq_ti (fun y => ?_) (fun y => ?_))) (fun z => br0 (tail I1 tp fr1 h2 h4 (by rw [h3, hn (by rw [← h4]; exact z)])))))
      · rw [h4] at z
        have y1 : kA t i = kA t (qq t (p, b)) := by omega
        refine ih (i + 1) _ (by omega) (by omega) (tp.f (fr74_w (by decide))) (fr1.tr (fr74_w (by decide))) h2 h4 ?_ (fun u => ?_) (fun u => absurd z u)
        · rw [xg, add1 (by omega) (by omega), h3]; rfl
        · rw [← hr u]; exact (rE_s y1 (by omega)).symm
      · rw [h4] at z
        refine tail I1 tp fr1 h2 h4 ?_
        have := hr z
        rw [rE_e (by omega)] at this
        rw [h3, this]
    · have e0 := kA_end (t := t) (q := i) (by omega)
      refine w74_89 (sk (fun z => by rw [lt_ti, h3, tp.2.1] at z; omega) (tail I1 tp fr1 h2 h4 ?_))
      by_cases z : kA t (qq t (p, b)) = 2 ∨ kA t (qq t (p, b)) = 3
      · have := hr z
        rw [rE_e (by omega)] at this
        rw [h3, this]
      · rw [h3, hn z]
theorem s_advance (tp : TP t I) (hp : p ≤ t.2) (h3 : (I 7 3).toInt = p) (hb : b = true ↔ ((I 7 4).toInt = 2 ∨ (I 7 4).toInt = 3)) (K : ∀ I1 : Nat → Nat → Int32, fr74 I I1 → (I1 7 2).toInt = qq t (p, b) → (I1 7 3).toInt = ps t (p, b) → (I1 7 4).toInt = kd t (p, b) → (I1 7 5).toInt = ow t (p, b) → R I1 J) : WP ((d + 5), 74, 0, [some (.ref 7), none, none], [], (xSH L dr tl, I, J)) (fun v M => ∃ (I2 : Nat → Nat → Int32) (J2 : Nat → Nat → Int64), v = none ∧ M = (xSH L dr tl, I2, J2) ∧ R I2 J2) := by
  have go : ∀ r1 : Int32, ((r1 = 1 ∧ b = true) ∨ (r1 = 0 ∧ b = false)) → WP ((d + 5), 74, 18, [some (.ref 7), some (.int (I 7 3)), some (.int r1)], [], (xSH L dr tl, (xwI I 7 2 (I 7 3)), J)) (fun v M => ∃ (I2 : Nat → Nat → Int32) (J2 : Nat → Nat → Int64), v = none ∧ M = (xSH L dr tl, I2, J2) ∧ R I2 J2) := by
    intro r1 h1
    refine gap_loop (I := I) (p := p) h3 (qq t (p, b)) (fun I1 fr1 g2 g4 g3 => ?_) (t.2 - p) p _ (Nat.le_refl _) hp (tp.f (fr74_w (by decide))) (fr74_w (by decide)) (by rw [xg]; exact h3) rfl
    refine row_loop (I := I) (p := p) (b := b) hp h3 h1 (fun I2 fr2 y2 y3 y4 y5 => ⟨I2, J, rfl, rfl, K I2 fr2 y2 y3 y4 y5⟩) t.2 (min (qq t (p, b) + 1) t.2) I1 (by omega) (by omega) (tp.f fr1) fr1 g2 g4 g3 (fun z => ?_) (fun z => ?_)
    · have lt := kA_lt (t := t) (q := qq t (p, b)) (by omega)
      have e : ps t (p, b) = rE t (kA t (qq t (p, b))) (qq t (p, b)) := if_pos z
      rw [e, rE_s (t := t) (q := qq t (p, b)) rfl (by omega), show min (qq t (p, b) + 1) t.2 = qq t (p, b) + 1 by omega]
    · have e : ps t (p, b) = min (qq t (p, b) + 1) t.2 := if_neg z
      exact e.symm
  refine w74_0 (s_isRow.u (fun z => go 1 (Or.inl ⟨rfl, hb.mpr z⟩)) (fun z => go 0 (Or.inr ⟨rfl, ?_⟩)))
  cases hbb : b with
  | false => rfl
  | true => exact absurd (hb.mp hbb) z
theorem s_adv (tp : TP t I) (h : PS t s I) (K : ∀ I1 : Nat → Nat → Int32, fr7 I I1 → PS t (adv t s) I1 → R I1 J) : WP ((d + 5), 74, 0, [some (.ref 7), none, none], [], (xSH L dr tl, I, J)) (fun v M => ∃ (I2 : Nat → Nat → Int32) (J2 : Nat → Nat → Int64), v = none ∧ M = (xSH L dr tl, I2, J2) ∧ R I2 J2) := by
  obtain ⟨h0, h2, h3, h4, h5, h6, h7⟩ := h
  refine s_advance (p := ps t s) (b := decide (kd t s = 2 ∨ kd t s = 3)) tp (ps_n h0) h3 (by rw [h4]; exact decide_eq_true_iff) (fun I1 fr1 g2 g3 g4 g5 => K I1 fr1.w ⟨ps_n h0, g2, g3, g4, g5, ?_, ?_⟩)
  · rw [fr1.2 6 (by decide) (by decide) (by decide) (by decide)]; exact h6
  · rw [fr1.2 7 (by decide) (by decide) (by decide) (by decide)]; exact h7
theorem s_advF (tp : TP t I) (h : PF t k l I) (K : ∀ I1 : Nat → Nat → Int32, fr7 I I1 → PF t k l I1 → R I1 J) : WP ((d + 5), 74, 0, [some (.ref 7), none, none], [], (xSH L dr tl, I, J)) (fun v M => ∃ (I2 : Nat → Nat → Int32) (J2 : Nat → Nat → Int64), v = none ∧ M = (xSH L dr tl, I2, J2) ∧ R I2 J2) := by
  obtain ⟨h0, h3, h4, h5, h6, h7⟩ := h
  have eq : qq t (t.2, false) = t.2 := rE_e (by rw [kA_end (Nat.le_refl _)]; decide)
  have ek : kA t (qq t (t.2, false)) = 0 := by rw [eq]; exact kA_end (Nat.le_refl _)
  have e3 : ps t (t.2, false) = t.2 := by unfold ps; rw [if_neg (by omega), eq]; omega
  have e4 : kd t (t.2, false) = 0 := kd_0.mpr (by rw [eq]; exact Nat.le_refl _)
  have e5 : ow t (t.2, false) = -1 := if_neg (by omega)
  refine s_advance (p := t.2) (b := false) tp (Nat.le_refl _) h3 (by rw [h4]; decide) (fun I1 fr1 g2 g3 g4 g5 => K I1 fr1.w ⟨h0, by rw [g3, e3], by rw [g4, e4], by rw [g5, e5], ?_, ?_⟩)
  · rw [fr1.2 6 (by decide) (by decide) (by decide) (by decide)]; exact h6
  · rw [fr1.2 7 (by decide) (by decide) (by decide) (by decide)]; exact h7
theorem s_tsize (tp : TP t I) : PI ((d + 1), 116, 0, [some (.ref 3)], [], (xSH L dr tl, I, J)) t.2 (xSH L dr tl, I, J) := w116_0 (Or.inl rfl) ⟨_, rfl, tp.2.1, rfl⟩
theorem s_tbyte (tp : TP t I) : PI ((d + 1), 117, 0, [some (.ref 3), some (.int a1)], [], (xSH L dr tl, I, J)) (if 0 ≤ a1.toInt ∧ a1.toInt < t.2 then t.1 a1.toInt.toNat else -1) (xSH L dr tl, I, J) := by
  have n1600 := tp.1.1
  refine w117_0 (Or.inl rfl) (brz lt0 (fun y => ⟨-1, rfl, ?_, rfl⟩) (fun y => brz lt_ti (fun z => ⟨?_, _, rfl, ?_, rfl⟩) (fun z => ⟨-1, rfl, ?_, rfl⟩)))
  · rw [if_neg (by omega)]; rfl
  · have z' : a1.toInt < (I 3 1).toInt := z
    rw [tp.2.1] at z'; rw [xin_iff]; omega
  · have z' : a1.toInt < (I 3 1).toInt := z
    rw [tp.2.1] at z'
    rw [if_pos (by omega)]
    exact tp.2.2 a1.toInt.toNat (by omega)
  · have z' : ¬ a1.toInt < (I 3 1).toInt := z
    rw [tp.2.1] at z'; rw [if_neg (by omega)]; rfl
theorem s_fail (tp : TP t I) (h : PS t s I) (hk : a1.toInt = k) (hk0 : k ≠ 0) (hl : a2.toInt = l) (K : ∀ I1 : Nat → Nat → Int32, fr7 I I1 → PF t k l I1 → R I1 J) : WP ((d + 2), 73, 0, [some (.ref 7), some (.int a1), some (.int a2)], [], (xSH L dr tl, I, J)) (fun v M => ∃ (I2 : Nat → Nat → Int32) (J2 : Nat → Nat → Int64), v = none ∧ M = (xSH L dr tl, I2, J2) ∧ R I2 J2) := by
  have f1 : fr7 I (xwI (xwI I 7 6 a1) 7 7 a2) := (fr7_w (by decide)).tr (fr7_w (by decide))
  refine w73_0 (hit (eq0.mpr h.2.2.2.2.2.1) ((s_tsize (tp.g f1)).u fun r3 g3 => ⟨_, J, rfl, rfl, K _ (f1.tr ((fr7_w (by decide)).tr ((fr7_w (by decide)).tr (fr7_w (by decide))))) ⟨hk0, g3, rfl, rfl, hk, hl⟩⟩))
theorem s_failF (tp : TP t I) (h : PF t k l I) (K : ∀ I1 : Nat → Nat → Int32, fr7 I I1 → PF t k l I1 → R I1 J) : WP ((d + 2), 73, 0, [some (.ref 7), some (.int a1), some (.int a2)], [], (xSH L dr tl, I, J)) (fun v M => ∃ (I2 : Nat → Nat → Int32) (J2 : Nat → Nat → Int64), v = none ∧ M = (xSH L dr tl, I2, J2) ∧ R I2 J2) := by
  refine w73_0 (sk (fun z => h.1 (h.2.2.2.2.1.symm.trans (eq0.mp z))) ((s_tsize tp).u fun r3 g3 => ⟨_, J, rfl, rfl, K _ ((fr7_w (by decide)).tr ((fr7_w (by decide)).tr (fr7_w (by decide)))) ⟨h.1, g3, rfl, rfl, h.2.2.2.2.1, h.2.2.2.2.2⟩⟩))
theorem s_isMark (tp : TP t I) (h : PS t s I) (hk : a1.toInt = k) : PB ((d + 2), 64, 0, [some (.ref 7), some (.int a1)], [], (xSH L dr tl, I, J)) (isMk t k s) (xSH L dr tl, I, J) := by
  refine w64_0 (brz eq_ti (fun y => (s_tbyte tp).u fun r2 g2 => ?_) (fun y => ⟨0, rfl, Or.inr ⟨rfl, fun z => y (h.2.2.2.1.trans z.1)⟩, rfl⟩))
  have y4 : kd t s = 4 := h.2.2.2.1.symm.trans y
  have lt := kd_lt (t := t) (s := s) (by omega)
  rw [h.2.1, if_pos (by omega)] at g2
  have g2' : r2.toInt = t.1 (qq t s) := g2
  exact brz eq_ti (fun z => ⟨1, rfl, Or.inl ⟨rfl, y4, by omega⟩, rfl⟩) (fun z => ⟨0, rfl, Or.inr ⟨rfl, fun u => z (by have := u.2; omega)⟩, rfl⟩)
theorem s_isMarkF (h : PF t k l I) : PB ((d + 2), 64, 0, [some (.ref 7), some (.int a1)], [], (xSH L dr tl, I, J)) False (xSH L dr tl, I, J) := by
  have f4 : (4 : Int32).toInt = 4 := rfl
  exact w64_0 (sk (fun z => by rw [eq_ti, h.2.2.1] at z; omega) ⟨0, rfl, Or.inr ⟨rfl, id⟩, rfl⟩)
end LEXD
