/-! ===== book: the reference's codes and the row that waits ===== -/
def MC (c : List Int) (I : Nat → Nat → Int32) : Prop := (I 71 44).toInt = c.length ∧ ∀ j : Nat, j < c.length → (I 103 j).toInt = c.getD j 0
def MWt (w : List Int) (I : Nat → Nat → Int32) : Prop := (I 71 46).toInt = w.length ∧ stk (fun k => (I 104 k).toInt) w
def MG (t : Tp) (s : Lx) (c w : List Int) (o : Int) (I : Nat → Nat → Int32) : Prop := MR t s I ∧ MC c I ∧ MWt w I ∧ ((I 71 47).toInt = o ∧ 0 ≤ o + s.1 + c.length ∧ o ≤ 6) ∧ c.length + w.length + 3 ≤ s.1
def ME (B : Int) (e : Int × Int) (I : Nat → Nat → Int32) : Prop := MZ e I ∧ 0 ≤ (I 71 44).toInt ∧ (I 71 44).toInt ≤ B
def frS (I I1 : Nat → Nat → Int32) : Prop := (∀ a : Nat, a ≠ 71 → a ≠ 103 → a ≠ 104 → I1 a = I a) ∧ (∀ j : Nat, 1600 ≤ j → I1 103 j = I 103 j) ∧ ∀ j : Nat, j ≠ 2 → j ≠ 4 → j ≠ 5 → j ≠ 6 → j ≠ 9 → j ≠ 44 → j ≠ 46 → j ≠ 47 → I1 71 j = I 71 j
def mkW : List Int → Int
  | [] => -1
  | v :: r => if 20 ≤ v ∧ v ≤ 24 then v else mkW r
section MWAIT
variable {t : Tp} {L d dr tl : Nat} {I I0 I1 I2 : Nat → Nat → Int32} {J : Nat → Nat → Int64} {a0 a1 a2 a3 a4 : Int32} {s s' : Lx} {v o B : Int} {R : (Nat → Nat → Int32) → (Nat → Nat → Int64) → Prop} {Q : Option Value → xMem → Prop} {x : RX Lx} {c w w0 l p : List Int} {e : Int × Int} {l0 : Int}
theorem frS_refl : frS I I := ⟨fun _ _ _ _ => rfl, fun _ _ => rfl, fun _ _ _ _ _ _ _ _ _ => rfl⟩
theorem frS.tr (h : frS I I1) (h' : frS I1 I2) : frS I I2 := ⟨fun a g1 g2 g3 => (h'.1 a g1 g2 g3).trans (h.1 a g1 g2 g3), fun j g => (h'.2.1 j g).trans (h.2.1 j g), fun j g1 g2 g3 g4 g5 g6 g7 g8 => (h'.2.2 j g1 g2 g3 g4 g5 g6 g7 g8).trans (h.2.2 j g1 g2 g3 g4 g5 g6 g7 g8)⟩
theorem frX.toS (h : frX I I1) : frS I I1 := ⟨fun a g _ _ => h.1 a g, fun j _ => by rw [h.1 103 (by decide)], fun j g1 g2 g3 g4 g5 _ _ _ => h.2 j g1 g2 g3 g4 g5⟩
theorem frS_w {k : Nat} {v : Int32} (h : k = 2 ∨ k = 4 ∨ k = 5 ∨ k = 6 ∨ k = 9 ∨ k = 44 ∨ k = 46 ∨ k = 47) : frS I (xwI I 71 k v) := ⟨fun a g _ _ => xwI_ne g, fun j _ => by rw [xwI_ne (by decide)], fun j g1 g2 g3 g4 g5 g6 g7 g8 => xgn (by omega)⟩
theorem frS_104 {k : Nat} {v : Int32} : frS I (xwI I 104 k v) := ⟨fun a _ _ g => xwI_ne g, fun j _ => by rw [xwI_ne (by decide)], fun j _ _ _ _ _ _ _ _ => by rw [xwI_ne (by decide)]⟩
theorem frS_103 {k : Nat} {v : Int32} (h : k < 1600) : frS I (xwI I 103 k v) := ⟨fun a _ g _ => xwI_ne g, fun j hj => xgn (by omega), fun j _ _ _ _ _ _ _ _ => by rw [xwI_ne (by decide)]⟩
theorem MT.fs (h : MT t I) (f : frS I I1) : MT t I1 := by
  unfold MT at *
  rw [f.1 72 (by decide) (by decide) (by decide), f.2.2 3 (by decide) (by decide) (by decide) (by decide) (by decide) (by decide) (by decide) (by decide)]; exact h
theorem WA.fs (h : WA I) (f : frS I I1) : WA I1 := fun k hk j hj => by rw [f.1 (73 + k) (by omega) (by omega) (by omega)]; exact h k hk j hj
theorem MG.fx (h : MG t s c w o I) (f : frX I I1) (r : MR t s' I1) (le : s.1 ≤ s'.1) : MG t s' c w o I1 := by
  obtain ⟨h1, h2, h3, h4, h5⟩ := h
  refine ⟨r, ?_, ?_, ?_, by omega⟩
  · unfold MC at *; rw [f.1 103 (by decide), f.2 44 (by decide) (by decide) (by decide) (by decide) (by decide)]; exact h2
  · unfold MWt at *; rw [f.1 104 (by decide), f.2 46 (by decide) (by decide) (by decide) (by decide) (by decide)]; exact h3
  · rw [f.2 47 (by decide) (by decide) (by decide) (by decide) (by decide)]; exact ⟨h4.1, by have := h4.2.1; omega, h4.2.2⟩
theorem MG.q (h : MG t s c w o I) (e : (I 71 2).toInt = qq t s) : MQx t s I := ⟨h.1.1, e, h.1.2.2.1, h.1.2.2.2⟩
theorem MG.err (mt : MT t I) (h : MG t s c w o I) (f : frX I I1) (z : MZ e I1) : ME 1597 e I1 := by
  have n := mt.1.1
  have hs := h.1.1
  have hc := h.2.1.1
  have h5 := h.2.2.2.2
  refine ⟨z, ?_⟩
  rw [f.2 44 (by decide) (by decide) (by decide) (by decide) (by decide), hc]
  omega
theorem ME.up {B' : Int} (h : ME B e I) (hB : B ≤ B') : ME B' e I := ⟨h.1, h.2.1, by have := h.2.2; omega⟩
theorem ME.fx (h : ME B e I) (f : frX I I1) (z : MZ e I1) : ME B e I1 := by
  refine ⟨z, ?_⟩
  rw [f.2 44 (by decide) (by decide) (by decide) (by decide) (by decide)]; exact h.2
theorem add1b {a : Int32} (h1 : -1000000 ≤ a.toInt) (h2 : a.toInt < 1000000000) : (a + 1).toInt = a.toInt + 1 := add_ti (by show _ ≤ a.toInt + 1; omega) (by show a.toInt + 1 < _; omega)
theorem z0add {y : Int32} : (0 + y).toInt = y.toInt := by
  have := ti_lo y
  have := ti_hi y
  have z : (0 : Int32).toInt = 0 := rfl
  rw [add_ti (by rw [z]; omega) (by rw [z]; omega), z]; omega
theorem m_code (mt : MT t I) (h : MG t s c w o I) (room : c.length + w.length + 4 ≤ s.1) (e1 : a1.toInt = v) (K : ∀ I1 : Nat → Nat → Int32, frS I I1 → MG t s (c ++ [v]) w o I1 → I1 71 2 = I 71 2 → R I1 J) : WP ((d + 1), 224, 0, [some (.ref 71), some (.int a1)], [], (xSH L dr tl, I, J)) (fun v M => ∃ (I2 : Nat → Nat → Int32) (J2 : Nat → Nat → Int64), v = none ∧ M = (xSH L dr tl, I2, J2) ∧ R I2 J2) := by
  obtain ⟨h1, h2, h3, h4, h5⟩ := h
  have n := mt.1.1
  have hs := h1.1
  have ez : (0 + I 71 44).toInt = c.length := by rw [z0add, h2.1]
  have xi : xIx (0 + I 71 44) = c.length := by rw [xIx_ti, ez]; exact Int.toNat_natCast _
  refine w224_0 ⟨by rw [xin_iff, ez]; omega, ?_⟩
  rw [xi]
  refine ⟨_, J, rfl, rfl, K _ ((frS_103 (by omega)).tr (frS_w (by decide))) ⟨h1, ⟨?_, fun j hj => ?_⟩, h3, ⟨h4.1, by rw [List.length_append]; show (0 : Int) ≤ o + s.1 + ((c.length + 1 : Nat) : Int); have := h4.2.1; omega, h4.2.2⟩, by rw [List.length_append]; show c.length + 1 + _ + 3 ≤ _; omega⟩ rfl⟩
  · show (I 71 44 + 1).toInt = _
    rw [add1 (by rw [h2.1]; omega) (by rw [h2.1]; omega), h2.1, List.length_append]; rfl
  · rw [List.length_append] at hj
    have hj' : j < c.length + 1 := hj
    rw [xwI_ne (by decide)]
    by_cases e : j = c.length
    · rw [e, xg, e1, gd_r]
    · rw [xgn e, gd_l (by omega)]; exact h2.2 j (by omega)
theorem m_codeE (h : ME B e I) (hB : B ≤ 1598) (K : ∀ I1 : Nat → Nat → Int32, frS I I1 → ME (B + 1) e I1 → R I1 J) : WP ((d + 1), 224, 0, [some (.ref 71), some (.int a1)], [], (xSH L dr tl, I, J)) (fun v M => ∃ (I2 : Nat → Nat → Int32) (J2 : Nat → Nat → Int64), v = none ∧ M = (xSH L dr tl, I2, J2) ∧ R I2 J2) := by
  obtain ⟨h1, h2, h3⟩ := h
  have ez : (0 + I 71 44).toInt = (I 71 44).toInt := z0add
  refine w224_0 ⟨by rw [xin_iff, ez]; omega, ⟨_, J, rfl, rfl, K _ ((frS_103 ?_).tr (frS_w (by decide))) ⟨h1, ?_, ?_⟩⟩⟩
  · rw [xIx_ti, ez]; omega
  · show 0 ≤ (I 71 44 + 1).toInt
    rw [add1 (by omega) (by omega)]; omega
  · show (I 71 44 + 1).toInt ≤ _
    rw [add1 (by omega) (by omega)]; omega
theorem m_drops (mt : MT t I) (h : MG t s c (v :: w) o I) (K : ∀ I1 : Nat → Nat → Int32, frS I I1 → MG t s (c ++ [v]) w o I1 → I1 71 2 = I 71 2 → R I1 J) : WP ((d + 2), 227, 0, [some (.ref 71)], [], (xSH L dr tl, I, J)) (fun v M => ∃ (I2 : Nat → Nat → Int32) (J2 : Nat → Nat → Int64), v = none ∧ M = (xSH L dr tl, I2, J2) ∧ R I2 J2) := by
  obtain ⟨h1, h2, h3, h4, h5⟩ := h
  have n := mt.1.1
  have hs := h1.1
  have h5' : c.length + (w.length + 1) + 3 ≤ s.1 := h5
  have hl : (I 71 46).toInt = ((w.length + 1 : Nat) : Int) := h3.1
  have e1 : (I 71 46 - 1).toInt = w.length := by rw [sub1 (by omega), hl]; omega
  have xi : xIx (I 71 46 - 1) = w.length := by rw [xIx_ti, e1]; exact Int.toNat_natCast _
  have F : frS I (xwI I 71 46 (I 71 46 - 1)) := frS_w (by decide)
  refine w227_0 ⟨by show xin (I 71 46 - 1) 1700 = true; rw [xin_iff, e1]; omega, ?_⟩
  have ev : ((xwI I 71 46 (I 71 46 - 1)) 104 (xIx ((xwI I 71 46 (I 71 46 - 1)) 71 46))).toInt = v := by
    show (I 104 (xIx (I 71 46 - 1))).toInt = v
    rw [xi]; exact h3.2.1
  have g : MG t s c w o (xwI I 71 46 (I 71 46 - 1)) := ⟨h1, h2, ⟨e1, h3.2.2⟩, h4, by omega⟩
  exact m_code (mt.fs F) g (by omega) ev fun I1 f1 g1 z1 => ⟨I1, J, rfl, rfl, K I1 (F.tr f1) g1 z1⟩
theorem m_isOn (mw : MWt w I) (hl : w.length ≤ 1600) (e1 : a1.toInt = v) : PB ((d + 1), 226, 0, [some (.ref 71), some (.int a1)], [], (xSH L dr tl, I, J)) (∃ r : List Int, w = v :: r) (xSH L dr tl, I, J) := by
  cases w with
  | nil =>
    have z : (I 71 46).toInt = 0 := mw.1
    exact w226_0 (sk (fun y => by rw [gt0] at y; omega) ⟨0, rfl, Or.inr ⟨rfl, fun ⟨r, h⟩ => by cases h⟩, rfl⟩)
  | cons u r =>
    have hl' : r.length + 1 ≤ 1600 := hl
    have z : (I 71 46).toInt = ((r.length + 1 : Nat) : Int) := mw.1
    have e2 : (I 71 46 - 1).toInt = r.length := by rw [sub1 (by omega), z]; omega
    have xi : xIx (I 71 46 - 1) = r.length := by rw [xIx_ti, e2]; exact Int.toNat_natCast _
    have ev : (I 104 (xIx (I 71 46 - 1))).toInt = u := by rw [xi]; exact mw.2.1
    exact w226_0 (hit (gt0.mpr (by omega)) ⟨by rw [xin_iff, e2]; omega, brz eq_ti (fun y => ⟨1, rfl, Or.inl ⟨rfl, r, by rw [← ev, y, e1]⟩, rfl⟩) (fun y => ⟨0, rfl, Or.inr ⟨rfl, fun ⟨r', h⟩ => y (by rw [ev, e1]; cases h; rfl)⟩, rfl⟩)⟩)
theorem m_opens (mt : MT t I) (h : MG t s c w o I) (room : c.length + w.length + 4 ≤ s'.1) (le : s.1 ≤ s'.1) (e1 : a1.toInt = v) (e2 : a2.toInt = l0) (K1 : o < 6 → ∀ I1 : Nat → Nat → Int32, frS I I1 → MR t s I1 → MC c I1 → MWt (v :: w) I1 → (I1 71 47).toInt = o + 1 → (∀ j : Nat, j ≠ 46 → j ≠ 47 → I1 71 j = I 71 j) → R I1 J) (K0 : ¬ o < 6 → ∀ I1 : Nat → Nat → Int32, frX I I1 → ME 1597 (4, l0) I1 → R I1 J) : WP ((d + 2), 225, 0, [some (.ref 71), some (.int a1), some (.int a2)], [], (xSH L dr tl, I, J)) (fun v M => ∃ (I2 : Nat → Nat → Int32) (J2 : Nat → Nat → Int64), v = none ∧ M = (xSH L dr tl, I2, J2) ∧ R I2 J2) := by
  have H := h
  obtain ⟨h1, h2, h3, h4, h5⟩ := h
  have n := mt.1.1
  have hs := h1.1
  have t6 : (6 : Int32).toInt = 6 := rfl
  have xi : xIx (I 71 46) = w.length := by rw [xIx_ti, h3.1]; exact Int.toNat_natCast _
  refine w225_0 (brz eq_ti (fun y => m_fail0 (k := 4) h1.2.2.2 rfl (by decide) e2 fun I1 f1 g1 => ⟨I1, J, rfl, rfl, K0 (by omega) I1 f1 (H.err mt f1 g1)⟩) (fun y => ⟨by show xin (I 71 46) 1700 = true; rw [xin_iff, h3.1]; omega, _, J, rfl, rfl, K1 (by omega) _ (((frS_w (by decide)).tr frS_104).tr (frS_w (by decide))) h1 h2 ⟨?_, ?_⟩ ?_ (fun j g1 g2 => ?_)⟩))
  · show (I 71 46 + 1).toInt = _
    rw [add1 (by rw [h3.1]; omega) (by rw [h3.1]; omega), h3.1]; rfl
  · refine ⟨?_, stk_eq h3.2 (fun k hk => ?_)⟩
    · show ((xwI (xwI I 71 47 (I 71 47 + 1)) 104 (xIx (I 71 46)) a1) 104 w.length).toInt = v
      rw [xi, xg]; exact e1
    · show ((xwI (xwI I 71 47 (I 71 47 + 1)) 104 (xIx (I 71 46)) a1) 104 k).toInt = (I 104 k).toInt
      rw [xi, xgn (by omega), xwI_ne (by decide)]
  · show (I 71 47 + 1).toInt = o + 1
    rw [add1b (by rw [h4.1]; omega) (by rw [h4.1]; omega), h4.1]
  · rw [xgn g1, xwI_ne (by decide), xgn g2]
theorem m_isMarkW : PB ((d + 1), 228, 0, [some (.ref 71), some (.int a1)], [], (xSH L dr tl, I, J)) (20 ≤ a1.toInt ∧ a1.toInt ≤ 24) (xSH L dr tl, I, J) := by
  have e97 : (20 : Int32).toInt = 20 := rfl
  have e122 : (24 : Int32).toInt = 24 := rfl
  exact w228_0 (brz lt_ti (fun y => ⟨0, rfl, Or.inr ⟨rfl, by omega⟩, rfl⟩) (fun y => brz lt_ti (fun z => ⟨0, rfl, Or.inr ⟨rfl, by omega⟩, rfl⟩) (fun z => ⟨1, rfl, Or.inl ⟨rfl, by omega⟩, rfl⟩)))
theorem m_markW (mw : MWt (l ++ w0) I) (hb : (I 71 51).toInt = w0.length) (hl : (l ++ w0).length ≤ 1600) : PI ((d + 2), 229, 0, [some (.ref 71), none], [], (xSH L dr tl, I, J)) (mkW l) (xSH L dr tl, I, J) := by
  have loop : ∀ (l : List Int) (a1 : Int32), a1.toInt = ((l ++ w0).length : Int) - 1 → stk (fun k => (I 104 k).toInt) (l ++ w0) → (l ++ w0).length ≤ 1600 → PI ((d + 2), 229, 7, [some (.ref 71), some (.int a1)], [], (xSH L dr tl, I, J)) (mkW l) (xSH L dr tl, I, J) := by
    intro l
    induction l with
    | nil =>
      intro a1 h1 hs hl
      have z : a1 < I 71 51 := by
        rw [lt_ti, hb]
        have : (([] ++ w0 : List Int).length : Int) = w0.length := rfl
        omega
      exact w229_7 (hit z (hit z ⟨-1, rfl, rfl, rfl⟩))
    | cons v l ih =>
      intro a1 h1 hs hl
      have hl' : (l ++ w0).length + 1 ≤ 1600 := hl
      have h1' : a1.toInt = (l ++ w0).length := by
        have : ((v :: l ++ w0 : List Int).length : Int) = (l ++ w0).length + 1 := rfl
        omega
      have hlen : (l ++ w0).length = l.length + w0.length := List.length_append
      have z : ¬ a1 < I 71 51 := by
        rw [lt_ti, hb]
        omega
      have xi : xIx a1 = (l ++ w0).length := by rw [xIx_ti, h1']; exact Int.toNat_natCast _
      have ev : (I 104 (xIx a1)).toInt = v := by rw [xi]; exact hs.1
      have E : mkW (v :: l) = if 20 ≤ v ∧ v ≤ 24 then v else mkW l := rfl
      rw [E]
      refine w229_7 (sk z ⟨by rw [xin_iff, h1']; omega, m_isMarkW.u (fun y => br1 (sk z ⟨by rw [xin_iff, h1']; omega, _, rfl, ?_, rfl⟩)) (fun y => br0 ?_)⟩)
      · rw [ev] at y
        rw [if_pos y]; exact ev
      · rw [ev] at y
        rw [if_neg y]
        have em : (-1 : Int32).toInt = -1 := rfl
        have hl2 : (l ++ w0).length ≤ 1600 := by omega
        have ea : (a1 + (-1)).toInt = ((l ++ w0).length : Int) - 1 := by rw [add_ti (by rw [em]; omega) (by rw [em]; omega), em]; omega
        exact ih _ ea hs.2 hl2
  refine w229_0 (loop l _ ?_ mw.2 hl)
  rw [sub1 (by rw [mw.1]; omega), mw.1]
theorem m_dropsTo (hb : (I0 71 51).toInt = w0.length) (K : ∀ I1 : Nat → Nat → Int32, frS I0 I1 → MG t s (c ++ p) (l ++ w0) o I1 → I1 71 2 = I0 71 2 → R I1 J) (hl : l = [] ∨ ∃ (v : Int) (r : List Int), l = v :: r ∧ 20 ≤ v ∧ v ≤ 24) : ∀ (p' c' : List Int) (I : Nat → Nat → Int32), c' ++ p' = c ++ p → op14 p' → MT t I → frS I0 I → I 71 2 = I0 71 2 → MG t s c' (p' ++ (l ++ w0)) o I → WP ((d + 3), 230, 0, [some (.ref 71)], [], (xSH L dr tl, I, J)) (fun v M => ∃ (I2 : Nat → Nat → Int32) (J2 : Nat → Nat → Int64), v = none ∧ M = (xSH L dr tl, I2, J2) ∧ R I2 J2) := by
  intro p'
  induction p' with
  | nil =>
    intro c' I hc hp mt f0 z h
    rw [List.append_nil] at hc
    have n := mt.1.1
    have hs := h.1.1
    have h5 := h.2.2.2.2
    have hw := h.2.2.1
    have hb' : (I 71 51).toInt = w0.length := by rw [f0.2.2 51 (by decide) (by decide) (by decide) (by decide) (by decide) (by decide) (by decide) (by decide)]; exact hb
    rcases hl with rfl | ⟨v, r, rfl, hv⟩
    · have hwl : (I 71 46).toInt = w0.length := hw.1
      refine w230_0 (sk (fun y => by rw [lt_ti, hb', hwl] at y; omega) ⟨I, J, rfl, rfl, K I f0 ?_ z⟩)
      rw [← hc]; exact h
    · have hwl : (I 71 46).toInt = (((r ++ w0).length + 1 : Nat) : Int) := hw.1
      have hlen : (r ++ w0).length = r.length + w0.length := List.length_append
      have h5' : c'.length + ((r ++ w0).length + 1) + 3 ≤ s.1 := h5
      have e1 : (I 71 46 - 1).toInt = (r ++ w0).length := by rw [sub1 (by omega), hwl]; omega
      have xi : xIx (I 71 46 - 1) = (r ++ w0).length := by rw [xIx_ti, e1]; exact Int.toNat_natCast _
      have ev : (I 104 (xIx (I 71 46 - 1))).toInt = v := by rw [xi]; exact hw.2.1
      refine w230_0 (hit (lt_ti.mpr (by rw [hb', hwl]; omega)) ⟨by rw [xin_iff, e1]; omega, m_isMarkW.u (fun y => br1 ⟨I, J, rfl, rfl, K I f0 ?_ z⟩) (fun y => absurd (by rw [ev]; exact hv) y)⟩)
      rw [← hc]; exact h
  | cons u p' ih =>
    intro c' I hc hp mt f0 z h
    have n := mt.1.1
    have hs := h.1.1
    have h5 := h.2.2.2.2
    have hw := h.2.2.1
    have hu := hp u (by simp)
    have hb' : (I 71 51).toInt = w0.length := by rw [f0.2.2 51 (by decide) (by decide) (by decide) (by decide) (by decide) (by decide) (by decide) (by decide)]; exact hb
    have hwl : (I 71 46).toInt = (((p' ++ (l ++ w0)).length + 1 : Nat) : Int) := hw.1
    have hlen : (p' ++ (l ++ w0)).length = p'.length + (l.length + w0.length) := by rw [List.length_append, List.length_append]
    have h5' : c'.length + ((p' ++ (l ++ w0)).length + 1) + 3 ≤ s.1 := h5
    have e1 : (I 71 46 - 1).toInt = (p' ++ (l ++ w0)).length := by rw [sub1 (by omega), hwl]; omega
    have xi : xIx (I 71 46 - 1) = (p' ++ (l ++ w0)).length := by rw [xIx_ti, e1]; exact Int.toNat_natCast _
    have ev : (I 104 (xIx (I 71 46 - 1))).toInt = u := by rw [xi]; exact hw.2.1
    have h' : MG t s c' (u :: (p' ++ (l ++ w0))) o I := h
    refine w230_0 (hit (lt_ti.mpr (by rw [hb', hwl]; omega)) ⟨by rw [xin_iff, e1]; omega, m_isMarkW.u (fun y => by rw [ev] at y; omega) (fun y => br0 (m_drops mt h' fun I1 f1 g1 z1 => ih (c' ++ [u]) I1 ?_ (fun v hv => hp v (by simp [hv])) (mt.fs f1) (f0.tr f1) (z1.trans z) g1))⟩)
    rw [← hc, List.append_assoc]; rfl
theorem stk_mem {f : Nat → Int} {v : Int} : ∀ {w : List Int}, stk f w → (v ∈ w ↔ ∃ j : Nat, j < w.length ∧ f j = v) := by
  intro w
  induction w with
  | nil => intro _; exact ⟨fun h => absurd h (by simp), fun ⟨j, h, _⟩ => absurd h (Nat.not_lt_zero _)⟩
  | cons u w ih =>
    intro h
    have i := ih h.2
    constructor
    · intro hm
      rcases List.mem_cons.mp hm with rfl | hm
      · exact ⟨w.length, by simp, h.1⟩
      · obtain ⟨j, h1, h2⟩ := i.mp hm
        exact ⟨j, by simp; omega, h2⟩
    · rintro ⟨j, h1, h2⟩
      have h1' : j < w.length + 1 := h1
      by_cases e : j = w.length
      · rw [e, h.1] at h2; rw [h2]; simp
      · exact List.mem_cons.mpr (Or.inr (i.mpr ⟨j, by omega, h2⟩))
theorem m_hasSq (mw : MWt w I) (hl : w.length ≤ 1600) : PB ((d + 1), 235, 0, [some (.ref 71), none], [], (xSH L dr tl, I, J)) (25 ∈ w) (xSH L dr tl, I, J) := by
  have e25 : (25 : Int32).toInt = 25 := rfl
  have loop : ∀ (m j : Nat) (a1 : Int32), j + m = w.length → a1.toInt = j → (∀ i : Nat, i < j → (I 104 i).toInt ≠ 25) → PB ((d + 1), 235, 2, [some (.ref 71), some (.int a1)], [], (xSH L dr tl, I, J)) (25 ∈ w) (xSH L dr tl, I, J) := by
    intro m
    induction m with
    | zero =>
      intro j a1 hj h1 hn
      refine w235_2 (sk (fun y => by rw [lt_ti, mw.1] at y; omega) ⟨0, rfl, Or.inr ⟨rfl, fun h => ?_⟩, rfl⟩)
      obtain ⟨i, h1, h2⟩ := (stk_mem mw.2).mp h
      exact hn i (by omega) h2
    | succ m ih =>
      intro j a1 hj h1 hn
      have xi : xIx a1 = j := by rw [xIx_ti, h1]; exact Int.toNat_natCast _
      refine w235_2 (hit (lt_ti.mpr (by rw [mw.1]; omega)) ⟨by rw [xin_iff]; omega, brz eq_ti (fun y => ⟨1, rfl, Or.inl ⟨rfl, (stk_mem mw.2).mpr ⟨j, by omega, by rw [xi] at y; exact y⟩⟩, rfl⟩) (fun y => ih (j + 1) (a1 + 1) (by omega) (by rw [add1 (by omega) (by omega), h1]; rfl) (fun i hi => ?_))⟩)
      by_cases e : i = j
      · rw [e]; rw [xi] at y; exact y
      · exact hn i (by omega)
  exact w235_0 (loop w.length 0 0 (by omega) rfl (fun i hi => absurd hi (Nat.not_lt_zero _)))
end MWAIT
