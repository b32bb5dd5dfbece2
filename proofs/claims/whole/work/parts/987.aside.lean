/-! ===== dries: the reference looks ahead and takes all back ===== -/
/-- what is laid aside, and what has not been touched -/
def asideOf (I0 I : Nat → Nat → Int32) : Prop := (∀ j : Nat, j < 512 → I 122 j = I0 111 j ∧ I 123 j = I0 112 j) ∧ (∀ r : Nat, r < 4 → I 124 r = I0 114 r ∧ I 125 r = I0 115 r) ∧ I 71 76 = I0 71 55 ∧ (∀ a : Nat, a ≠ 71 → a ≠ 111 → a ≠ 112 → a ≠ 114 → a ≠ 115 → (a < 122 ∨ 127 < a) → I a = I0 a) ∧ ∀ j : Nat, j ≠ 55 → j ≠ 76 → I 71 j = I0 71 j
/-- all is as it was, but for what was laid aside -/
def backOf (I0 I : Nat → Nat → Int32) : Prop := (∀ j : Nat, j < 512 → I 111 j = I0 111 j ∧ I 112 j = I0 112 j) ∧ (∀ r : Nat, r < 4 → I 114 r = I0 114 r ∧ I 115 r = I0 115 r) ∧ (∀ a : Nat, a ≠ 71 → a ≠ 111 → a ≠ 112 → a ≠ 114 → a ≠ 115 → (a < 122 ∨ 127 < a) → I a = I0 a) ∧ ∀ j : Nat, j ≠ 76 → I 71 j = I0 71 j
section ASIDE
variable {S T : aS} {L d dr tl : Nat} {I I0 I1 : Nat → Nat → Int32} {J : Nat → Nat → Int64} {a1 a2 a3 a4 a5 x : Int32} {r k q p m : Nat} {l : Int} {Q : Option Value → xMem → Prop}
theorem asideOf.fr (h : asideOf I0 I) (f : frG I I1) : asideOf I0 I1 := by
  obtain ⟨h1, h2, h3, h4, h5⟩ := h
  refine ⟨fun j hj => ?_, fun r hr => ?_, ?_, fun a g1 g2 g3 g4 g5 g6 => ?_, fun j g1 g2 => ?_⟩
  · rw [f.1 122 (by decide) (by decide) (by decide) (by decide) (by decide), f.1 123 (by decide) (by decide) (by decide) (by decide) (by decide)]; exact h1 j hj
  · rw [f.1 124 (by decide) (by decide) (by decide) (by decide) (by decide), f.1 125 (by decide) (by decide) (by decide) (by decide) (by decide)]; exact h2 r hr
  · rw [f.2 76 (by decide)]; exact h3
  · rw [f.1 a g1 g2 g3 g4 g5]; exact h4 a g1 g2 g3 g4 g5 g6
  · rw [f.2 j g1]; exact h5 j g1 g2
theorem backOf.kc (h : backOf I0 I) : keepC I0 I J J := fun a ha => ⟨h.2.2.1 a (by omega) (by omega) (by omega) (by omega) (by omega) (by omega), rfl⟩
theorem backOf.tr (h : backOf I0 I) (h' : backOf I I1) : backOf I0 I1 := by
  obtain ⟨h1, h2, h3, h4⟩ := h
  obtain ⟨k1, k2, k3, k4⟩ := h'
  exact ⟨fun j hj => ⟨(k1 j hj).1.trans (h1 j hj).1, (k1 j hj).2.trans (h1 j hj).2⟩, fun r hr => ⟨(k2 r hr).1.trans (h2 r hr).1, (k2 r hr).2.trans (h2 r hr).2⟩, fun a g1 g2 g3 g4 g5 g6 => (k3 a g1 g2 g3 g4 g5 g6).trans (h3 a g1 g2 g3 g4 g5 g6), fun j hj => (k4 j hj).trans (h4 j hj)⟩
theorem backOf_refl : backOf I0 I0 := ⟨fun _ _ => ⟨rfl, rfl⟩, fun _ _ => ⟨rfl, rfl⟩, fun _ _ _ _ _ _ _ => rfl, fun _ _ => rfl⟩
theorem backOf_w {c j : Nat} {v : Int32} (h : 122 ≤ c ∧ c ≤ 127) : backOf I (xwI I c j v) := ⟨fun j _ => by rw [xwI_ne (by omega), xwI_ne (by omega)]; exact ⟨rfl, rfl⟩, fun r _ => by rw [xwI_ne (by omega), xwI_ne (by omega)]; exact ⟨rfl, rfl⟩, fun a _ _ _ _ _ g6 => by rw [xwI_ne (by omega)], fun j _ => by rw [xwI_ne (by omega)]⟩
theorem MInv.back (q : MInv S I0 J) (h : backOf I0 I) : MInv S I J := by
  obtain ⟨g1, g2, g3, g4, g5, g6, g7, g8, g9, g10⟩ := q
  obtain ⟨k1, k2, k3, k4⟩ := h
  have c : ∀ a : Nat, a ≠ 71 → a ≠ 111 → a ≠ 112 → a ≠ 114 → a ≠ 115 → (a < 122 ∨ 127 < a) → I a = I0 a := k3
  refine ⟨g1, ?_, g3, ⟨?_, fun l p hp => ?_, fun r hr => ?_⟩, ?_, ?_, ?_, ?_, g9, ?_⟩
  · unfold MIb at *; rw [c 93 (by decide) (by decide) (by decide) (by decide) (by decide) (by decide), c 95 (by decide) (by decide) (by decide) (by decide) (by decide) (by decide), c 96 (by decide) (by decide) (by decide) (by decide) (by decide) (by decide), c 99 (by decide) (by decide) (by decide) (by decide) (by decide) (by decide), c 100 (by decide) (by decide) (by decide) (by decide) (by decide) (by decide), c 101 (by decide) (by decide) (by decide) (by decide) (by decide) (by decide), c 102 (by decide) (by decide) (by decide) (by decide) (by decide) (by decide), c 103 (by decide) (by decide) (by decide) (by decide) (by decide) (by decide), c 105 (by decide) (by decide) (by decide) (by decide) (by decide) (by decide), c 106 (by decide) (by decide) (by decide) (by decide) (by decide) (by decide), c 107 (by decide) (by decide) (by decide) (by decide) (by decide) (by decide)]; exact g2
  · rw [k4 55 (by decide)]; exact g4.1
  · have hb := isP_b g1 hp
    have hs : slot l p < 512 := by unfold slot; omega
    rw [c 110 (by decide) (by decide) (by decide) (by decide) (by decide) (by decide), (k1 _ hs).1, (k1 _ hs).2, c 113 (by decide) (by decide) (by decide) (by decide) (by decide) (by decide)]
    exact g4.2.1 l p hp
  · have hN := g1.2.2.2.1.2.1
    rw [(k2 r (by omega)).1, (k2 r (by omega)).2]
    exact g4.2.2 r hr
  · unfold MIc at *; rw [k4 65 (by decide), k4 66 (by decide), c 116 (by decide) (by decide) (by decide) (by decide) (by decide) (by decide), c 117 (by decide) (by decide) (by decide) (by decide) (by decide) (by decide), c 118 (by decide) (by decide) (by decide) (by decide) (by decide) (by decide)]; exact g5
  · unfold MIt at *; rw [k4 1 (by decide), c 72 (by decide) (by decide) (by decide) (by decide) (by decide) (by decide)]; exact g6
  · unfold MIp at *; rw [k4 82 (by decide), c 130 (by decide) (by decide) (by decide) (by decide) (by decide) (by decide)]; exact g7
  · unfold MIf at *; rw [k4 7 (by decide), k4 8 (by decide)]; exact g8
  · intro a w hm k hk
    have ha : 73 ≤ a ∧ a ≤ 91 := by
      simp only [List.mem_cons, Prod.mk.injEq, List.not_mem_nil, or_false] at hm
      omega
    rw [c a (by omega) (by omega) (by omega) (by omega) (by omega) (by omega)]
    exact g10 a w hm k hk
theorem lt512 {a : Int32} : a < 512 ↔ a.toInt < 512 := lt_ti
theorem lt4 {a : Int32} : a < 4 ↔ a.toInt < 4 := lt_ti
theorem aside1 : ∀ (m k : Nat) (i : Int32) (I : Nat → Nat → Int32), k + m = 4 → i.toInt = k → backOf I0 I → (∀ j : Nat, j < 512 → I 122 j = I0 111 j ∧ I 123 j = I0 112 j) → (∀ r : Nat, r < k → I 124 r = I0 114 r ∧ I 125 r = I0 115 r) → (∀ I1 : Nat → Nat → Int32, asideOf I0 I1 → backOf I0 I1 → Q none (xSH L dr tl, I1, J)) → WP ((d + 1), 289, 41, [some (.ref 71), some (.int i)], [], (xSH L dr tl, I, J)) Q := by
  intro m
  induction m with
  | zero =>
    intro k i I hk hi hb h1 h2 K
    refine w289_41 (brz lt4 (fun z => by omega) (fun _ => K _ ⟨h1, fun r hr => h2 r (by omega), ?_, fun a g1 g2 g3 g4 g5 g6 => ?_, fun j g1 g2 => ?_⟩ ⟨hb.1, hb.2.1, fun a g1 g2 g3 g4 g5 g6 => ?_, fun j g1 => ?_⟩))
    · rw [xg]; exact hb.2.2.2 55 (by decide)
    · rw [xwI_ne g1]; exact hb.2.2.1 a g1 g2 g3 g4 g5 g6
    · rw [xgn g2]; exact hb.2.2.2 j g2
    · rw [xwI_ne g1]; exact hb.2.2.1 a g1 g2 g3 g4 g5 g6
    · rw [xgn g1]; exact hb.2.2.2 j g1
  | succ m ih =>
    intro k i I hk hi hb h1 h2 K
    have i1 : (i + 1).toInt = ((k + 1 : Nat) : Int) := by rw [add1 (by omega) (by omega), hi]; rfl
    have xi : xIx i = k := by rw [xIx_ti, hi]; exact Int.toNat_natCast _
    have hx : xin i 4 = true := by rw [xin_iff, hi]; omega
    refine w289_41 (brz lt4 (fun _ => ⟨hx, hx, hx, hx, ih (k + 1) _ _ (by omega) i1 (hb.tr ((backOf_w (by decide)).tr (backOf_w (by decide)))) ?_ (fun r hr => ?_) K⟩) (fun z => by omega))
    · exact h1
    · rw [xi]
      have b1 := (hb.2.1 k (by omega)).1
      have b2 := (hb.2.1 k (by omega)).2
      by_cases e : r = k
      · rw [e, xg, xwI_ne (by decide), xg, xwI_ne (by decide)]; exact ⟨b1, b2⟩
      · rw [xgn e, xwI_ne (by decide), xgn e, xwI_ne (by decide)]; exact h2 r (by omega)
theorem aside0 : ∀ (m k : Nat) (i : Int32) (I : Nat → Nat → Int32), k + m = 512 → i.toInt = k → backOf I0 I → (∀ j : Nat, j < k → I 122 j = I0 111 j ∧ I 123 j = I0 112 j) → (∀ I1 : Nat → Nat → Int32, asideOf I0 I1 → backOf I0 I1 → Q none (xSH L dr tl, I1, J)) → WP ((d + 1), 289, 2, [some (.ref 71), some (.int i)], [], (xSH L dr tl, I, J)) Q := by
  intro m
  induction m with
  | zero =>
    intro k i I hk hi hb h1 K
    exact w289_2 (brz lt512 (fun z => by omega) (fun _ => aside1 4 0 0 I rfl rfl hb (fun j hj => h1 j (by omega)) (fun r hr => by omega) K))
  | succ m ih =>
    intro k i I hk hi hb h1 K
    have i1 : (i + 1).toInt = ((k + 1 : Nat) : Int) := by rw [add1 (by omega) (by omega), hi]; rfl
    have xi : xIx i = k := by rw [xIx_ti, hi]; exact Int.toNat_natCast _
    have hx : xin i 512 = true := by rw [xin_iff, hi]; omega
    refine w289_2 (brz lt512 (fun _ => ⟨hx, hx, hx, hx, ih (k + 1) _ _ (by omega) i1 (hb.tr ((backOf_w (by decide)).tr (backOf_w (by decide)))) (fun j hj => ?_) K⟩) (fun z => by omega))
    rw [xi]
    have b1 := (hb.1 k (by omega)).1
    have b2 := (hb.1 k (by omega)).2
    by_cases e : j = k
    · rw [e, xg, xwI_ne (by decide), xg, xwI_ne (by decide)]; exact ⟨b1, b2⟩
    · rw [xgn e, xwI_ne (by decide), xgn e, xwI_ne (by decide)]; exact h1 j (by omega)
theorem m_putsAside {R : (Nat → Nat → Int32) → (Nat → Nat → Int64) → Prop} (K : ∀ I1 : Nat → Nat → Int32, asideOf I I1 → backOf I I1 → R I1 J) : WP ((d + 1), 289, 0, [some (.ref 71), none], [], (xSH L dr tl, I, J)) (fun v M => ∃ (I2 : Nat → Nat → Int32) (J2 : Nat → Nat → Int64), v = none ∧ M = (xSH L dr tl, I2, J2) ∧ R I2 J2) := w289_0 (aside0 (I0 := I) 512 0 0 I rfl rfl backOf_refl (fun j hj => by omega) fun I1 h1 h2 => ⟨I1, J, rfl, rfl, K I1 h1 h2⟩)
theorem aside1b : ∀ (m k : Nat) (i : Int32) (I : Nat → Nat → Int32), k + m = 4 → i.toInt = k → backOf I0 I → (∀ j : Nat, j < 512 → I 122 j = I0 111 j ∧ I 123 j = I0 112 j) → (∀ r : Nat, r < k → I 124 r = I0 114 r ∧ I 125 r = I0 115 r) → (∀ I1 : Nat → Nat → Int32, asideOf I0 I1 → backOf I0 I1 → I1 127 = I 127 → Q none (xSH L dr tl, I1, J)) → WP ((d + 1), 289, 41, [some (.ref 71), some (.int i)], [], (xSH L dr tl, I, J)) Q := by
  intro m
  induction m with
  | zero =>
    intro k i I hk hi hb h1 h2 K
    refine w289_41 (brz lt4 (fun z => by omega) (fun _ => K _ ⟨h1, fun r hr => h2 r (by omega), ?_, fun a g1 g2 g3 g4 g5 g6 => ?_, fun j g1 g2 => ?_⟩ ⟨hb.1, hb.2.1, fun a g1 g2 g3 g4 g5 g6 => ?_, fun j g1 => ?_⟩ rfl))
    · rw [xg]; exact hb.2.2.2 55 (by decide)
    · rw [xwI_ne g1]; exact hb.2.2.1 a g1 g2 g3 g4 g5 g6
    · rw [xgn g2]; exact hb.2.2.2 j g2
    · rw [xwI_ne g1]; exact hb.2.2.1 a g1 g2 g3 g4 g5 g6
    · rw [xgn g1]; exact hb.2.2.2 j g1
  | succ m ih =>
    intro k i I hk hi hb h1 h2 K
    have i1 : (i + 1).toInt = ((k + 1 : Nat) : Int) := by rw [add1 (by omega) (by omega), hi]; rfl
    have xi : xIx i = k := by rw [xIx_ti, hi]; exact Int.toNat_natCast _
    have hx : xin i 4 = true := by rw [xin_iff, hi]; omega
    refine w289_41 (brz lt4 (fun _ => ⟨hx, hx, hx, hx, ih (k + 1) _ _ (by omega) i1 (hb.tr ((backOf_w (by decide)).tr (backOf_w (by decide)))) ?_ (fun r hr => ?_) K⟩) (fun z => by omega))
    · exact h1
    · rw [xi]
      have b1 := (hb.2.1 k (by omega)).1
      have b2 := (hb.2.1 k (by omega)).2
      by_cases e : r = k
      · rw [e, xg, xwI_ne (by decide), xg, xwI_ne (by decide)]; exact ⟨b1, b2⟩
      · rw [xgn e, xwI_ne (by decide), xgn e, xwI_ne (by decide)]; exact h2 r (by omega)
theorem aside0b : ∀ (m k : Nat) (i : Int32) (I : Nat → Nat → Int32), k + m = 512 → i.toInt = k → backOf I0 I → (∀ j : Nat, j < k → I 122 j = I0 111 j ∧ I 123 j = I0 112 j) → (∀ I1 : Nat → Nat → Int32, asideOf I0 I1 → backOf I0 I1 → I1 127 = I 127 → Q none (xSH L dr tl, I1, J)) → WP ((d + 1), 289, 2, [some (.ref 71), some (.int i)], [], (xSH L dr tl, I, J)) Q := by
  intro m
  induction m with
  | zero =>
    intro k i I hk hi hb h1 K
    exact w289_2 (brz lt512 (fun z => by omega) (fun _ => aside1b 4 0 0 I rfl rfl hb (fun j hj => h1 j (by omega)) (fun r hr => by omega) K))
  | succ m ih =>
    intro k i I hk hi hb h1 K
    have i1 : (i + 1).toInt = ((k + 1 : Nat) : Int) := by rw [add1 (by omega) (by omega), hi]; rfl
    have xi : xIx i = k := by rw [xIx_ti, hi]; exact Int.toNat_natCast _
    have hx : xin i 512 = true := by rw [xin_iff, hi]; omega
    refine w289_2 (brz lt512 (fun _ => ⟨hx, hx, hx, hx, ih (k + 1) _ _ (by omega) i1 (hb.tr ((backOf_w (by decide)).tr (backOf_w (by decide)))) (fun j hj => ?_) K⟩) (fun z => by omega))
    rw [xi]
    have b1 := (hb.1 k (by omega)).1
    have b2 := (hb.1 k (by omega)).2
    by_cases e : j = k
    · rw [e, xg, xwI_ne (by decide), xg, xwI_ne (by decide)]; exact ⟨b1, b2⟩
    · rw [xgn e, xwI_ne (by decide), xgn e, xwI_ne (by decide)]; exact h1 j (by omega)
theorem m_putsAside2 {R : (Nat → Nat → Int32) → (Nat → Nat → Int64) → Prop} (K : ∀ I1 : Nat → Nat → Int32, asideOf I I1 → backOf I I1 → I1 127 = I 127 → R I1 J) : WP ((d + 1), 289, 0, [some (.ref 71), none], [], (xSH L dr tl, I, J)) (fun v M => ∃ (I2 : Nat → Nat → Int32) (J2 : Nat → Nat → Int64), v = none ∧ M = (xSH L dr tl, I2, J2) ∧ R I2 J2) := w289_0 (aside0b (I0 := I) 512 0 0 I rfl rfl backOf_refl (fun j hj => by omega) fun I1 h1 h2 h3 => ⟨I1, J, rfl, rfl, K I1 h1 h2 h3⟩)
/-- taking back: the first k signs, the first r readers -/
def backTo (I0 I : Nat → Nat → Int32) (k r : Nat) : Prop := asideOf I0 I ∧ (∀ j : Nat, j < k → I 111 j = I0 111 j ∧ I 112 j = I0 112 j) ∧ ∀ j : Nat, j < r → I 114 j = I0 114 j ∧ I 115 j = I0 115 j
theorem back1 : ∀ (m k : Nat) (i : Int32) (I : Nat → Nat → Int32), k + m = 4 → i.toInt = k → backTo I0 I 512 k → (∀ I1 : Nat → Nat → Int32, backOf I0 I1 → Q none (xSH L dr tl, I1, J)) → WP ((d + 1), 290, 41, [some (.ref 71), some (.int i)], [], (xSH L dr tl, I, J)) Q := by
  intro m
  induction m with
  | zero =>
    intro k i I hk hi hb K
    obtain ⟨⟨h1, h2, h3, h4, h5⟩, b1, b2⟩ := hb
    refine w290_41 (brz lt4 (fun z => by omega) (fun _ => K _ ⟨b1, fun r hr => b2 r (by omega), fun a g1 g2 g3 g4 g5 g6 => ?_, fun j g1 => ?_⟩))
    · rw [xwI_ne g1]; exact h4 a g1 g2 g3 g4 g5 g6
    · by_cases e : j = 55
      · rw [e, xg]; exact h3
      · rw [xgn e]; exact h5 j e g1
  | succ m ih =>
    intro k i I hk hi hb K
    have i1 : (i + 1).toInt = ((k + 1 : Nat) : Int) := by rw [add1 (by omega) (by omega), hi]; rfl
    have xi : xIx i = k := by rw [xIx_ti, hi]; exact Int.toNat_natCast _
    have hx : xin i 4 = true := by rw [xin_iff, hi]; omega
    obtain ⟨h0, b1, b2⟩ := hb
    refine w290_41 (brz lt4 (fun _ => ⟨hx, hx, hx, hx, ih (k + 1) _ _ (by omega) i1 ⟨h0.fr ((frG_w (by decide)).tr (frG_w (by decide))), b1, fun j hj => ?_⟩ K⟩) (fun z => by omega))
    rw [xi]
    have c1 := (h0.2.1 k (by omega)).1
    have c2 := (h0.2.1 k (by omega)).2
    by_cases e : j = k
    · rw [e, xg, xwI_ne (by decide), xg, xwI_ne (by decide)]; exact ⟨c1, c2⟩
    · rw [xgn e, xwI_ne (by decide), xgn e, xwI_ne (by decide)]; exact b2 j (by omega)
theorem back0 : ∀ (m k : Nat) (i : Int32) (I : Nat → Nat → Int32), k + m = 512 → i.toInt = k → backTo I0 I k 0 → (∀ I1 : Nat → Nat → Int32, backOf I0 I1 → Q none (xSH L dr tl, I1, J)) → WP ((d + 1), 290, 2, [some (.ref 71), some (.int i)], [], (xSH L dr tl, I, J)) Q := by
  intro m
  induction m with
  | zero =>
    intro k i I hk hi hb K
    have hk' : k = 512 := by omega
    subst hk'
    exact w290_2 (brz lt512 (fun z => by omega) (fun _ => back1 4 0 0 I rfl rfl hb K))
  | succ m ih =>
    intro k i I hk hi hb K
    have i1 : (i + 1).toInt = ((k + 1 : Nat) : Int) := by rw [add1 (by omega) (by omega), hi]; rfl
    have xi : xIx i = k := by rw [xIx_ti, hi]; exact Int.toNat_natCast _
    have hx : xin i 512 = true := by rw [xin_iff, hi]; omega
    obtain ⟨h0, b1, b2⟩ := hb
    refine w290_2 (brz lt512 (fun _ => ⟨hx, hx, hx, hx, ih (k + 1) _ _ (by omega) i1 ⟨h0.fr ((frG_w (by decide)).tr (frG_w (by decide))), fun j hj => ?_, fun j hj => by omega⟩ K⟩) (fun z => by omega))
    rw [xi]
    have c1 := (h0.1 k (by omega)).1
    have c2 := (h0.1 k (by omega)).2
    by_cases e : j = k
    · rw [e, xg, xwI_ne (by decide), xg, xwI_ne (by decide)]; exact ⟨c1, c2⟩
    · rw [xgn e, xwI_ne (by decide), xgn e, xwI_ne (by decide)]; exact b1 j (by omega)
theorem m_takesBack {R : (Nat → Nat → Int32) → (Nat → Nat → Int64) → Prop} (h : asideOf I0 I) (K : ∀ I1 : Nat → Nat → Int32, backOf I0 I1 → R I1 J) : WP ((d + 1), 290, 0, [some (.ref 71), none], [], (xSH L dr tl, I, J)) (fun v M => ∃ (I2 : Nat → Nat → Int32) (J2 : Nat → Nat → Int64), v = none ∧ M = (xSH L dr tl, I2, J2) ∧ R I2 J2) := w290_0 (back0 (I0 := I0) 512 0 0 I rfl rfl ⟨h, fun j hj => by omega, fun j hj => by omega⟩ fun I1 h1 => ⟨I1, J, rfl, rfl, K I1 h1⟩)
theorem back1b : ∀ (m k : Nat) (i : Int32) (I : Nat → Nat → Int32), k + m = 4 → i.toInt = k → backTo I0 I 512 k → (∀ I1 : Nat → Nat → Int32, backOf I0 I1 → I1 127 = I 127 → Q none (xSH L dr tl, I1, J)) → WP ((d + 1), 290, 41, [some (.ref 71), some (.int i)], [], (xSH L dr tl, I, J)) Q := by
  intro m
  induction m with
  | zero =>
    intro k i I hk hi hb K
    obtain ⟨⟨h1, h2, h3, h4, h5⟩, b1, b2⟩ := hb
    refine w290_41 (brz lt4 (fun z => by omega) (fun _ => K _ ⟨b1, fun r hr => b2 r (by omega), fun a g1 g2 g3 g4 g5 g6 => ?_, fun j g1 => ?_⟩ rfl))
    · rw [xwI_ne g1]; exact h4 a g1 g2 g3 g4 g5 g6
    · by_cases e : j = 55
      · rw [e, xg]; exact h3
      · rw [xgn e]; exact h5 j e g1
  | succ m ih =>
    intro k i I hk hi hb K
    have i1 : (i + 1).toInt = ((k + 1 : Nat) : Int) := by rw [add1 (by omega) (by omega), hi]; rfl
    have xi : xIx i = k := by rw [xIx_ti, hi]; exact Int.toNat_natCast _
    have hx : xin i 4 = true := by rw [xin_iff, hi]; omega
    obtain ⟨h0, b1, b2⟩ := hb
    refine w290_41 (brz lt4 (fun _ => ⟨hx, hx, hx, hx, ih (k + 1) _ _ (by omega) i1 ⟨h0.fr ((frG_w (by decide)).tr (frG_w (by decide))), b1, fun j hj => ?_⟩ K⟩) (fun z => by omega))
    rw [xi]
    have c1 := (h0.2.1 k (by omega)).1
    have c2 := (h0.2.1 k (by omega)).2
    by_cases e : j = k
    · rw [e, xg, xwI_ne (by decide), xg, xwI_ne (by decide)]; exact ⟨c1, c2⟩
    · rw [xgn e, xwI_ne (by decide), xgn e, xwI_ne (by decide)]; exact b2 j (by omega)
theorem back0b : ∀ (m k : Nat) (i : Int32) (I : Nat → Nat → Int32), k + m = 512 → i.toInt = k → backTo I0 I k 0 → (∀ I1 : Nat → Nat → Int32, backOf I0 I1 → I1 127 = I 127 → Q none (xSH L dr tl, I1, J)) → WP ((d + 1), 290, 2, [some (.ref 71), some (.int i)], [], (xSH L dr tl, I, J)) Q := by
  intro m
  induction m with
  | zero =>
    intro k i I hk hi hb K
    have hk' : k = 512 := by omega
    subst hk'
    exact w290_2 (brz lt512 (fun z => by omega) (fun _ => back1b 4 0 0 I rfl rfl hb K))
  | succ m ih =>
    intro k i I hk hi hb K
    have i1 : (i + 1).toInt = ((k + 1 : Nat) : Int) := by rw [add1 (by omega) (by omega), hi]; rfl
    have xi : xIx i = k := by rw [xIx_ti, hi]; exact Int.toNat_natCast _
    have hx : xin i 512 = true := by rw [xin_iff, hi]; omega
    obtain ⟨h0, b1, b2⟩ := hb
    refine w290_2 (brz lt512 (fun _ => ⟨hx, hx, hx, hx, ih (k + 1) _ _ (by omega) i1 ⟨h0.fr ((frG_w (by decide)).tr (frG_w (by decide))), fun j hj => ?_, fun j hj => by omega⟩ K⟩) (fun z => by omega))
    rw [xi]
    have c1 := (h0.1 k (by omega)).1
    have c2 := (h0.1 k (by omega)).2
    by_cases e : j = k
    · rw [e, xg, xwI_ne (by decide), xg, xwI_ne (by decide)]; exact ⟨c1, c2⟩
    · rw [xgn e, xwI_ne (by decide), xgn e, xwI_ne (by decide)]; exact b1 j (by omega)
theorem m_takesBack2 {R : (Nat → Nat → Int32) → (Nat → Nat → Int64) → Prop} (h : asideOf I0 I) (K : ∀ I1 : Nat → Nat → Int32, backOf I0 I1 → I1 127 = I 127 → R I1 J) : WP ((d + 1), 290, 0, [some (.ref 71), none], [], (xSH L dr tl, I, J)) (fun v M => ∃ (I2 : Nat → Nat → Int32) (J2 : Nat → Nat → Int64), v = none ∧ M = (xSH L dr tl, I2, J2) ∧ R I2 J2) := w290_0 (back0b (I0 := I0) 512 0 0 I rfl rfl ⟨h, fun j hj => by omega, fun j hj => by omega⟩ fun I1 h1 h2 => ⟨I1, J, rfl, rfl, K I1 h1 h2⟩)
theorem allDone_loop (hm : MB S I J) (h3 : isP S a1.toInt a3.toInt) : ∀ (m k : Nat) (i : Int32), ((k + m : Nat) : Int) = a3.toInt + 1 → i.toInt = k → PB ((d + 2), 291, 3, [some (.ref 71), some (.int a1), none, some (.int a3), some (.int i)], [], (xSH L dr tl, I, J)) (allF (fun j => S 16 (slot a1.toInt j) = 0) k (a3.toInt + 1).toNat) (xSH L dr tl, I, J) := by
  have hB := isP_b hm.1 h3
  intro m
  induction m with
  | zero =>
    intro k i hk hi
    exact w291_3 (brz lt_ti (fun _ => ⟨1, rfl, Or.inl ⟨rfl, allF_e (by omega)⟩, rfl⟩) (fun z => by omega))
  | succ m ih =>
    intro k i hk hi
    have hP : isP S a1.toInt i.toInt := ⟨h3.1, by omega, by have := h3.2.2; omega⟩
    have i1 : (i + 1).toInt = ((k + 1 : Nat) : Int) := by rw [add1 (by omega) (by omega), hi]; rfl
    have h0 := (sign_b hm.1 hP).2.2.1
    rw [hi] at h0
    refine w291_3 (brz lt_ti (fun z => by omega) (fun _ => (m_isWet hm.1 hm.2.2 hP (slot_m hm.1 hP).1).u (fun y => br1 ⟨0, rfl, Or.inr ⟨rfl, allF_f (fun z => ?_) (by omega)⟩, rfl⟩) (fun y => br0 ?_)))
    · rw [hi] at y
      have y' : 0 < S 16 (slot a1.toInt k) := by simpa [such] using y
      omega
    · rw [hi] at y
      have y' : ¬ 0 < S 16 (slot a1.toInt k) := by simpa [such] using y
      rw [← allF_s (P := fun j : Nat => S 16 (slot a1.toInt j) = 0) (k := k) (by omega)]
      exact ih (k + 1) _ (by omega) i1
theorem m_allDone (hm : MB S I J) (h2 : 0 ≤ a2.toInt) (h3 : isP S a1.toInt a3.toInt) (le : a2.toInt ≤ a3.toInt) : PB ((d + 2), 291, 0, [some (.ref 71), some (.int a1), some (.int a2), some (.int a3), none], [], (xSH L dr tl, I, J)) (allF (fun j => S 16 (slot a1.toInt j) = 0) a2.toInt.toNat (a3.toInt + 1).toNat) (xSH L dr tl, I, J) := w291_0 (allDone_loop hm h3 (a3.toInt + 1 - a2.toInt).toNat a2.toInt.toNat a2 (by omega) (by omega))
theorem reading_loop (hm : MB S I J) : ∀ (m k : Nat) (i : Int32), ((k + m : Nat) : Int) = sNR S → i.toInt = k → (∀ r : Nat, r < k → S 19 r = -1) → PB ((d + 2), 292, 2, [some (.ref 71), some (.int i)], [], (xSH L dr tl, I, J)) (reads S) (xSH L dr tl, I, J) := by
  have hN := hm.1.2.2.2.1
  intro m
  induction m with
  | zero =>
    intro k i hk hi h
    refine w292_2 ((m_people hm.2.1).u fun r1 g1 => brz lt_ti (fun z => by omega) (fun _ => ⟨0, rfl, Or.inr ⟨rfl, ?_⟩, rfl⟩))
    rintro ⟨r, z1, z2⟩
    exact z2 (h r (by omega))
  | succ m ih =>
    intro k i hk hi h
    have i1 : (i + 1).toInt = ((k + 1 : Nat) : Int) := by rw [add1 (by omega) (by omega), hi]; rfl
    have xi : xIx i = k := by rw [xIx_ti, hi]; exact Int.toNat_natCast _
    have e19 := (hm.2.2.2.2 k (by omega)).1
    refine w292_2 ((m_people hm.2.1).u fun r1 g1 => brz lt_ti (fun _ => ⟨by rw [xin_iff, hi]; omega, ?_⟩) (fun z => by omega))
    rw [xi]
    refine brz eqm (fun y => ih (k + 1) _ (by omega) i1 (fun r hr => ?_)) (fun y => ⟨1, rfl, Or.inl ⟨rfl, k, by omega, fun z => y (e19.trans z)⟩, rfl⟩)
    by_cases e : r = k
    · rw [e]; exact e19.symm.trans y
    · exact h r (by omega)
theorem m_reading (hm : MB S I J) : PB ((d + 2), 292, 0, [some (.ref 71), none], [], (xSH L dr tl, I, J)) (reads S) (xSH L dr tl, I, J) := w292_0 (reading_loop hm (sNR S).toNat 0 0 (by have := hm.1.2.2.2.1.1; omega) rfl (fun r hr => by omega))
end ASIDE
