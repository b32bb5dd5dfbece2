/-! ===== eyes go over a sign ===== -/
/-- n eyes go over a sign in the hour t -/
def seenS (S : aS) (x : Nat) (n t : Int) : aS := if 0 < S 16 x then ink3 S x (S 15 x) (max 0 (S 16 x - n)) t else S
def seenN (S : aS) (x : Nat) (n : Int) : Int := if 0 < S 16 x ∧ S 16 x ≤ n then 1 else 0
section SEEN
variable {S T : aS} {L d dr tl : Nat} {I I2 : Nat → Nat → Int32} {J : Nat → Nat → Int64} {a1 a2 a3 a4 : Int32} {x j : Nat} {v e t n : Int}
theorem CInv.made (q : CInv S dr tl I J) (hv : 0 ≤ v ∧ v ≤ 26) (he : 0 ≤ e ∧ e ≤ 99) (h0 : v = 0 → e = 0) (oth : ∀ a : Nat, a ≠ 55 → a ≠ 56 → a ≠ 57 → I2 a = I a)
    (x55 : (I2 55 x).toInt = v) (o55 : ∀ j, j ≠ x → I2 55 j = I 55 j) (x56 : (I2 56 x).toInt = e) (o56 : ∀ j, j ≠ x → I2 56 j = I 56 j)
    (x57 : v ≠ 0 → e = 0 → (I2 57 x).toInt = t) (o57 : ∀ j, j ≠ x → I2 57 j = I 57 j) : CInv (ink3 S x v e t) dr tl I2 J := by
  obtain ⟨g1, g2, g3, g4, g5, g6, g7, g8, g9, g10, g11, g12⟩ := q
  have c : ∀ a : Nat, a < 55 ∨ 57 < a → I2 a = I a := fun a ha => oth a (by omega) (by omega) (by omega)
  refine ⟨g1.inked hv he h0, g2, g3, ?_, ?_, ?_, ?_, ?_, ?_, ?_, g11, ?_⟩
  · unfold CIo at *
    rw [c (8 + 1) (by decide), c (8 + 4) (by decide), c (8 + 7) (by decide), c (8 + 10) (by decide), c (31 + 1) (by decide), c (31 + 4) (by decide), c (31 + 7) (by decide), c (31 + 10) (by decide), c 23 (by decide), c 46 (by decide)]
    exact g4
  · have b : CIb S tl I2 := by
      unfold CIb at *
      rw [c tl (by omega), c (tl + 1) (by omega), c (tl + 2) (by omega), c (tl + 3) (by omega), c (tl + 4) (by omega), c (tl + 6) (by omega), c (tl + 7) (by omega), c (tl + 8) (by omega), c (tl + 9) (by omega), c (tl + 10) (by omega), c (tl + 11) (by omega), c (tl + 12) (by omega), c (tl + 13) (by omega), c (tl + 14) (by omega), c (tl + 15) (by omega), c (tl + 17) (by omega), c (tl + 19) (by omega), c (tl + 20) (by omega), c (tl + 21) (by omega)]
      exact g5
    exact b
  · refine ⟨by rw [c 30 (by decide)]; exact g6.1, fun l p hp => ?_, by rw [c 60 (by decide), c 61 (by decide)]; exact g6.2.2⟩
    obtain ⟨k1, k2, k3, k4⟩ := g6.2.1 l p hp
    have k4' : (I2 58 (slot l p)).toInt = S 18 (slot l p) := by rw [c 58 (by decide)]; exact k4
    by_cases ex : slot l p = x
    · rw [ex] at k4' ⊢
      rw [ink15, ink16, ink17]
      exact ⟨x55, x56, x57, k4'⟩
    · rw [ink15n ex, ink16n ex, ink17n ex, o55 _ ex, o56 _ ex, o57 _ ex]
      exact ⟨k1, k2, k3, k4'⟩
  · have b : CIc S I2 := by unfold CIc at *; rw [c 53 (by decide), c 54 (by decide)]; exact g7
    exact b
  · have b : CIt S I2 := by unfold CIt at *; rw [c 3 (by decide), c 4 (by decide)]; exact g8
    exact b
  · have b : CIp S I2 := by unfold CIp at *; rw [c 5 (by decide), c 6 (by decide)]; exact g9
    exact b
  · have b : CIf S I2 := by unfold CIf at *; rw [c 7 (by decide)]; exact g10
    exact b
  · unfold HC at *; rw [c 64 (by decide), c 66 (by decide), c 62 (by decide)]; exact g12
theorem seenS_f {f : Nat} (h1 : f ≠ 15) (h2 : f ≠ 16) (h3 : f ≠ 17) : seenS S x n t f = S f := by
  unfold seenS
  by_cases h : 0 < S 16 x
  · rw [if_pos h]
    funext k
    unfold ink3 sset
    rw [if_neg (fun z => h3 z.1), if_neg (fun z => h2 z.1), if_neg (fun z => h1 z.1)]
  · rw [if_neg h]
theorem seenN_b : 0 ≤ seenN S x n ∧ seenN S x n ≤ 1 := by unfold seenN; split <;> omega
/-- giveEyes -/
theorem s_giveEyes {R : Int32 → (Nat → Nat → Int32) → (Nat → Nat → Int64) → Prop} (q : CInv S dr tl I J) (hP : isP S a1.toInt a2.toInt) (hn : 0 ≤ a3.toInt ∧ a3.toInt ≤ 1000)
    (K : ∀ (r : Int32) (I1 : Nat → Nat → Int32), r.toInt = seenN S (slot a1.toInt a2.toInt) a3.toInt → keepM I I1 J J → CInv (seenS S (slot a1.toInt a2.toInt) a3.toInt a4.toInt) dr tl I1 J → R r I1 J) :
    WP ((d + 4), 147, 0, [some (.ref 30), some (.int a1), some (.int a2), some (.int a3), some (.int a4), none], [], (xSH L dr tl, I, J)) (fun v M => ∃ (r : Int32) (I2 : Nat → Nat → Int32) (J2 : Nat → Nat → Int64), v = some (.int r) ∧ M = (xSH L dr tl, I2, J2) ∧ R r I2 J2) := by
  have hc := q.cb
  obtain ⟨s1, s2, s3⟩ := slot_c hc.1 hP
  obtain ⟨k1, k2, k3, k4⟩ := hc.2.2.2.2.1 _ _ hP
  have hb := hc.1.2.2.2.2.2.2.2.1 _ _ hP
  refine w147_0 ((s_isSuch hc).u (fun z => br1 (s_slot.i ?_)) (fun z => br0 ⟨0, I, J, rfl, rfl, K 0 I ?_ keepM_refl ?_⟩))
  · have wet : 0 < S 16 (slot a1.toInt a2.toInt) := by have := z.2; simpa [such] using this
    rw [s2]
    have e1 : (I 56 (slot a1.toInt a2.toInt) - a3).toInt = S 16 (slot a1.toInt a2.toInt) - a3.toInt := by rw [sub_ti (by rw [k2]; omega) (by rw [k2]; omega), k2]
    refine ⟨s3, s_max.u fun r4 e4 => ⟨s3, s3, ?_⟩⟩
    rw [e1] at e4
    have e4' : r4.toInt = max 0 (S 16 (slot a1.toInt a2.toInt) - a3.toInt) := e4
    rw [xg]
    refine brz gt0 (fun z => ⟨0, _, J, rfl, rfl, K 0 _ ?_ (keepM_I (by decide)) ?_⟩) (fun z => ⟨s3, 1, _, J, rfl, rfl, K 1 _ ?_ ((keepM_I (by decide)).tr (keepM_I (by decide))) ?_⟩)
    · unfold seenN; rw [if_neg (by omega)]; rfl
    · unfold seenS; rw [if_pos wet]
      refine q.made ⟨hb.1, hb.2.1⟩ (by omega) (fun z => by have := hb.2.2.2.2.1 z; omega) (fun a g1 g2 g3 => xwI_ne g2) ?_ (fun j hj => ?_) ?_ (fun j hj => xgn hj) (fun _ z2 => by omega) (fun j hj => ?_)
      · rw [xwI_ne (by decide)]; exact k1
      · rw [xwI_ne (by decide)]
      · rw [xg]; exact e4'
      · rw [xwI_ne (by decide)]
    · unfold seenN; rw [if_pos ⟨wet, by omega⟩]; rfl
    · unfold seenS; rw [if_pos wet]
      refine q.made ⟨hb.1, hb.2.1⟩ (by omega) (fun z => by have := hb.2.2.2.2.1 z; omega) (fun a g1 g2 g3 => by rw [xwI_ne g3, xwI_ne g2]) ?_ (fun j hj => ?_) ?_ (fun j hj => ?_) (fun _ z2 => ?_) (fun j hj => ?_)
      · rw [xwI_ne (by decide), xwI_ne (by decide)]; exact k1
      · rw [xwI_ne (by decide), xwI_ne (by decide)]
      · rw [xwI_ne (by decide), xg]; exact e4'
      · rw [xwI_ne (by decide), xgn hj]
      · rw [xg]
      · rw [xgn hj, xwI_ne (by decide)]
  · have dry : ¬ 0 < S 16 (slot a1.toInt a2.toInt) := fun y => z ⟨hP, by simpa [such] using y⟩
    unfold seenN; rw [if_neg (fun y => dry y.1)]; rfl
  · have dry : ¬ 0 < S 16 (slot a1.toInt a2.toInt) := fun y => z ⟨hP, by simpa [such] using y⟩
    unfold seenS; rw [if_neg dry]; exact q
/-- what an hour of the reference touches -/
def frG (I I1 : Nat → Nat → Int32) : Prop := (∀ a : Nat, a ≠ 71 → a ≠ 111 → a ≠ 112 → a ≠ 114 → a ≠ 115 → I1 a = I a) ∧ ∀ j : Nat, j ≠ 55 → I1 71 j = I 71 j
theorem frG_refl {I : Nat → Nat → Int32} : frG I I := ⟨fun _ _ _ _ _ _ => rfl, fun _ _ => rfl⟩
theorem frG.tr {I I1 I2 : Nat → Nat → Int32} (h : frG I I1) (h' : frG I1 I2) : frG I I2 := ⟨fun a g1 g2 g3 g4 g5 => (h'.1 a g1 g2 g3 g4 g5).trans (h.1 a g1 g2 g3 g4 g5), fun j hj => (h'.2 j hj).trans (h.2 j hj)⟩
theorem frG.kc {I I1 : Nat → Nat → Int32} {J : Nat → Nat → Int64} (h : frG I I1) : keepC I I1 J J := fun a ha => ⟨h.1 a (by omega) (by omega) (by omega) (by omega) (by omega), rfl⟩
theorem frG_w {I : Nat → Nat → Int32} {a k : Nat} {v : Int32} (h : a = 111 ∨ a = 112 ∨ a = 114 ∨ a = 115) : frG I (xwI I a k v) := ⟨fun b _ g2 g3 g4 g5 => xwI_ne (by omega), fun j _ => by rw [xwI_ne (by omega)]⟩
theorem frG_h {I : Nat → Nat → Int32} {v : Int32} : frG I (xwI I 71 55 v) := ⟨fun b g1 _ _ _ _ => xwI_ne g1, fun j hj => xgn hj⟩
/-- seen -/
theorem m_seen {l p : Int} {R : Int32 → (Nat → Nat → Int32) → (Nat → Nat → Int64) → Prop} (q : MInv S I J) (hP : isP S l p) (ea : a1.toInt = 64 * l + p) (hn : 0 ≤ a2.toInt ∧ a2.toInt ≤ 1000)
    (K : ∀ (r : Int32) (I1 : Nat → Nat → Int32), r.toInt = seenN S (slot l p) a2.toInt → frG I I1 → MInv (seenS S (slot l p) a2.toInt a3.toInt) I1 J → R r I1 J) :
    WP ((d + 2), 255, 0, [some (.ref 71), some (.int a1), some (.int a2), some (.int a3)], [], (xSH L dr tl, I, J)) (fun v M => ∃ (r : Int32) (I2 : Nat → Nat → Int32) (J2 : Nat → Nat → Int64), v = some (.int r) ∧ M = (xSH L dr tl, I2, J2) ∧ R r I2 J2) := by
  have hm := q.mb
  have hB := isP_b q.1 hP
  obtain ⟨k1, k2, k3, k4⟩ := hm.2.2.2.1 _ _ hP
  have hb := q.1.2.2.2.2.2.2.2.1 _ _ hP
  have x0 : xIx a1 = slot l p := by rw [xIx_ti, ea]; rfl
  have hx : xin a1 512 = true := by rw [xin_iff, ea]; omega
  have cc : ∀ I1 : Nat → Nat → Int32, (∀ a : Nat, a ≠ 111 → a ≠ 112 → I1 a = I a) → MIc S I1 := by
    intro I1 o
    have g := q.2.2.2.2.1
    unfold MIc at *
    rw [o 71 (by decide) (by decide), o 116 (by decide) (by decide), o 117 (by decide) (by decide), o 118 (by decide) (by decide)]; exact g
  refine w255_0 ((m_isWet q.1 hm.2.2 hP ea).u (fun z => br1 ⟨hx, ?_⟩) (fun z => br0 ⟨0, I, J, rfl, rfl, K 0 I ?_ frG_refl ?_⟩))
  · have wet : 0 < S 16 (slot l p) := by simpa [such] using z
    rw [x0]
    have one : ∀ b : Int32, b.toInt = max 0 (S 16 (slot l p) - a2.toInt) → ((0 < b → ∃ (r : Int32) (I2 : Nat → Nat → Int32) (J2 : Nat → Nat → Int64), some (Value.int 0) = some (.int r) ∧ (xSH L dr tl, (xwI I 111 (slot l p) b), J) = (xSH L dr tl, I2, J2) ∧ R r I2 J2) ∧ (¬ 0 < b → (xin a1 512 = true ∧ ∃ (r : Int32) (I2 : Nat → Nat → Int32) (J2 : Nat → Nat → Int64), some (Value.int 1) = some (.int r) ∧ (xSH L dr tl, (xwI (xwI I 111 (slot l p) b) 112 (slot l p) a3), J) = (xSH L dr tl, I2, J2) ∧ R r I2 J2))) := by
      intro b eb
      refine brz gt0 (fun z => ⟨0, _, J, rfl, rfl, K 0 _ ?_ (frG_w (by decide)) ?_⟩) (fun z => ⟨hx, 1, _, J, rfl, rfl, K 1 _ ?_ ((frG_w (by decide)).tr (frG_w (by decide))) ?_⟩)
      · unfold seenN; rw [if_neg (by omega)]; rfl
      · unfold seenS; rw [if_pos wet]
        refine q.made (Or.inl rfl) q.1 ⟨hb.1, hb.2.1⟩ (by omega) (fun z => by have := hb.2.2.2.2.1 z; omega) (cc _ fun a g1 g2 => xwI_ne g1) (fun a g1 g2 g3 g4 g5 g6 g7 => xwI_ne g3) (fun j _ _ => by rw [xwI_ne (by decide)]) ?_ (fun j hj => ?_) ?_ (fun j hj => xgn hj) (fun _ z2 => by omega) (fun j hj => ?_)
        · rw [xwI_ne (by decide)]; exact k1
        · rw [xwI_ne (by decide)]
        · rw [xg]; exact eb
        · rw [xwI_ne (by decide)]
      · unfold seenN; rw [if_pos ⟨wet, by omega⟩]; rfl
      · unfold seenS; rw [if_pos wet]
        refine q.made (Or.inl rfl) q.1 ⟨hb.1, hb.2.1⟩ (by omega) (fun z => by have := hb.2.2.2.2.1 z; omega) (cc _ fun a g1 g2 => by rw [xwI_ne g2, xwI_ne g1]) (fun a g1 g2 g3 g4 g5 g6 g7 => by rw [xwI_ne g4, xwI_ne g3]) (fun j _ _ => by rw [xwI_ne (by decide), xwI_ne (by decide)]) ?_ (fun j hj => ?_) ?_ (fun j hj => ?_) (fun _ z2 => ?_) (fun j hj => ?_)
        · rw [xwI_ne (by decide), xwI_ne (by decide)]; exact k1
        · rw [xwI_ne (by decide), xwI_ne (by decide)]
        · rw [xwI_ne (by decide), xg]; exact eb
        · rw [xwI_ne (by decide), xgn hj]
        · rw [xg]
        · rw [xgn hj, xwI_ne (by decide)]
    rw [xg, xg]
    refine brz lt_ti (fun g => ⟨hx, hx, hx, one _ ?_⟩) (fun g => ⟨hx, hx, one _ ?_⟩)
    · rw [k2] at g
      rw [sub_ti (by rw [k2]; omega) (by rw [k2]; omega), k2]; omega
    · rw [k2] at g
      show (0 : Int) = _
      omega
  · have dry : ¬ 0 < S 16 (slot l p) := fun y => z (by simpa [such] using y)
    unfold seenN; rw [if_neg (fun y => dry y.1)]; rfl
  · have dry : ¬ 0 < S 16 (slot l p) := fun y => z (by simpa [such] using y)
    unfold seenS; rw [if_neg dry]; exact q
end SEEN
