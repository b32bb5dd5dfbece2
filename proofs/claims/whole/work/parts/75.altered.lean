/-! ===== altered: how many places bear another letter than at an hour ===== -/
theorem stood_skip {S : aS} {x h : Int} {m : Nat} : ∀ (j k : Nat), (∀ i, k ≤ i → i < k + j → ¬ h < S 21 i) → stoodV S x h (j + m) k = stoodV S x h m (k + j) := by
  intro j
  induction j with
  | zero => intro k _; rw [Nat.zero_add, Nat.add_zero]
  | succ j ih =>
    intro k hh
    rw [show j + 1 + m = (j + m) + 1 by omega, stoodV_n (fun z => hh k (Nat.le_refl _) (by omega) z.2), ih (k + 1) (fun i h1 h2 => hh i (by omega) (by omega)), show k + 1 + j = k + (j + 1) by omega]
def altF (S : aS) (l h : Int) (p : Nat) : Bool := decide (stoodV S (64 * l + p) h (sNC S).toNat 0 ≠ S 15 (slot l p))
def ansAltered (S : aS) (l h : Int) : Int := if isL S l ∧ 0 ≤ h ∧ h ≤ sHr S then cntB (altF S l h) (plc S l).toNat else -1
section ALTERED
variable {S : aS} {L d dr tl : Nat} {I : Nat → Nat → Int32} {J : Nat → Nat → Int64} {a1 a2 a3 a4 : Int32}
theorem CInv.c59 {k : Nat} {x : Int32} (h : CInv S dr tl I J) : CInv S dr tl (xwI I 59 k x) J := by
  obtain ⟨g1, g2, g3, g4, g5, g6, g7, g8, g9, g10, g11, g12⟩ := h
  rcases g3 with ⟨rfl, rfl⟩ | ⟨rfl, rfl⟩
  · exact ⟨g1, g2, Or.inl ⟨rfl, rfl⟩, g4, g5, g6, g7, g8, g9, g10, g11, g12⟩
  · exact ⟨g1, g2, Or.inr ⟨rfl, rfl⟩, g4, g5, g6, g7, g8, g9, g10, g11, g12⟩
theorem c_alt3 {h : Int} (q : CInv S dr tl I J) (hI : ∀ j : Nat, (j : Int) < plc S a1.toInt → (I 59 j).toInt = stoodV S (64 * a1.toInt + j) h (sNC S).toNat 0) : ∀ (m k : Nat) (c p : Int32), (k + m : Nat) = (plc S a1.toInt).toNat → p.toInt = k → c.toInt = cntB (altF S a1.toInt h) k → PI ((d + 4), 158, 123, [some (.ref 30), some (.int a1), none, some (.int c), some (.int p)], [], (xSH L dr tl, I, J)) (cntB (altF S a1.toInt h) (plc S a1.toInt).toNat) (xSH L dr tl, I, J) := by
  have hc := q.cb
  have hpl := plc_le hc.1 a1.toInt
  intro m
  induction m with
  | zero =>
    intro k c p hk hp hcn
    refine w158_123 hc.2.1 ((s_placesOf hc.1 hc.2.1 hc.2.2.1).u fun r hr => brz lt_ti (fun h => ?_) (fun h => ⟨c, rfl, ?_, rfl⟩))
    · rw [hr, hp] at h; omega
    · rw [hcn, ← hk]; rfl
  | succ m ih =>
    intro k c p hk hp hcn
    have hkp : (k : Int) < plc S a1.toInt := by omega
    have hP : isP S a1.toInt k := plc_lt hkp
    have hb := cntB_b (altF S a1.toInt h) k
    have e1 : (p + 1).toInt = ((k + 1 : Nat) : Int) := by rw [add1 (by omega) (by omega), hp]; rfl
    have hx : xin p 64 = true := by rw [xin_iff, hp]; omega
    have hi : (I 59 (xIx p)).toInt = stoodV S (64 * a1.toInt + k) h (sNC S).toNat 0 := by rw [xIx_ti, hp, Int.toNat_natCast]; exact hI k hkp
    refine w158_123 hc.2.1 ((s_placesOf hc.1 hc.2.1 hc.2.2.1).u fun r hr => brz lt_ti (fun h => ⟨hx, (s_letterAt hc).u fun r3 h3 => brz eq_ti (fun g => ih (k + 1) _ _ (by omega) e1 ?_) (fun g => ih (k + 1) _ _ (by omega) e1 ?_)⟩) (fun h => ?_))
    · rw [hp, if_pos hP] at h3
      rw [hi, h3] at g
      rw [hcn]; simp only [cntB]; rw [if_neg (by rw [altF, decide_eq_true_eq]; exact fun z => z g)]; omega
    · rw [hp, if_pos hP] at h3
      rw [hi, h3] at g
      rw [add1 (by omega) (by omega), hcn]; simp only [cntB]; rw [if_pos (by rw [altF, decide_eq_true_eq]; exact g)]
    · rw [hr, hp] at h; omega
abbrev altPost (S : aS) (L dr tl : Nat) (I : Nat → Nat → Int32) (J : Nat → Nat → Int64) (z : Int) : Option Value → xMem → Prop := fun v M => ∃ (r : Int32) (I1 : Nat → Nat → Int32) (J1 : Nat → Nat → Int64), v = some (.int r) ∧ r.toInt = z ∧ M = (xSH L dr tl, I1, J1) ∧ keepM I I1 J J1 ∧ CInv S dr tl I1 J1
theorem c_alt2 : ∀ (k : Nat) (i : Int32) (I : Nat → Nat → Int32), i.toInt = (k : Int) - 1 → (k : Int) ≤ sNC S → CInv S dr tl I J → (∀ j : Nat, (j : Int) < plc S a1.toInt → (I 59 j).toInt = stoodV S (64 * a1.toInt + j) a2.toInt ((sNC S).toNat - k) k) → WP ((d + 4), 158, 42, [some (.ref 30), some (.int a1), some (.int a2), some (.int i), none], [], (xSH L dr tl, I, J)) (altPost S L dr tl I J (cntB (altF S a1.toInt a2.toInt) (plc S a1.toInt).toNat)) := by
  intro k
  induction k with
  | zero =>
    intro i I hi hk q hI
    have hc := q.cb
    refine w158_42 hc.2.1 (brz lt0 (fun h => WP.mono (c_alt3 (h := a2.toInt) q hI (plc S a1.toInt).toNat 0 0 0 (by omega) rfl rfl) (fun v M z => ?_)) (fun h => by omega))
    obtain ⟨r, z1, z2, z3⟩ := z
    exact ⟨r, I, J, z1, z2, z3, keepM_refl, q⟩
  | succ k ih =>
    intro i I hi hk q hI
    have hc := q.cb
    have hcc := q.2.2.2.2.2.2.1
    have hn := hc.1.2.2.2.2.2.2.2.2.2.1
    have hik : i.toInt = k := by omega
    have hks : (k : Int) < sNC S := by omega
    obtain ⟨t0, t1, t2, t3⟩ := s_tellAt (d := d + 2) (L := L) (dr := dr) (tl := tl) (J := J) (k := k) hc.1 hcc hks hik
    obtain ⟨l, p, hP, he⟩ := (hn.2.2 k hks).2.2.1
    have hB := isP_b hc.1 hP
    have ei : (i + (-1)).toInt = (k : Int) - 1 := by
      have z : (i + (-1)).toInt = i.toInt + (-1) := add_ti (by show _ ≤ i.toInt + (-1); omega) (by show i.toInt + (-1) < _; omega)
      rw [z]; omega
    have ef : (sNC S).toNat - k = ((sNC S).toNat - (k + 1)) + 1 := by omega
    have stay : ¬ S 22 k / 64 = a1.toInt → ∀ j : Nat, (j : Int) < plc S a1.toInt → (I 59 j).toInt = stoodV S (64 * a1.toInt + j) a2.toInt ((sNC S).toNat - k) k := fun g j hj => by
      have := plc_le hc.1 a1.toInt
      rw [hI j hj, ef, stoodV_n (fun z => g (by omega))]
    refine w158_42 hc.2.1 (brz lt0 (fun h => by omega) (fun h => t0.u fun r2 h2 => brz lt_ti (fun g => t2.u fun r4 h4 => t1.u fun r5 h5 => brz eq_ti (fun g1 => (s_hasPlace hc.1 hc.2.1 hc.2.2.1).u (fun y => br1 (t3.u fun r9 h9 => ⟨?_, ?_⟩)) (fun y => ?_)) (fun g1 => ih _ I ei (by omega) q (stay ?_))) (fun g => WP.mono (c_alt3 (h := a2.toInt) q ?_ (plc S a1.toInt).toNat 0 0 0 (by omega) rfl rfl) (fun v M z => ?_))))
    · rw [xin_iff, h4]; omega
    · rw [h2] at g; rw [h5] at g1
      have ex : xIx r4 = (S 22 k % 64).toNat := by rw [xIx_ti, h4]
      refine WP.mono (ih _ (xwI I 59 (xIx r4) r9) ei (by omega) q.c59 (fun j hj => ?_)) (fun v M z => ?_)
      · have := plc_le hc.1 a1.toInt
        rw [ef]
        by_cases ej : j = xIx r4
        · rw [← ej, xg, h9, stoodV_y ⟨by rw [ex] at ej; omega, g⟩]
        · rw [xgn ej, hI j hj, stoodV_n (fun z => ej (by rw [ex]; omega))]
      · obtain ⟨r, I1, J1, z1, z2, z3, z4, z5⟩ := z
        exact ⟨r, I1, J1, z1, z2, z3, (keepM_I (by decide)).tr z4, z5⟩
    · exfalso
      rw [h5] at g1
      refine y ?_
      rw [h4, ← g1, show S 22 k / 64 = l by omega, show S 22 k % 64 = p by omega]
      exact hP
    · rw [h5] at g1; exact g1
    · rw [h2] at g
      intro j hj
      rw [hI j hj]
      have sk := stood_skip (S := S) (x := 64 * a1.toInt + j) (h := a2.toInt) (m := (sNC S).toNat - (k + 1)) (k + 1) 0 (fun i' h1 h2' => by
        by_cases e : i' = k
        · rw [e]; exact g
        · have := (hn.2.2 k hks).2.2.2.2.2 i' (by omega)
          omega)
      rw [show k + 1 + ((sNC S).toNat - (k + 1)) = (sNC S).toNat by omega, Nat.zero_add] at sk
      exact sk.symm
    · obtain ⟨r, z1, z2, z3⟩ := z
      exact ⟨r, I, J, z1, z2, z3, keepM_refl, q⟩
theorem c_alt1 : ∀ (m k : Nat) (p : Int32) (I : Nat → Nat → Int32), (k + m : Nat) = (plc S a1.toInt).toNat → p.toInt = k → CInv S dr tl I J → (∀ j : Nat, j < k → (I 59 j).toInt = S 15 (slot a1.toInt j)) → WP ((d + 4), 158, 2, [some (.ref 30), some (.int a1), some (.int a2), some (.int p), none], [], (xSH L dr tl, I, J)) (altPost S L dr tl I J (cntB (altF S a1.toInt a2.toInt) (plc S a1.toInt).toNat)) := by
  intro m
  induction m with
  | zero =>
    intro k p I hk hp q hI
    have hc := q.cb
    have hpl := plc_le hc.1 a1.toInt
    have hcc := q.2.2.2.2.2.2.1
    have hn := hc.1.2.2.2.2.2.2.2.2.2.1
    have h21 : ∀ {d : Nat}, PI ((d + 1), 21, 0, [some (.ref 53)], [], (xSH L dr tl, I, J)) (sNC S) (xSH L dr tl, I, J) := w21_0 ⟨_, rfl, hcc.1, rfl⟩
    refine w158_2 hc.2.1 ((s_placesOf hc.1 hc.2.1 hc.2.2.1).u fun r hr => brz lt_ti (fun h => ?_) (fun h => h21.u fun r3 h3 => c_alt2 (sNC S).toNat _ I ?_ ?_ q ?_))
    · rw [hr, hp] at h; omega
    · rw [sub1 (by omega), h3]; omega
    · omega
    · intro j hj
      rw [Nat.sub_self, hI j (by omega)]
      rfl
  | succ m ih =>
    intro k p I hk hp q hI
    have hc := q.cb
    have hpl := plc_le hc.1 a1.toInt
    have hkp : (k : Int) < plc S a1.toInt := by omega
    have hP : isP S a1.toInt k := plc_lt hkp
    have e1 : (p + 1).toInt = ((k + 1 : Nat) : Int) := by rw [add1 (by omega) (by omega), hp]; rfl
    have hx : xin p 64 = true := by rw [xin_iff, hp]; omega
    have ex : xIx p = k := by rw [xIx_ti, hp, Int.toNat_natCast]
    refine w158_2 hc.2.1 ((s_placesOf hc.1 hc.2.1 hc.2.2.1).u fun r hr => brz lt_ti (fun h => (s_letterAt hc).u fun r4 h4 => ⟨hx, ?_⟩) (fun h => ?_))
    · rw [hp, if_pos hP] at h4
      refine WP.mono (ih (k + 1) _ (xwI I 59 (xIx p) r4) (by omega) e1 q.c59 (fun j hj => ?_)) (fun v M z => ?_)
      · rw [ex]
        by_cases ej : j = k
        · rw [ej, xg]; exact h4
        · rw [xgn ej]; exact hI j (by omega)
      · obtain ⟨r, I1, J1, z1, z2, z3, z4, z5⟩ := z
        exact ⟨r, I1, J1, z1, z2, z3, (keepM_I (by decide)).tr z4, z5⟩
    · rw [hr, hp] at h; omega
theorem m_alt_loop (q : MInv S I J) (hl : isL S a1.toInt) : ∀ (m k : Nat) (c p : Int32), (k + m : Nat) = (plc S a1.toInt).toNat → p.toInt = 64 * a1.toInt + k → c.toInt = cntB (altF S a1.toInt a2.toInt) k → PI ((d + 2), 282, 32, [some (.ref 71), some (.int a1), some (.int a2), some (.int c), some (.int p)], [], (xSH L dr tl, I, J)) (cntB (altF S a1.toInt a2.toInt) (plc S a1.toInt).toNat) (xSH L dr tl, I, J) := by
  have hm := q.mb
  have hpl := plc_le hm.1 a1.toInt
  have hnl := hm.1.2.2.1.2.1
  have hl1 := hl.1
  have hl2 := hl.2
  have ep : plc S a1.toInt = S 5 a1.toInt.toNat := by rw [plc, if_pos hl]
  have e64 : (64 * a1).toInt = 64 * a1.toInt := mul_ti (by show _ ≤ 64 * a1.toInt; omega) (by show 64 * a1.toInt < _; omega)
  have bound : ∀ r : Int32, r.toInt = S 5 a1.toInt.toNat → (64 * a1 + r).toInt = 64 * a1.toInt + plc S a1.toInt := fun r hr => by rw [add_ti (by rw [e64]; omega) (by rw [e64]; omega), e64, hr, ep]
  intro m
  induction m with
  | zero =>
    intro k c p hk hp hcn
    refine w282_32 ((m_length hm.1 hm.2.1 hl).u fun r hr => brz lt_ti (fun h => ?_) (fun h => ⟨c, rfl, ?_, rfl⟩))
    · rw [bound r hr, hp] at h; omega
    · rw [hcn, ← hk]; rfl
  | succ m ih =>
    intro k c p hk hp hcn
    have hkp : (k : Int) < plc S a1.toInt := by omega
    have hP : isP S a1.toInt k := plc_lt hkp
    have hb := cntB_b (altF S a1.toInt a2.toInt) k
    have e1 : (p + 1).toInt = 64 * a1.toInt + ((k + 1 : Nat) : Int) := by rw [add1 (by omega) (by omega), hp]; omega
    have hx : xin p 512 = true := by rw [xin_iff, hp]; omega
    have hi : (I 110 (xIx p)).toInt = S 15 (slot a1.toInt k) := by rw [xIx_ti, hp]; exact (hm.2.2.2.1 _ _ hP).1
    refine w282_32 ((m_length hm.1 hm.2.1 hl).u fun r hr => brz lt_ti (fun h => (m_stoodIn hm.1 hm.2.2 q.2.2.2.2.1 hP hp).u fun r3 h3 => ⟨hx, brz eq_ti (fun g => ih (k + 1) _ _ (by omega) e1 ?_) (fun g => ih (k + 1) _ _ (by omega) e1 ?_)⟩) (fun h => ?_))
    · rw [hi, h3] at g
      rw [hcn]; simp only [cntB]; rw [if_neg (by rw [altF, decide_eq_true_eq]; exact fun z => z g)]; omega
    · rw [hi, h3] at g
      rw [add1 (by omega) (by omega), hcn]; simp only [cntB]; rw [if_pos (by rw [altF, decide_eq_true_eq]; exact g)]
    · rw [bound r hr, hp] at h; omega
theorem call_altered : Call L (d + 6) 180 282 [.int a1, .int a2] [.int a1, .int a2] S := by
  refine Call.st S (ansAltered S a1.toInt a2.toInt) (fun dr tl I J q => ?_) (fun dr tl I J q => ?_)
  · have hc := q.cb
    refine w180_0 hc.2.1 ((s_told hc.2.1).v ((s_hasLeaf hc.2.1 hc.2.2.1).u (fun k1 => br1 (brz lt0 (fun h => ⟨-1, _, _, rfl, ?_, rfl, keepM_refl, q⟩) (fun h => (s_hour hc.2.2.2).u fun r5 h5 => brz lt_ti (fun g => ⟨-1, _, _, rfl, ?_, rfl, keepM_refl, q⟩) (fun g => w158_0 (WP.mono (c_alt1 (a1 := a1) (a2 := a2) (plc S a1.toInt).toNat 0 0 I (by omega) rfl q (fun j hj => absurd hj (Nat.not_lt_zero j))) (fun v M z => ?_)))))) (fun z => br0 ⟨-1, _, _, rfl, ?_, rfl, keepM_refl, q⟩)))
    · rw [ansAltered, if_neg (by omega)]; rfl
    · rw [h5] at g; rw [ansAltered, if_neg (by omega)]; rfl
    · rw [h5] at g
      obtain ⟨r, I1, J1, z1, z2, z3, z4, z5⟩ := z
      exact ⟨r, I1, J1, z1, z3, r, I1, J1, rfl, by rw [ansAltered, if_pos ⟨k1, by omega, by omega⟩]; exact z2, rfl, z4, z5⟩
    · rw [ansAltered, if_neg (fun y => z y.1)]; rfl
  · have hm := q.mb
    refine w282_0 ((m_isLeaf hm.1 hm.2.1).u (fun k1 => br1 (m_isIn.u (fun g => br1 (WP.mono (m_alt_loop (a1 := a1) (a2 := a2) q k1 (plc S a1.toInt).toNat 0 0 (64 * a1) (by omega) ?_ rfl) (fun v M z => ?_))) (fun g => br0 ⟨-1, _, _, rfl, ?_, rfl, keepC_refl, q⟩))) (fun z => br0 ⟨-1, _, _, rfl, ?_, rfl, keepC_refl, q⟩))
    · have := hm.1.2.2.1.2.1; have := k1.1; have := k1.2
      have e64 : (64 * a1).toInt = 64 * a1.toInt := mul_ti (by show _ ≤ 64 * a1.toInt; omega) (by show 64 * a1.toInt < _; omega)
      rw [e64]; omega
    · rw [t64, t64, hm.2.2.1] at g
      obtain ⟨r, z1, z2, z3⟩ := z
      exact ⟨r, I, J, z1, by rw [ansAltered, if_pos ⟨k1, g⟩]; exact z2, z3, keepC_refl, q⟩
    · rw [t64, t64, hm.2.2.1] at g; rw [ansAltered, if_neg (fun z => g z.2)]; rfl
    · rw [ansAltered, if_neg (fun y => z y.1)]; rfl
end ALTERED
