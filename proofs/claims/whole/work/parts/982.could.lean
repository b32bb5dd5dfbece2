/-! ===== begins, could ===== -/
def standP (S : aS) (l : Int) (w p : Nat) : Prop := rtAll S l p ≠ 0 ∧ fitP S l w p ∧ rfAll S l (p + wl S w) ≠ 0
noncomputable def ansBegins (S : aS) (l w p : Int) : Int := @ite Int (isP S l p ∧ 0 ≤ w ∧ w < sNW S) (Classical.propDecidable _) (@ite Int (standP S l w.toNat p.toNat) (Classical.propDecidable _) (if 1000000000000000 / rfAll S l (p.toNat + wl S w.toNat) < rtAll S l p.toNat then 1000000000000000 else rtAll S l p.toNat * rfAll S l (p.toNat + wl S w.toNat)) 0) (-1)
theorem mul_le_M {a b : Int} (ha : 0 ≤ a) (hb : 0 < b) (h : ¬ 1000000000000000 / b < a) : 0 ≤ a * b ∧ a * b ≤ 1000000000000000 := by
  have h1 : a ≤ 1000000000000000 / b := by omega
  have h2 : a * b ≤ 1000000000000000 / b * b := Int.mul_le_mul_of_nonneg_right h1 (by omega)
  have h3 : 1000000000000000 / b * b ≤ 1000000000000000 := Int.ediv_mul_le _ (by omega)
  exact ⟨Int.mul_nonneg ha (by omega), by omega⟩
section BEGINS
variable {S : aS} {L d dr tl : Nat} {I : Nat → Nat → Int32} {J J0 : Nat → Nat → Int64} {a1 a2 a3 a4 a5 a7 a8 a9 a10 : Int32} {b0 b2 b5 : Int64} {f : Nat → Int} {l : Int} {n p k w : Nat} {Q : Option Value → xMem → Prop}
theorem s_stands (hc : CB S tl I) (ho : CIo 8 I ∧ CIo 31 I) (hJ : ∀ q : Nat, (q : Int) ≤ plc S a1.toInt → (J 70 q).toInt = rtAll S a1.toInt q ∧ (J 69 q).toInt = rfAll S a1.toInt q) (hk : (w : Int) < sNW S) (e2 : a2.toInt = w) (e3 : a3.toInt = p) (hp : (p : Int) ≤ plc S a1.toInt) : PB ((d + 6), 126, 0, [some (.ref 68), some (.int a1), some (.int a2), some (.int a3)], [], (xSH L dr tl, I, J)) (standP S a1.toInt w p) (xSH L dr tl, I, J) := by
  have pb := plc_le hc.1 a1.toInt
  have wb := wl_b hc.1 hk
  have x3 : xIx a3 = p := by rw [xIx_ti, e3]; exact Int.toNat_natCast _
  have v1 := (hJ p hp).1
  have b1 := rtAll_ok (S := S) (l := a1.toInt) p
  have b2 := rfAll_ok (S := S) (l := a1.toInt) (p + wl S w)
  refine w126_0 ⟨by rw [xin_iff, e3]; omega, ?_⟩
  rw [x3]
  refine brz xlc_gt (fun u => (s_fits hc ho hk e2 e3 (by omega)).u (fun y => br1 ((s_behind hc hk e2 (by omega)).u fun r4 g4 => ?_)) (fun y => br0 ⟨0, rfl, Or.inr ⟨rfl, fun z => y z.2.1⟩, rfl⟩)) (fun u => ⟨0, rfl, Or.inr ⟨rfl, fun z => ?_⟩, rfl⟩)
  · have u' : (0 : Int) < (J 70 p).toInt := u
    have x4 : xIx r4 = p + wl S w := by rw [xIx_ti, g4]; omega
    have yf := y.1
    have v2 := (hJ (p + wl S w) (by omega)).2
    rw [x4]
    refine ⟨by rw [xin_iff, g4]; omega, brz xlc_gt (fun z => ⟨1, rfl, Or.inl ⟨rfl, by omega, y, ?_⟩, rfl⟩) (fun z => ⟨0, rfl, Or.inr ⟨rfl, fun o => ?_⟩, rfl⟩)⟩
    · have z' : (0 : Int) < (J 69 (p + wl S w)).toInt := z
      omega
    · have z' : ¬ (0 : Int) < (J 69 (p + wl S w)).toInt := z
      have := o.2.2; omega
  · have u' : ¬ (0 : Int) < (J 70 p).toInt := u
    have := z.1; omega
theorem call_begins : Call L (d + 8) 191 309 [.int a1, .int a2, .int a3] [.int a1, .int a2, .int a3] S := by
  refine Call.stU S (fun v => ∃ r : Int64, v = some (.long r) ∧ r.toInt = ansBegins S a1.toInt a2.toInt a3.toInt) (fun v v' h h' => ?_) (fun dr tl I J q => ?_) (fun dr tl I J q => ?_)
  · obtain ⟨r, rfl, e⟩ := h
    obtain ⟨r', rfl, e'⟩ := h'
    rw [Int64.toInt.inj (e'.trans e.symm)]
  · have hc := q.cb
    have hn := hc.2.2.1.1.2.2.2.1
    have ho : CIo 8 I ∧ CIo 31 I := ⟨q.2.2.2.1.1, q.2.2.2.1.2.1⟩
    refine w191_0 hc.2.1 ((s_told hc.2.1).v ((s_hasPlace hc.1 hc.2.1 hc.2.2.1).u (fun hP => br1 (brz lt0 (fun z => ⟨⟨_, rfl, ?_⟩, I, J, rfl, keepM_refl, q⟩) (fun z => (s_size (sp10 hc.2.1) hn).u fun r5 g5 => brz lt_ti (fun y => ?_) (fun y => ⟨⟨_, rfl, ?_⟩, I, J, rfl, keepM_refl, q⟩)))) (fun z => br0 ⟨⟨_, rfl, ?_⟩, I, J, rfl, keepM_refl, q⟩)))
    · rw [ansBegins, if_neg (fun u => by have := u.2.1; omega)]; rfl
    · have hpl := plc_isP.mp hP
      have pb := plc_le hc.1 a1.toInt
      have hk : ((a2.toInt.toNat : Nat) : Int) < sNW S := by omega
      have wb := wl_b hc.1 hk
      have x3 : xIx a3 = a3.toInt.toNat := rfl
      refine w127_0 (s_onward hc ho fun J1 h1 h2 => s_upTo hc ho fun J2 y1 y2 => ?_)
      have hJ : ∀ q : Nat, (q : Int) ≤ plc S a1.toInt → (J2 70 q).toInt = rtAll S a1.toInt q ∧ (J2 69 q).toInt = rfAll S a1.toInt q := fun q hq => ⟨y2 q hq, by rw [y1 69 (by decide)]; exact h2 q hq⟩
      have fr : keepM I I J J2 := fun a ha => ⟨rfl, by rw [y1 a (by omega), h1 a (by omega)]⟩
      have q2 := q.jj (J1 := J2) (by rw [y1 2 (by decide), h1 2 (by decide)])
      have i3 : xin a3 65 = true := by rw [xin_iff]; omega
      refine (s_stands hc ho hJ hk (by omega) (p := a3.toInt.toNat) (by omega) (by omega)).u (fun st => br1 ⟨i3, (s_behind hc hk (by omega) (by omega)).u fun r5 g5 => ?_⟩) (fun st => br0 ⟨_, _, _, rfl, rfl, ⟨_, rfl, ?_⟩, I, J2, rfl, fr, q2⟩)
      · have yf := st.2.1.1
        have x5 : xIx r5 = a3.toInt.toNat + wl S a2.toInt.toNat := by rw [xIx_ti, g5]; omega
        have v1 := (hJ a3.toInt.toNat (by omega)).1
        have v2 := (hJ (a3.toInt.toNat + wl S a2.toInt.toNat) (by omega)).2
        have b1 := rtAll_ok (S := S) (l := a1.toInt) a3.toInt.toNat
        have b2 := rfAll_ok (S := S) (l := a1.toInt) (a3.toInt.toNat + wl S a2.toInt.toNat)
        have p2 : 0 < rfAll S a1.toInt (a3.toInt.toNat + wl S a2.toInt.toNat) := by have := st.2.2; omega
        have E : ansBegins S a1.toInt a2.toInt a3.toInt = if 1000000000000000 / rfAll S a1.toInt (a3.toInt.toNat + wl S a2.toInt.toNat) < rtAll S a1.toInt a3.toInt.toNat then 1000000000000000 else rtAll S a1.toInt a3.toInt.toNat * rfAll S a1.toInt (a3.toInt.toNat + wl S a2.toInt.toNat) := by rw [ansBegins, if_pos ⟨hP, by omega, by omega⟩, if_pos st]
        rw [x5]
        refine ⟨by rw [xin_iff, g5]; omega, brz xlc_gt (fun z => ⟨fun u => ?_, ?_⟩) (fun z => ?_)⟩
        · rw [u] at v2
          have : (0 : Int) = rfAll S a1.toInt (a3.toInt.toNat + wl S a2.toInt.toNat) := v2
          omega
        · have ed : ((1000000000000000 : Int64) / J2 69 (a3.toInt.toNat + wl S a2.toInt.toNat)).toInt = 1000000000000000 / rfAll S a1.toInt (a3.toInt.toNat + wl S a2.toInt.toNat) := by rw [ldivN (by decide) (by omega) (by decide), v2]; rfl
          refine brz xlc_gt (fun u => ⟨_, _, _, rfl, rfl, ⟨_, rfl, ?_⟩, I, J2, rfl, fr, q2⟩) (fun u => ⟨_, _, _, rfl, rfl, ⟨_, rfl, ?_⟩, I, J2, rfl, fr, q2⟩)
          · rw [ed] at u
            rw [E, if_pos (by rw [← v1]; exact u)]; rfl
          · rw [ed] at u
            have u' : ¬ 1000000000000000 / rfAll S a1.toInt (a3.toInt.toNat + wl S a2.toInt.toNat) < rtAll S a1.toInt a3.toInt.toNat := by rw [← v1]; exact u
            have mb := mul_le_M b1.1 p2 u'
            rw [E, if_neg u', lmul (by rw [x3, v1, v2]; omega) (by rw [x3, v1, v2]; omega), x3, v1, v2]
        · have z' : ¬ (0 : Int) < (J2 69 (a3.toInt.toNat + wl S a2.toInt.toNat)).toInt := z
          omega
      · rw [ansBegins, if_pos ⟨hP, by omega, by omega⟩, if_neg st]; rfl
    · rw [ansBegins, if_neg (fun u => by have := u.2.2; omega)]; rfl
    · rw [ansBegins, if_neg (fun u => z u.1)]; rfl
  · have hm := q.mb
    have hN0 := hm.1.2.2.2.2.1.1
    refine w309_0 ((m_isPlace hm.1 hm.2.1).u (fun hP => br1 ((m_wordMany hm.2.1).u fun r3 g3 => m_isIn.u (fun y => br1 ?_) (fun y => br0 ⟨⟨_, rfl, ?_⟩, I, J, rfl, keepC_refl, q⟩))) (fun z => br0 ⟨⟨_, rfl, ?_⟩, I, J, rfl, keepC_refl, q⟩))
    · rw [t64, t64, sub1 (by omega)] at y
      have y' : (0 : Int) ≤ a2.toInt ∧ a2.toInt ≤ r3.toInt - 1 := y
      have hpl := plc_isP.mp hP
      have pb := plc_le hm.1 a1.toInt
      have hk : ((a2.toInt.toNat : Nat) : Int) < sNW S := by omega
      have wb := wl_b hm.1 hk
      have x3 : xIx a3 = a3.toInt.toNat := rfl
      obtain ⟨i1, w1⟩ := m_wlen hm hk (a2 := a2) (by omega)
      refine (m_canBegin hm hP.1 hk (by omega) (p := a3.toInt.toNat) (by omega) (by omega)).u (fun ft => br1 (m_rowsOf hm hP.1 fun J2 h1 hJ => ?_)) (fun ft => br0 ⟨⟨_, rfl, ?_⟩, I, J, rfl, keepC_refl, q⟩)
      · have fr : keepC I I J J2 := fun a ha => ⟨rfl, h1 a (by omega) (by omega)⟩
        have q2 := q.jj (h1 71 (by decide) (by decide)) (h1 94 (by decide) (by decide))
        have yf := ft.1
        have g6 : (a3 + I 100 (xIx (16 + a2))).toInt = ((a3.toInt.toNat + wl S a2.toInt.toNat : Nat) : Int) := by rw [addn (by omega) (by omega) (by omega) (by omega)]; omega
        have x6 : xIx (a3 + I 100 (xIx (16 + a2))) = a3.toInt.toNat + wl S a2.toInt.toNat := by rw [xIx_ti, g6]; exact Int.toNat_natCast _
        have v1 := (hJ a3.toInt.toNat (by omega)).1
        have v2 := (hJ (a3.toInt.toNat + wl S a2.toInt.toNat) (by omega)).2
        have b1 := rtAll_ok (S := S) (l := a1.toInt) a3.toInt.toNat
        have b2 := rfAll_ok (S := S) (l := a1.toInt) (a3.toInt.toNat + wl S a2.toInt.toNat)
        rw [x6]
        refine ⟨by rw [xin_iff]; omega, i1, by rw [xin_iff, g6]; omega, brz xlc_eq (fun z => ⟨⟨_, rfl, ?_⟩, I, J2, rfl, fr, q2⟩) (fun z => brz xlc_eq (fun u => ⟨⟨_, rfl, ?_⟩, I, J2, rfl, fr, q2⟩) (fun u => ⟨fun o => u (by rw [o]), ?_⟩))⟩
        · have z' : (J2 128 a3.toInt.toNat).toInt = 0 := z
          rw [ansBegins, if_pos ⟨hP, by omega, by omega⟩, if_neg (fun o => by have := o.1; omega)]; rfl
        · have u' : (J2 129 (a3.toInt.toNat + wl S a2.toInt.toNat)).toInt = 0 := u
          rw [ansBegins, if_pos ⟨hP, by omega, by omega⟩, if_neg (fun o => by have := o.2.2; omega)]; rfl
        · have z' : ¬ (J2 128 a3.toInt.toNat).toInt = 0 := z
          have u' : ¬ (J2 129 (a3.toInt.toNat + wl S a2.toInt.toNat)).toInt = 0 := u
          have st : standP S a1.toInt a2.toInt.toNat a3.toInt.toNat := ⟨by omega, ft, by omega⟩
          have p2 : 0 < rfAll S a1.toInt (a3.toInt.toNat + wl S a2.toInt.toNat) := by omega
          have E : ansBegins S a1.toInt a2.toInt a3.toInt = if 1000000000000000 / rfAll S a1.toInt (a3.toInt.toNat + wl S a2.toInt.toNat) < rtAll S a1.toInt a3.toInt.toNat then 1000000000000000 else rtAll S a1.toInt a3.toInt.toNat * rfAll S a1.toInt (a3.toInt.toNat + wl S a2.toInt.toNat) := by rw [ansBegins, if_pos ⟨hP, by omega, by omega⟩, if_pos st]
          have ed : ((1000000000000000 : Int64) / J2 129 (a3.toInt.toNat + wl S a2.toInt.toNat)).toInt = 1000000000000000 / rfAll S a1.toInt (a3.toInt.toNat + wl S a2.toInt.toNat) := by rw [ldivN (by decide) (by omega) (by decide), v2]; rfl
          refine brz xlc_gt (fun o => ⟨⟨_, rfl, ?_⟩, I, J2, rfl, fr, q2⟩) (fun o => ⟨⟨_, rfl, ?_⟩, I, J2, rfl, fr, q2⟩)
          · rw [ed] at o
            rw [E, if_pos (by rw [← v1]; exact o)]; rfl
          · rw [ed] at o
            have o' : ¬ 1000000000000000 / rfAll S a1.toInt (a3.toInt.toNat + wl S a2.toInt.toNat) < rtAll S a1.toInt a3.toInt.toNat := by rw [← v1]; exact o
            have mb := mul_le_M b1.1 p2 o'
            rw [E, if_neg o', lmul (by rw [x3, v1, v2]; omega) (by rw [x3, v1, v2]; omega), x3, v1, v2]
      · rw [ansBegins, if_pos ⟨hP, by omega, by omega⟩, if_neg (fun o => ft o.2.1)]; rfl
    · rw [t64, t64, sub1 (by omega)] at y
      have y' : ¬ ((0 : Int) ≤ a2.toInt ∧ a2.toInt ≤ r3.toInt - 1) := y
      rw [ansBegins, if_neg (fun u => y' ⟨u.2.1, by have := u.2.2; omega⟩)]; rfl
    · rw [ansBegins, if_neg (fun u => z u.1)]; rfl
end BEGINS
