/-! ===== could ===== -/
theorem bits26 : ∀ k : Nat, k < 26 → ((Int32.ofNat (k + 1)).toInt = (k : Int) + 1 ∧ ∀ b : Nat, b < 32 → (((1 : Int32) <<< ((Int32.ofNat (k + 1) - 1) &&& 31)).toBitVec.getLsbD b = decide (b = k))) := by decide
theorem bit_c {x : Int32} (h1 : 1 ≤ x.toInt) (h2 : x.toInt ≤ 26) {b : Nat} (hb : b < 32) : ((1 : Int32) <<< (x - 1 &&& 31)).toBitVec.getLsbD b = true ↔ x.toInt = (b : Int) + 1 := by
  obtain ⟨e1, e2⟩ := bits26 (x.toInt.toNat - 1) (by omega)
  have ex : x = Int32.ofNat (x.toInt.toNat - 1 + 1) := eq_ti.mpr (by rw [e1]; omega)
  have e3 := e2 b hb
  rw [← ex] at e3
  rw [e3, decide_eq_true_iff]
  omega
def couP (S : aS) (l : Int) (q w p : Nat) : Prop := (w : Int) < sNW S ∧ p ≤ q ∧ (q : Int) < p + S 11 w ∧ standP S l w p
def couL (S : aS) (q w p : Nat) : Int := S 12 (12 * w + (q - p))
def hasB (S : aS) (l : Int) (q : Nat) (D : Nat → Nat → Prop) (r : Int32) : Prop := ∀ b : Nat, b < 32 → (r.toBitVec.getLsbD b = true ↔ ∃ w p : Nat, D w p ∧ couP S l q w p ∧ couL S q w p = (b : Int) + 1)
section COULD
variable {S : aS} {L d dr tl : Nat} {I : Nat → Nat → Int32} {J J0 : Nat → Nat → Int64} {a1 a2 a3 a4 a5 x r : Int32} {l : Int} {q p w : Nat} {D D' : Nat → Nat → Prop} {Q : Option Value → xMem → Prop}
theorem hasB_c (h : ∀ w p : Nat, couP S l q w p → (D w p ↔ D' w p)) (g : hasB S l q D r) : hasB S l q D' r := by
  intro b hb
  rw [g b hb]
  exact ⟨fun ⟨w, p, z1, z2, z3⟩ => ⟨w, p, (h w p z2).mp z1, z2, z3⟩, fun ⟨w, p, z1, z2, z3⟩ => ⟨w, p, (h w p z2).mpr z1, z2, z3⟩⟩
theorem hasB_or (g : hasB S l q D r) (h : couP S l q w p) (e : x.toInt = couL S q w p) (h1 : 1 ≤ x.toInt) (h2 : x.toInt ≤ 26) : hasB S l q (fun w' p' => D w' p' ∨ (w' = w ∧ p' = p)) (r ||| ((1 : Int32) <<< (x - 1 &&& 31))) := by
  intro b hb
  rw [Int32.toBitVec_or, BitVec.getLsbD_or, Bool.or_eq_true, g b hb, bit_c h1 h2 hb]
  constructor
  · rintro (⟨w', p', z1, z2, z3⟩ | z)
    · exact ⟨w', p', Or.inl z1, z2, z3⟩
    · exact ⟨w, p, Or.inr ⟨rfl, rfl⟩, h, by omega⟩
  · rintro ⟨w', p', z1 | ⟨rfl, rfl⟩, z2, z3⟩
    · exact Or.inl ⟨w', p', z1, z2, z3⟩
    · exact Or.inr (by omega)
theorem hasB_no (g : hasB S l q D r) (h : ¬ couP S l q w p) : hasB S l q (fun w' p' => D w' p' ∨ (w' = w ∧ p' = p)) r := by
  refine hasB_c (fun w' p' z => ⟨fun y => Or.inl y, fun y => ?_⟩) g
  rcases y with y | ⟨rfl, rfl⟩
  · exact y
  · exact absurd z h
theorem hasB_eq {r' : Int32} (g : hasB S l q D r) (g' : hasB S l q D r') : r = r' := by
  apply Int32.toBitVec_inj.mp
  apply BitVec.eq_of_getLsbD_eq
  intro b hb
  have h1 := g b hb
  have h2 := g' b hb
  have h3 : r.toBitVec.getLsbD b = true ↔ r'.toBitVec.getLsbD b = true := h1.trans h2.symm
  cases e1 : r.toBitVec.getLsbD b <;> cases e2 : r'.toBitVec.getLsbD b <;> simp_all
theorem hasB_0 (h : ∀ w p : Nat, couP S l q w p → ¬ D w p) : hasB S l q D 0 := by
  intro b hb
  constructor
  · intro z
    have z0 : (0 : Int32).toBitVec.getLsbD b = false := by
      show (0#32).getLsbD b = false
      simp
    rw [z0] at z
    exact absurd z (by decide)
  · rintro ⟨w, p, z1, z2, z3⟩; exact absurd z1 (h w p z2)
theorem couL_b (hw : WF S) (h : couP S l q w p) : 1 ≤ couL S q w p ∧ couL S q w p ≤ 26 := by
  obtain ⟨h1, h2, h3, h4⟩ := h
  exact (hw.2.2.2.2.1.2.2 w h1).2.2 (q - p) (by omega)
theorem c_could_words (hc : CB S tl I) (ho : CIo 8 I ∧ CIo 31 I) (hJ : ∀ q : Nat, (q : Int) ≤ plc S a1.toInt → (J 70 q).toInt = rtAll S a1.toInt q ∧ (J 69 q).toInt = rfAll S a1.toInt q) (e2 : a2.toInt = q) (hq : (q : Int) < plc S a1.toInt) (e4 : a4.toInt = p) (hp : p ≤ q) : ∀ (m k : Nat) (r i : Int32), ((k + m : Nat) : Int) = sNW S → i.toInt = k → hasB S a1.toInt q (fun w' p' => p' < p ∨ (p' = p ∧ w' < k)) r → (∀ r : Int32, hasB S a1.toInt q (fun w' p' => p' < p + 1) r → WP ((d + 7), 125, 24, [some (.ref 68), some (.int a1), some (.int a2), some (.int r), some (.int (a4 + 1)), none], [], (xSH L dr tl, I, J)) Q) → WP ((d + 7), 125, 33, [some (.ref 68), some (.int a1), some (.int a2), some (.int r), some (.int a4), some (.int i)], [], (xSH L dr tl, I, J)) Q := by
  have pb := plc_le hc.1 a1.toInt
  have h16 := hc.1.2.2.2.2.1.2.1
  have hn := hc.2.2.1.1.2.2.2.1
  intro m
  induction m with
  | zero =>
    intro k r i hk hi g K
    refine w125_33 hc.2.1 ((s_told hc.2.1).v ((s_size (sp10 hc.2.1) hn).u fun r2 g2 => brz lt_ti (fun z => by omega) (fun _ => K r (hasB_c (fun w' p' z => ?_) g))))
    have := z.1; omega
  | succ m ih =>
    intro k r i hk hi g K
    have e1 : (i + 1).toInt = ((k + 1 : Nat) : Int) := by rw [add1 (by omega) (by omega), hi]; rfl
    have hk' : (k : Int) < sNW S := by omega
    have wb := wl_b hc.1 hk'
    have step : ∀ r' : Int32, hasB S a1.toInt q (fun w' p' => (p' < p ∨ (p' = p ∧ w' < k)) ∨ (w' = k ∧ p' = p)) r' → WP ((d + 7), 125, 33, [some (.ref 68), some (.int a1), some (.int a2), some (.int r'), some (.int a4), some (.int (i + 1))], [], (xSH L dr tl, I, J)) Q := fun r' h => ih (k + 1) r' _ (by omega) e1 (hasB_c (fun w' p' _ => by omega) h) K
    refine w125_33 hc.2.1 ((s_told hc.2.1).v ((s_size (sp10 hc.2.1) hn).u fun r2 g2 => brz lt_ti (fun _ => (s_behind hc hk' hi (by omega)).u fun r4 g4 => brz lt_ti (fun z => (s_stands hc ho hJ hk' hi e4 (by omega)).u (fun st => br1 ((s_told hc.2.1).v ((s_wlet hc ho hk' hi (i := q - p) ?_ (by omega)).u fun r9 g9 => step _ ?_))) (fun st => br0 (step r (hasB_no g fun u => st u.2.2.2)))) (fun z => step r (hasB_no g fun u => ?_))) (fun z => by omega)))
    · rw [sub_ti (by omega) (by omega)]; omega
    · have cp : couP S a1.toInt q k p := ⟨hk', hp, by omega, st⟩
      have cb := couL_b hc.1 cp
      have e9 : r9.toInt = couL S q k p := g9
      exact hasB_or g cp e9 (by omega) (by omega)
    · have := u.2.2.1; omega
theorem c_could_starts (hc : CB S tl I) (ho : CIo 8 I ∧ CIo 31 I) (hJ : ∀ q : Nat, (q : Int) ≤ plc S a1.toInt → (J 70 q).toInt = rtAll S a1.toInt q ∧ (J 69 q).toInt = rfAll S a1.toInt q) (e2 : a2.toInt = q) (hq : (q : Int) < plc S a1.toInt) : ∀ (m p : Nat) (r i : Int32), p + m = q + 1 → i.toInt = p → hasB S a1.toInt q (fun w' p' => p' < p) r → (∀ r : Int32, hasB S a1.toInt q (fun _ _ => True) r → Q (some (.int r)) (xSH L dr tl, I, J)) → WP ((d + 7), 125, 24, [some (.ref 68), some (.int a1), some (.int a2), some (.int r), some (.int i), none], [], (xSH L dr tl, I, J)) Q := by
  have pb := plc_le hc.1 a1.toInt
  have hN := hc.1.2.2.2.2.1.1
  intro m
  induction m with
  | zero =>
    intro p r i hk hi g K
    refine w125_24 (brz lt_ti (fun _ => K r (hasB_c (fun w' p' z => ?_) g)) (fun z => by omega))
    have := z.2.1
    exact ⟨fun _ => trivial, fun _ => by omega⟩
  | succ m ih =>
    intro p r i hk hi g K
    have e1 : (i + 1).toInt = ((p + 1 : Nat) : Int) := by rw [add1 (by omega) (by omega), hi]; rfl
    exact w125_24 (brz lt_ti (fun z => by omega) (fun _ => c_could_words hc ho hJ e2 hq hi (by omega) (sNW S).toNat 0 r 0 (by omega) rfl (hasB_c (fun w' p' _ => by omega) g) fun r' g' => ih (p + 1) r' _ (by omega) e1 g' K))
theorem m_could_places (hm : MB S I J) (hl : isL S a1.toInt) (hJ : ∀ q : Nat, (q : Int) ≤ plc S a1.toInt → (J 128 q).toInt = rtAll S a1.toInt q ∧ (J 129 q).toInt = rfAll S a1.toInt q) (e2 : a2.toInt = q) (hq : (q : Int) < plc S a1.toInt) (hk : (w : Int) < sNW S) (e4 : a4.toInt = w) : ∀ (m p : Nat) (r i : Int32), p + m = q + 1 → i.toInt = p → hasB S a1.toInt q (fun w' p' => w' < w ∨ (w' = w ∧ p' < p)) r → (∀ r : Int32, hasB S a1.toInt q (fun w' p' => w' < w + 1) r → WP ((d + 4), 308, 21, [some (.ref 71), some (.int a1), some (.int a2), some (.int r), some (.int (a4 + 1)), none], [], (xSH L dr tl, I, J)) Q) → WP ((d + 4), 308, 33, [some (.ref 71), some (.int a1), some (.int a2), some (.int r), some (.int a4), some (.int i)], [], (xSH L dr tl, I, J)) Q := by
  have pb := plc_le hm.1 a1.toInt
  have wb := wl_b hm.1 hk
  have h16 := hm.1.2.2.2.2.1.2.1
  obtain ⟨i1, v1⟩ := m_wlen (a2 := a4) hm hk e4
  intro m
  induction m with
  | zero =>
    intro p r i hk' hi g K
    refine w308_33 (brz lt_ti (fun _ => K r (hasB_c (fun w' p' z => ?_) g)) (fun z => by omega))
    have := z.2.1; omega
  | succ m ih =>
    intro p r i hk' hi g K
    have e1 : (i + 1).toInt = ((p + 1 : Nat) : Int) := by rw [add1 (by omega) (by omega), hi]; rfl
    have xi : xIx i = p := by rw [xIx_ti, hi]; exact Int.toNat_natCast _
    have step : ∀ r' : Int32, hasB S a1.toInt q (fun w' p' => (w' < w ∨ (w' = w ∧ p' < p)) ∨ (w' = w ∧ p' = p)) r' → WP ((d + 4), 308, 33, [some (.ref 71), some (.int a1), some (.int a2), some (.int r'), some (.int a4), some (.int (i + 1))], [], (xSH L dr tl, I, J)) Q := fun r' h => ih (p + 1) r' _ (by omega) e1 (hasB_c (fun w' p' _ => by omega) h) K
    have mb := manyV_b (S := S) (l := a1.toInt) (p := p) (w := w)
    refine w308_33 (brz lt_ti (fun z => by omega) (fun _ => ⟨i1, brz lt_ti (fun z => ⟨by rw [xin_iff]; omega, ?_⟩) (fun z => step r (hasB_no g fun u => ?_))⟩))
    · rw [addn (by omega) (by omega) (by omega) (by omega), v1] at z
      rw [xi]
      have vt := (hJ p (by omega)).1
      refine brz xlc_eq (fun y => step r (hasB_no g fun u => ?_)) (fun y => (m_behindR hm hl (fun q hq => (hJ q hq).2) hk e4 hi (by omega)).u fun r4 g4 => brz xlc_eq (fun u => step r (hasB_no g fun o => ?_)) (fun u => ?_))
      · have y' : (J 128 p).toInt = 0 := y
        have := u.2.2.2.1; omega
      · have u' : r4.toInt = 0 := u
        rw [manyV_y o.2.2.2.2.1] at g4
        have := o.2.2.2.2.2; omega
      · have u' : ¬ r4.toInt = 0 := u
        have y' : ¬ (J 128 p).toInt = 0 := y
        have ft : fitP S a1.toInt w p := Classical.byContradiction fun o => by rw [manyV_n o] at g4; exact u' g4
        rw [manyV_y ft] at g4
        have cp : couP S a1.toInt q w p := ⟨hk, by omega, by omega, by omega, ft, by omega⟩
        have cb := couL_b hm.1 cp
        have m12 : (12 * a4).toInt = 12 * w := by rw [mul_ti (by show _ ≤ 12 * a4.toInt; omega) (by show 12 * a4.toInt < _; omega)]; show 12 * a4.toInt = _; omega
        have e5 : (192 + 12 * a4 + a2).toInt = 192 + 12 * (w : Int) + q := by rw [addn (by rw [addn (by decide) (by decide) (by omega) (by omega), m12]; show _ ≤ 192 + 12 * (w : Int); omega) (by rw [addn (by decide) (by decide) (by omega) (by omega), m12]; show 192 + 12 * (w : Int) ≤ _; omega) (by omega) (by omega), addn (by decide) (by decide) (by omega) (by omega), m12, e2]; rfl
        have e6 : (192 + 12 * a4 + a2 - i).toInt = ((192 + 12 * w + (q - p) : Nat) : Int) := by rw [sub_ti (by omega) (by omega)]; omega
        have x6 : xIx (192 + 12 * a4 + a2 - i) = 192 + 12 * w + (q - p) := by rw [xIx_ti, e6]; exact Int.toNat_natCast _
        have v6 : (I 101 (192 + 12 * w + (q - p))).toInt = couL S q w p := (hm.2.1.2.2.2.2.1 w hk).2 (q - p) (by omega)
        rw [x6]
        exact ⟨by rw [xin_iff, e6]; omega, step _ (hasB_or g cp v6 (by omega) (by omega))⟩
    · rw [addn (by omega) (by omega) (by omega) (by omega), v1] at z
      have := u.2.2.1; omega
theorem m_could_words (hm : MB S I J) (hl : isL S a1.toInt) (hJ : ∀ q : Nat, (q : Int) ≤ plc S a1.toInt → (J 128 q).toInt = rtAll S a1.toInt q ∧ (J 129 q).toInt = rfAll S a1.toInt q) (e2 : a2.toInt = q) (hq : (q : Int) < plc S a1.toInt) : ∀ (m k : Nat) (r i : Int32), ((k + m : Nat) : Int) = sNW S → i.toInt = k → hasB S a1.toInt q (fun w' p' => w' < k) r → (∀ r : Int32, hasB S a1.toInt q (fun _ _ => True) r → Q (some (.int r)) (xSH L dr tl, I, J)) → WP ((d + 4), 308, 21, [some (.ref 71), some (.int a1), some (.int a2), some (.int r), some (.int i), none], [], (xSH L dr tl, I, J)) Q := by
  have pb := plc_le hm.1 a1.toInt
  have h16 := hm.1.2.2.2.2.1.2.1
  intro m
  induction m with
  | zero =>
    intro k r i hk hi g K
    refine w308_21 ((m_wordMany hm.2.1).u fun r2 g2 => brz lt_ti (fun z => by omega) (fun _ => K r (hasB_c (fun w' p' z => ?_) g)))
    have := z.1
    exact ⟨fun _ => trivial, fun _ => by omega⟩
  | succ m ih =>
    intro k r i hk hi g K
    have e1 : (i + 1).toInt = ((k + 1 : Nat) : Int) := by rw [add1 (by omega) (by omega), hi]; rfl
    exact w308_21 ((m_wordMany hm.2.1).u fun r2 g2 => brz lt_ti (fun _ => m_could_places hm hl hJ e2 hq (w := k) (by omega) hi (q + 1) 0 r 0 (by omega) rfl (hasB_c (fun w' p' _ => by omega) g) fun r' g' => ih (k + 1) r' _ (by omega) e1 g' K) (fun z => by omega))
theorem call_could : Call L (d + 9) 190 308 [.int a1, .int a2] [.int a1, .int a2] S := by
  by_cases hP : isP S a1.toInt a2.toInt
  · have hpl := plc_isP.mp hP
    refine Call.stU S (fun v => ∃ r : Int32, v = some (.int r) ∧ hasB S a1.toInt a2.toInt.toNat (fun _ _ => True) r) (fun v v' h h' => ?_) (fun dr tl I J q => ?_) (fun dr tl I J q => ?_)
    · obtain ⟨r, rfl, e⟩ := h
      obtain ⟨r', rfl, e'⟩ := h'
      rw [hasB_eq e e']
    · have hc := q.cb
      have pb := plc_le hc.1 a1.toInt
      have ho : CIo 8 I ∧ CIo 31 I := ⟨q.2.2.2.1.1, q.2.2.2.1.2.1⟩
      have e12 : ((a2 - 12) + 1).toInt = a2.toInt - 11 := by rw [add_ti (by rw [sub_ti (by show _ ≤ a2.toInt - 12; omega) (by show a2.toInt - 12 < _; omega)]; show _ ≤ a2.toInt - 12 + 1; omega) (by rw [sub_ti (by show _ ≤ a2.toInt - 12; omega) (by show a2.toInt - 12 < _; omega)]; show a2.toInt - 12 + 1 < _; omega), sub_ti (by show _ ≤ a2.toInt - 12; omega) (by show a2.toInt - 12 < _; omega)]; show a2.toInt - 12 + 1 = _; omega
      refine w190_0 hc.2.1 ((s_told hc.2.1).v ((s_hasPlace hc.1 hc.2.1 hc.2.2.1).u (fun _ => br1 (w125_0 (s_onward hc ho fun J1 h1 h2 => s_upTo hc ho fun J2 y1 y2 => s_max.u fun r3 g3 => ?_))) (fun z => absurd hP z)))
      have hJ : ∀ q : Nat, (q : Int) ≤ plc S a1.toInt → (J2 70 q).toInt = rtAll S a1.toInt q ∧ (J2 69 q).toInt = rfAll S a1.toInt q := fun q hq => ⟨y2 q hq, by rw [y1 69 (by decide)]; exact h2 q hq⟩
      rw [e12] at g3
      have g3' : r3.toInt = max 0 (a2.toInt - 11) := g3
      refine c_could_starts hc ho hJ (q := a2.toInt.toNat) (by omega) (by omega) (a2.toInt.toNat + 1 - r3.toInt.toNat) r3.toInt.toNat 0 r3 (by omega) (by omega) (hasB_0 fun w p z y => ?_) fun r g => ⟨r, I, J2, rfl, rfl, ⟨r, rfl, g⟩, I, J2, rfl, fun a ha => ⟨rfl, by rw [y1 a (by omega), h1 a (by omega)]⟩, q.jj (by rw [y1 2 (by decide), h1 2 (by decide)])⟩
      have wb := wl_b hc.1 z.1
      have := z.2.2.1
      omega
    · have hm := q.mb
      have hN := hm.1.2.2.2.2.1.1
      exact w308_0 ((m_isPlace hm.1 hm.2.1).u (fun _ => br1 (m_rowsOf hm hP.1 fun J2 h1 hJ => m_could_words (J := J2) hm hP.1 hJ (q := a2.toInt.toNat) (by omega) (by omega) (sNW S).toNat 0 0 0 (by omega) rfl (hasB_0 fun w p z y => by omega) fun r g => ⟨⟨r, rfl, g⟩, I, J2, rfl, fun a ha => ⟨rfl, h1 a (by omega) (by omega)⟩, q.jj (h1 71 (by decide) (by decide)) (h1 94 (by decide) (by decide))⟩)) (fun z => absurd hP z))
  · refine Call.st S (-1) (fun dr tl I J q => ?_) (fun dr tl I J q => ?_)
    · have hc := q.cb
      exact w190_0 hc.2.1 ((s_told hc.2.1).v ((s_hasPlace hc.1 hc.2.1 hc.2.2.1).u (fun z => absurd z hP) (fun _ => br0 ⟨-1, I, J, rfl, rfl, rfl, keepM_refl, q⟩)))
    · have hm := q.mb
      exact w308_0 ((m_isPlace hm.1 hm.2.1).u (fun z => absurd z hP) (fun _ => br0 ⟨-1, I, J, rfl, rfl, rfl, keepC_refl, q⟩))
end COULD
