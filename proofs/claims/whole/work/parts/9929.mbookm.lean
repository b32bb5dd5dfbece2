/-! ===== book: the reference's call ===== -/
def bI0 (I : Nat → Nat → Int32) : Nat → Nat → Int32 := xwI (xwI (xwI (xwI (xwI (xwI (xwI (xwI (xwI I 71 3 (I 71 1)) 71 1 0) 71 2 0) 71 4 (-1)) 71 5 0) 71 6 (-1)) 71 42 0) 71 44 0) 102 0 0
def bI1 (I : Nat → Nat → Int32) : Nat → Nat → Int32 := xwI (xwI (xwI (xwI (xwI (bI0 I) 93 0 0) 93 1 0) 93 2 0) 93 3 0) 93 4 0
/-- what the whole reading leaves as it was -/
def frY (I I1 : Nat → Nat → Int32) (J J1 : Nat → Nat → Int64) : Prop := (∀ a : Nat, a ≠ 71 → a ≠ 92 → a ≠ 97 → a ≠ 98 → a ≠ 104 → ∀ j : Nat, lim a ≤ j → I1 a j = I a j) ∧ (∀ j : Nat, j ≠ 1 → j ≠ 3 → j ≠ 7 → j ≠ 8 → j ≠ 42 → ¬ fre j → I1 71 j = I 71 j) ∧ (∀ a : Nat, a ≠ 94 → J1 a = J a) ∧ ∀ j : Nat, 10 ≤ j → J1 94 j = J 94 j
section MBOOKM
variable {t : Tp} {L d dr tl : Nat} {I I0 I1 I2 : Nat → Nat → Int32} {J J0 J1 J2 : Nat → Nat → Int64} {a0 a1 a2 a3 a4 : Int32} {R : (Nat → Nat → Int32) → (Nat → Nat → Int64) → Prop} {Q : Option Value → xMem → Prop} {c : List Int} {S B b : aS} {a l p : Nat} {e : Int × Int}
theorem lim_z (h : a < 93 ∨ 107 < a) : lim a = 0 := by
  unfold lim
  rw [if_neg (by omega), if_neg (by omega), if_neg (by omega), if_neg (by omega), if_neg (by omega), if_neg (by omega), if_neg (by omega), if_neg (by omega), if_neg (by omega)]
theorem m_start (K : WP ((d + 1), 222, 70, [some (.ref 71), none], [], (xSH L dr tl, bI1 I, J)) Q) : WP ((d + 1), 222, 0, [some (.ref 71), none], [], (xSH L dr tl, I, J)) Q :=
  w222_0 (w222_52 (hit (by decide) ⟨rfl, w222_52 (hit (by decide) ⟨rfl, w222_52 (hit (by decide) ⟨rfl, w222_52 (hit (by decide) ⟨rfl, w222_52 (hit (by decide) ⟨rfl, w222_52 (sk (by decide) K)⟩)⟩)⟩)⟩)⟩))
theorem bI1_o (h1 : a ≠ 71) (h2 : a ≠ 93) (h3 : a ≠ 102) : bI1 I a = I a := by
  unfold bI1 bI0
  rw [xwI_ne h2, xwI_ne h2, xwI_ne h2, xwI_ne h2, xwI_ne h2, xwI_ne h3, xwI_ne h1, xwI_ne h1, xwI_ne h1, xwI_ne h1, xwI_ne h1, xwI_ne h1, xwI_ne h1, xwI_ne h1]
theorem frY_of (f : frK (bI1 I) I1 J J1) : frY I (bW I1) J J1 := by
  refine ⟨fun a h1 h2 h3 h4 h5 j hj => ?_, fun j h1 h3 h7 h8 h42 hf => ?_, f.2.2.1, f.2.2.2⟩
  · unfold bW
    rw [xwI_ne h1, xwI_ne h1, f.1 a h1 h2 h3 h4 h5 j hj]
    by_cases e1 : a = 93
    · subst e1
      have hj' : 5 ≤ j := hj
      unfold bI1 bI0
      rw [xgn (by omega), xgn (by omega), xgn (by omega), xgn (by omega), xgn (by omega), xwI_ne (by decide), xwI_ne (by decide), xwI_ne (by decide), xwI_ne (by decide), xwI_ne (by decide), xwI_ne (by decide), xwI_ne (by decide), xwI_ne (by decide), xwI_ne (by decide)]
    · by_cases e2 : a = 102
      · subst e2
        have hj' : 2 ≤ j := hj
        unfold bI1 bI0
        rw [xwI_ne (by decide), xwI_ne (by decide), xwI_ne (by decide), xwI_ne (by decide), xwI_ne (by decide), xgn (by omega), xwI_ne (by decide), xwI_ne (by decide), xwI_ne (by decide), xwI_ne (by decide), xwI_ne (by decide), xwI_ne (by decide), xwI_ne (by decide), xwI_ne (by decide)]
      · rw [bI1_o h1 e1 e2]
  · have hf' : j ≠ 2 ∧ j ≠ 4 ∧ j ≠ 5 ∧ j ≠ 6 ∧ j ≠ 44 := by unfold fre at hf; omega
    unfold bW
    rw [xgn h8, xgn h7, f.2.1 j h42 hf]
    unfold bI1 bI0
    rw [xwI_ne (by decide), xwI_ne (by decide), xwI_ne (by decide), xwI_ne (by decide), xwI_ne (by decide), xwI_ne (by decide), xgn hf'.2.2.2.2, xgn h42, xgn hf'.2.2.2.1, xgn hf'.2.2.1, xgn hf'.2.1, xgn hf'.1, xgn h1, xgn h3]
theorem frY.w (f : frY I I1 J J1) (h1 : a ≠ 71) (h2 : a ≠ 92) (h : a < 93 ∨ 107 < a) : I1 a = I a := by
  funext j
  exact f.1 a h1 h2 (by omega) (by omega) (by omega) j (by rw [lim_z h]; exact Nat.zero_le _)
theorem frY.kc (f : frY I I1 J J1) : keepC I I1 J J1 := fun a ha => ⟨f.w (by omega) (by omega) (by omega), f.2.2.1 a (by omega)⟩
theorem MIb.lo (h : MIb S I J) (f : frY I I1 J J1) : MIb S I1 J1 := by
  have g : ∀ a : Nat, a ≠ 71 → a ≠ 92 → a ≠ 97 → a ≠ 98 → a ≠ 104 → ∀ j : Nat, lim a ≤ j → I1 a j = I a j := f.1
  have g93 : ∀ j : Nat, 5 ≤ j → I1 93 j = I 93 j := g 93 (by decide) (by decide) (by decide) (by decide) (by decide)
  have g95 : ∀ j : Nat, 6 ≤ j → I1 95 j = I 95 j := g 95 (by decide) (by decide) (by decide) (by decide) (by decide)
  have g96 : ∀ j : Nat, 8 ≤ j → I1 96 j = I 96 j := g 96 (by decide) (by decide) (by decide) (by decide) (by decide)
  have g99 : ∀ j : Nat, 12 ≤ j → I1 99 j = I 99 j := g 99 (by decide) (by decide) (by decide) (by decide) (by decide)
  have g100 : ∀ j : Nat, 16 ≤ j → I1 100 j = I 100 j := g 100 (by decide) (by decide) (by decide) (by decide) (by decide)
  have g101 : ∀ j : Nat, 192 ≤ j → I1 101 j = I 101 j := g 101 (by decide) (by decide) (by decide) (by decide) (by decide)
  have g102 : ∀ j : Nat, 2 ≤ j → I1 102 j = I 102 j := g 102 (by decide) (by decide) (by decide) (by decide) (by decide)
  have g103 : ∀ j : Nat, 1600 ≤ j → I1 103 j = I 103 j := g 103 (by decide) (by decide) (by decide) (by decide) (by decide)
  have g105 : ∀ j : Nat, 8 ≤ j → I1 105 j = I 105 j := g 105 (by decide) (by decide) (by decide) (by decide) (by decide)
  have g106 : ∀ j : Nat, 8 ≤ j → I1 106 j = I 106 j := g 106 (by decide) (by decide) (by decide) (by decide) (by decide)
  have g107 : ∀ j : Nat, 8 ≤ j → I1 107 j = I 107 j := g 107 (by decide) (by decide) (by decide) (by decide) (by decide)
  obtain ⟨⟨h1, h2, h3, h4, h5, h6, h7⟩, k1, k2, k3, k4, k5, k6⟩ := h
  refine ⟨⟨by rw [g93 5 (by decide)]; exact h1, by rw [g93 7 (by decide)]; exact h2, by rw [g93 6 (by decide)]; exact h3, by rw [g93 8 (by decide)]; exact h4, by rw [g93 9 (by decide)]; exact h5, by rw [g102 2 (by decide)]; exact h6, fun z => by rw [g102 3 (by decide)]; exact h7 z⟩, fun i hi => by rw [g95 _ (by omega)]; exact k1 i hi, fun i hi => by rw [g96 _ (by omega)]; exact k2 i hi, fun i hi => by rw [g99 _ (by omega), g99 _ (by omega), g99 _ (by omega)]; exact k3 i hi, fun w hw => ⟨by rw [g100 _ (by omega)]; exact (k4 w hw).1, fun k hk => by rw [g101 _ (by omega)]; exact (k4 w hw).2 k hk⟩, fun i hi => by rw [g105 _ (by omega), g106 _ (by omega), g107 _ (by omega)]; exact k5 i hi, fun i hi => by rw [g103 _ (by omega)]; exact k6 i hi⟩
theorem MIb.new (w : WB (b, c)) (md : MD b I J) (mc : MC c I) (h : copied c I I1 J J1) : MIb (newS S b) I1 J1 ∧ MIn (newS S b) J1 := by
  obtain ⟨-, -, -, -, -, c6, ⟨c71, c72⟩, c93, c95, c96, c99, c100, c101, c103, c105, c106, c107⟩ := h
  obtain ⟨⟨m1, m2, m3, m4, m5, m6, m7⟩, mi, ml, mr, mw, mu⟩ := md
  have wI := w.nI
  have wR := w.nR
  have wL := w.nL
  have wW := w.nW
  have wU := w.nU
  have w60 : 0 ≤ sNU b := w.2.2.2.2.2.1.1
  have w62 : b 13 (2 * (sNU b).toNat) = c.length := w.2.2.2.2.2.2.2.1
  have w64 : ∀ j : Nat, j < c.length → b 14 j = c.getD j 0 := w.2.2.2.2.2.2.2.2.2.1
  refine ⟨⟨⟨?_, ?_, ?_, ?_, ?_, ?_, fun z => ?_⟩, fun i hi => ?_, fun i hi => ?_, fun i hi => ?_, fun i hi => ⟨?_, fun k hk => ?_⟩, fun i hi => ?_, fun i hi => ?_⟩, fun i hi => ?_, fun i hi => ?_⟩
  · rw [show I1 93 5 = I 93 0 from c93 0 (by decide)]; exact m1
  · rw [show I1 93 7 = I 93 2 from c93 2 (by decide)]; exact m2
  · rw [show I1 93 6 = I 93 1 from c93 1 (by decide)]; exact m3
  · rw [show I1 93 8 = I 93 3 from c93 3 (by decide)]; exact m4
  · rw [show I1 93 9 = I 93 4 from c93 4 (by decide)]; exact m5
  · rw [c71]; exact m6
  · rw [c72]; exact m7 z
  · have hi' : (i : Int) < sNI b := hi
    rw [c95 i (by omega)]; exact (mi i hi').1
  · have hi' : (i : Int) < sNL b := hi
    rw [c96 i (by omega)]; exact (ml i hi').1
  · have hi' : (i : Int) < sNR b := hi
    rw [Nat.add_assoc, Nat.add_assoc, c99 (3 * i) (by omega), c99 (3 * i + 1) (by omega), c99 (3 * i + 2) (by omega)]
    exact ⟨(mr i hi').1, (mr i hi').2.1, (mr i hi').2.2.1⟩
  · have hi' : (i : Int) < sNW b := hi
    rw [c100 i (by omega)]; exact (mw i hi').1
  · have hi' : (i : Int) < sNW b := hi
    have hk' : (k : Int) < b 11 i := hk
    have h12 : b 11 i ≤ 12 := (w.2.2.2.1.2.2 i hi').2.1
    rw [Nat.add_assoc, c101 (12 * i + k) (by omega)]; exact (mw i hi').2 k hk'
  · have hi' : (i : Int) < sNU b := hi
    rw [c105 i (by omega), c106 i (by omega), c107 i (by omega)]; exact mu i hi'
  · have hj' : (i : Int) < b 13 (2 * sNU b).toNat := hi
    rw [show (2 * sNU b).toNat = 2 * (sNU b).toNat by omega, w62] at hj'
    have lt : i < c.length := by omega
    rw [c103 i lt]
    show (I 103 i).toInt = b 14 i
    rw [w64 i lt]
    exact mc.2 i lt
  · have hi' : (i : Int) < sNI b := hi
    rw [c6 i (by omega)]; exact (mi i hi').2
  · have hi' : (i : Int) < sNR b := hi
    rw [show 16 + i = 10 + (6 + i) by omega, c6 (6 + i) (by omega)]; exact (mr i hi').2.2.2
theorem wordsAt.k (h : wordsAt I) (g : ∀ a : Nat, 72 ≤ a → a < 92 → I1 a = I a) : wordsAt I1 := by
  intro a w hm k hk
  have ha : 72 ≤ a ∧ a < 92 := by
    simp only [List.mem_cons, Prod.mk.injEq, List.not_mem_nil, or_false] at hm
    omega
  rw [g a ha.1 ha.2]
  exact h a w hm k hk
theorem m_book (q : MInv S I J) : WP ((d + 43), 222, 0, [some (.ref 71), none], [], (xSH L dr tl, I, J)) (fun v M => ∃ (r : Int32) (I1 : Nat → Nat → Int32) (J1 : Nat → Nat → Int64), v = some (.int r) ∧ r.toInt = bkZ S ∧ M = (xSH L dr tl, I1, J1) ∧ keepC I I1 J J1 ∧ MInv (bkS S) I1 J1) := by
  obtain ⟨q1, q2, q3, q4, q5, q6, q7, q8, q9, q10⟩ := q
  obtain ⟨u1, u2, u3⟩ := q1.1
  have et : (((tpS S).2 : Nat) : Int) = sTp S := by show (((sTp S).toNat : Nat) : Int) = _; omega
  have mt : MT (tpS S) (bI1 I) := ⟨⟨by show (sTp S).toNat ≤ 1600; omega, fun j hj => u3 j (by omega)⟩, by rw [et]; exact q6.1, fun j hj => q6.2 j (by omega)⟩
  have wa : WA (bI1 I) := fun k hk j hj => by rw [bI1_o (by omega) (by omega) (by omega)]; exact WA_of q10 k hk j hj
  have mr : MR (tpS S) (0, false) (bI1 I) := ⟨Nat.zero_le _, ⟨0, rfl, Nat.le_refl 0, rfl⟩, ⟨⟨fun h => absurd h (by decide), fun _ => by show ((-1 : Int32)).toInt < ((0 : Nat) : Int); decide⟩, rfl⟩, rfl⟩
  have mc0 : MC ([] : List Int) (bI1 I) := ⟨rfl, fun j hj => absurd hj (Nat.not_lt_zero _)⟩
  have n0 : ∀ i : Nat, ¬ (i : Int) < 0 := fun i => by omega
  have md0 : MD B0 (bI1 I) J := ⟨⟨rfl, rfl, rfl, rfl, rfl, rfl, fun h => absurd h (by decide)⟩, fun i hi => absurd hi (n0 i), fun i hi => absurd hi (n0 i), fun i hi => absurd hi (n0 i), fun i hi => absurd hi (n0 i), fun i hi => absurd hi (n0 i)⟩
  refine m_start (m_bloop (d := d + 31) (t := tpS S) (Z := told (tpS S)) (I0 := bI1 I) (J0 := J) (fun I1 J1 f1 g1 => ?_) 80 0 (0, false) (B0, []) (bI1 I) J rfl mt wa mr mc0 md0 WB0 (Nat.le_refl 0) rfl frK_refl rfl)
  have fy := frY_of f1
  cases ht : told (tpS S) with
  | error e =>
    rw [ht] at g1
    have g1' : MZ e I1 := g1
    have hS : bkS S = flS S e.1 e.2 := by unfold bkS; rw [ht]
    have hZ : bkZ S = -1 := by unfold bkZ; rw [ht]
    have nz : ¬ bW I1 71 5 = 0 := g1'.n0
    refine sk nz ⟨-1, bW I1, J1, rfl, by rw [hZ]; rfl, rfl, fy.kc, ?_⟩
    rw [hS]
    refine ⟨q1.fl, q2.lo fy, ?_, ?_, ?_, ⟨?_, fun j hj => absurd hj (n0 j)⟩, ?_, ⟨g1'.2.1, g1'.2.2⟩, ?_, q10.k fun a h1 h2 => fy.w (by omega) (by omega) (by omega)⟩
    · exact ⟨fun i hi => by rw [fy.2.2.2 _ (by omega)]; exact q3.1 i hi, fun i hi => by rw [fy.2.2.2 _ (by omega)]; exact q3.2 i hi⟩
    · unfold MIw at *
      rw [fy.2.1 55 (by decide) (by decide) (by decide) (by decide) (by decide) (by unfold fre; omega), fy.w (a := 110) (by decide) (by decide) (by decide), fy.w (a := 111) (by decide) (by decide) (by decide), fy.w (a := 112) (by decide) (by decide) (by decide), fy.w (a := 113) (by decide) (by decide) (by decide), fy.w (a := 114) (by decide) (by decide) (by decide), fy.w (a := 115) (by decide) (by decide) (by decide)]
      exact q4
    · unfold MIc at *
      rw [fy.2.1 65 (by decide) (by decide) (by decide) (by decide) (by decide) (by unfold fre; omega), fy.2.1 66 (by decide) (by decide) (by decide) (by decide) (by decide) (by unfold fre; omega), fy.w (a := 116) (by decide) (by decide) (by decide), fy.w (a := 117) (by decide) (by decide) (by decide), fy.w (a := 118) (by decide) (by decide) (by decide)]
      exact q5
    · have e1 : I1 71 1 = bI1 I 71 1 := f1.2.1 1 (by decide) (by unfold fre; omega)
      show (I1 71 1).toInt = 0
      rw [e1]; rfl
    · unfold MIp at *
      rw [fy.2.1 82 (by decide) (by decide) (by decide) (by decide) (by decide) (by unfold fre; omega), fy.w (a := 130) (by decide) (by decide) (by decide)]
      exact q7
    · rw [fy.2.2.1 71 (by decide)]; exact q9
  | ok y =>
    rw [ht] at g1
    obtain ⟨e5, e6, mc, md, wb, e42⟩ : (I1 71 5).toInt = 0 ∧ (I1 71 6).toInt = -1 ∧ MC y.1.2 I1 ∧ MD y.1.1 I1 J1 ∧ WB y.1 ∧ (I1 71 42).toInt = y.2 := g1
    have hS : bkS S = newS S y.1.1 := by unfold bkS; rw [ht]
    have hZ : bkZ S = y.2 := by unfold bkZ; rw [ht]
    have wb' : WB (y.1.1, y.1.2) := wb
    have z5 : bW I1 71 5 = 0 := eq0.mpr e5
    have mcW : MC y.1.2 (bW I1) := mc
    have mdW : MD y.1.1 (bW I1) J1 := md
    have hw' := q1.new wb'
    refine hit z5 (m_copies (d := d + 41) mcW wb'.2.2.2.2.2.2.2.2.1 fun I2 J2 cd => ?_)
    obtain ⟨mib, min⟩ := MIb.new (S := S) wb' mdW mcW cd
    have CD := cd
    obtain ⟨d1, d2, ⟨d3, d4⟩, d5, d6, -⟩ := CD
    have sb : SBm (newS S y.1.1) I2 := by
      refine ⟨⟨mib.1.2.2.2.2.1, mib.2.2.2.2.2.1, mib.2.2.2.2.2.2⟩, mib.2.1, mib.1.2.1, fun l hl => ⟨mib.2.2.1 l hl, ?_, fun k hk => ?_⟩, d3⟩
      · have h : I2 97 = bW I1 97 := d1 97 (by decide) (by decide) (by decide)
        rw [h]; exact (mdW.2.2.1 l hl).2.1
      · have h : I2 98 = bW I1 98 := d1 98 (by decide) (by decide) (by decide)
        rw [h]; exact (mdW.2.2.1 l hl).2.2 k hk
    have hnl := hw'.2.2.1.1
    refine m_leavesW (d := d + 36) (S := newS S y.1.1) (I0 := I2) (J0 := J2) hw' (RW.new wb') (NW.new wb') (fun k => rfl) (fun I7 J7 fz g7 => ?_) (sNL (newS S y.1.1)).toNat 0 0 I2 J2 (by omega) rfl frZ_refl sb (fun l' p' h' hlt => ?_)
    · have o : ∀ a : Nat, a ≠ 71 → a ≠ 92 → a < 93 ∨ 114 < a → I7 a = I a := fun a h1 h2 h3 => by rw [fz.1 a h1 (by omega), d1 a (by omega) h1 (by omega), fy.w h1 h2 (by omega)]
      have o71 : ∀ j : Nat, j ≠ 53 → j ≠ 55 → j ≠ 65 → I7 71 j = bW I1 71 j := fun j h1 h2 h3 => by rw [fz.2.1 j h1, d2 j h2 h3]
      have oJ : ∀ a : Nat, a ≠ 108 → a ≠ 94 → J7 a = J a := fun a h1 h2 => by rw [fz.2.2 a h1, d6 a h2, fy.2.2.1 a h2]
      refine ⟨I7, J7, rfl, rfl, I7 71 42, I7, J7, rfl, ?_, rfl, fun a ha => ⟨o a (by omega) (by omega) (by omega), oJ a (by omega) (by omega)⟩, ?_⟩
      · rw [hZ, o71 42 (by decide) (by decide) (by decide)]; exact e42
      rw [hS]
      refine ⟨hw', ?_, ?_, ⟨?_, fun l p hP => ?_, fun r hr => ⟨?_, fun z => absurd rfl z⟩⟩, ⟨?_, ?_⟩, ⟨?_, fun j hj => absurd hj (n0 j)⟩, ?_, ⟨?_, ?_⟩, ?_, q10.k fun a h1 h2 => o a (by omega) (by omega) (by omega)⟩
      · unfold MIb at *
        rw [fz.1 93 (by decide) (by decide), fz.1 95 (by decide) (by decide), fz.1 96 (by decide) (by decide), fz.1 99 (by decide) (by decide), fz.1 100 (by decide) (by decide), fz.1 101 (by decide) (by decide), fz.1 102 (by decide) (by decide), fz.1 103 (by decide) (by decide), fz.1 105 (by decide) (by decide), fz.1 106 (by decide) (by decide), fz.1 107 (by decide) (by decide)]
        exact mib
      · unfold MIn at *
        rw [fz.2.2 94 (by decide)]
        exact min
      · rw [fz.2.1 55 (by decide)]; exact d3
      · obtain ⟨y1, y2, y3, y4⟩ := g7 l p hP
        exact ⟨y1, y2, fun _ h => y3 h, y4⟩
      · have h4 : sNR (newS S y.1.1) ≤ 4 := hw'.2.2.2.1.2.1
        rw [fz.1 114 (by decide) (by decide)]
        exact d5 r (by omega)
      · rw [fz.2.1 65 (by decide)]; exact d4
      · obtain ⟨oo, k1, k2, -⟩ := q5.2
        refine ⟨oo, k1, ?_, fun k hk => absurd hk (n0 k)⟩
        rw [o71 66 (by decide) (by decide) (by decide), fy.2.1 66 (by decide) (by decide) (by decide) (by decide) (by decide) (by unfold fre; omega)]
        exact k2
      · have e1 : I1 71 1 = bI1 I 71 1 := f1.2.1 1 (by decide) (by unfold fre; omega)
        rw [o71 1 (by decide) (by decide) (by decide)]
        show (I1 71 1).toInt = 0
        rw [e1]; rfl
      · unfold MIp at *
        rw [o71 82 (by decide) (by decide) (by decide), fy.2.1 82 (by decide) (by decide) (by decide) (by decide) (by decide) (by unfold fre; omega), o 130 (by decide) (by decide) (by decide)]
        exact q7
      · rw [o71 7 (by decide) (by decide) (by decide)]; exact e5
      · rw [o71 8 (by decide) (by decide) (by decide)]; exact e6
      · rw [oJ 71 (by decide) (by decide)]; exact q9
    · have h1 : 0 ≤ l' := h'.1.1
      have h2 : 0 ≤ p' := h'.2.1
      omega
theorem call_book : Call L (d + 43) 162 222 [] [] S := by
  intro dr tl I J h1 h2
  refine WP.mono (c_book h1) (fun v M q => ?_)
  obtain ⟨z, dr', tl', I1, rfl, rfl, km, hz, hi⟩ := q
  refine ⟨dr', tl', I1, J, rfl, WP.mono (m_book (h2.kept km)) (fun v2 M2 q2 => ?_)⟩
  obtain ⟨r2, I2, J2, rfl, hr2, rfl, hk2, hi2⟩ := q2
  exact ⟨by rw [eq_ti.mpr (hr2.trans hz.symm)], bkS S, I2, J2, rfl, hi.kept hk2, hi2⟩
end MBOOKM
