/-! ===== text ===== -/
noncomputable def manyV (S : aS) (l : Int) (p w : Nat) : Int := @ite Int (fitP S l w p) (Classical.propDecidable _) (rfAll S l (p + wl S w)) 0
noncomputable def sel (S : aS) (l : Int) (p : Nat) : Nat → Nat → Int → Nat × Int
  | 0, w, x => (w, x)
  | m + 1, w, x => if x < manyV S l p w then (w, x) else sel S l p m (w + 1) (x - manyV S l p w)
noncomputable def tx (S : aS) (l : Int) : Nat → Nat → Int → Nat → Int
  | 0, _, _, _ => -1
  | m + 1, p, x, j => if (p : Int) = plc S l then -1 else
    if j = 0 then (sel S l p (sNW S).toNat 0 x).1 else tx S l m (p + wl S (sel S l p (sNW S).toNat 0 x).1) (sel S l p (sNW S).toNat 0 x).2 (j - 1)
section TEXT
variable {S : aS} {L d dr tl : Nat} {I : Nat → Nat → Int32} {J J0 : Nat → Nat → Int64} {a1 a2 a3 a4 a5 a7 a8 a9 a10 : Int32} {b0 b2 b5 : Int64} {f : Nat → Int} {l : Int} {n p k w : Nat} {Q : Option Value → xMem → Prop}
theorem manyV_y (h : fitP S l w p) : manyV S l p w = rfAll S l (p + wl S w) := if_pos h
theorem manyV_n (h : ¬ fitP S l w p) : manyV S l p w = 0 := if_neg h
theorem rfAll_ok : okM (rfAll S l) := rfA_ok _
theorem rtAll_ok : okM (rtAll S l) := rtA_ok _
theorem manyV_b : 0 ≤ manyV S l p w ∧ manyV S l p w ≤ 1000000000000000 := by
  by_cases h : fitP S l w p
  · rw [manyV_y h]; exact rfAll_ok _
  · rw [manyV_n h]; omega
theorem rfW_o {q : Nat} (h : q ≠ p) : ∀ w : Nat, rfW S l f p w q = f q := by
  intro w
  induction w with
  | zero => rfl
  | succ w ih =>
    by_cases g : fitP S l w p
    · rw [rfW_y g, updF_n h]; exact ih
    · rw [rfW_n g]; exact ih
theorem rfA_0 {q : Nat} : ∀ k : Nat, k ≤ n → q + k < n → rfA S l n k q = 0 := by
  intro k
  induction k with
  | zero => intro _ h; show (if q = n then (1 : Int) else 0) = 0; rw [if_neg (by omega)]
  | succ k ih => intro h1 h2; rw [rfA, rfW_o (by omega)]; exact ih (by omega) (by omega)
theorem rfA_st {q : Nat} : ∀ j k : Nat, k + j ≤ n → n ≤ q + k → rfA S l n (k + j) q = rfA S l n k q := by
  intro j
  induction j with
  | zero => intro k _ _; rfl
  | succ j ih => intro k h1 h2; rw [show k + (j + 1) = (k + j) + 1 by omega, rfA, rfW_o (by omega)]; exact ih k (by omega) h2
theorem rfW_le (hw : WF S) (h0 : f p = 0) : ∀ w : Nat, (w : Int) ≤ sNW S → rfW S l f p w p ≤ sumI (fun v => @ite Int (fitP S l v p) (Classical.propDecidable _) (f (p + wl S v)) 0) w := by
  intro w
  induction w with
  | zero => intro _; show f p ≤ 0; omega
  | succ w ih =>
    intro hk
    have h1 := ih (by omega)
    have wb := wl_b hw (w := w) (by omega)
    show _ ≤ sumI (fun v => @ite Int (fitP S l v p) (Classical.propDecidable _) (f (p + wl S v)) 0) w + @ite Int (fitP S l w p) (Classical.propDecidable _) (f (p + wl S w)) 0
    by_cases g : fitP S l w p
    · rw [rfW_y g, updF_s, rfW_o (q := p + wl S w) (by omega)]
      rw [if_pos g]; omega
    · rw [rfW_n g, if_neg g]; omega
theorem sumI_eq {f g : Nat → Int} : ∀ n : Nat, (∀ i, i < n → f i = g i) → sumI f n = sumI g n := by
  intro n
  induction n with
  | zero => intro _; rfl
  | succ n ih => intro h; show sumI f n + f n = sumI g n + g n; rw [ih (fun i hi => h i (by omega)), h n (by omega)]
theorem rf_le (hw : WF S) (hp : (p : Int) < plc S l) : rfAll S l p ≤ sumI (manyV S l p) (sNW S).toNat := by
  have hN := hw.2.2.2.2.1
  have e0 : rfAll S l p = rfA S l (plc S l).toNat ((plc S l).toNat - 1 - p + 1) p := by
    unfold rfAll
    have := rfA_st (S := S) (l := l) (n := (plc S l).toNat) (q := p) p ((plc S l).toNat - 1 - p + 1) (by omega) (by omega)
    rw [show (plc S l).toNat - 1 - p + 1 + p = (plc S l).toNat by omega] at this
    exact this
  rw [e0, rfA, show (plc S l).toNat - 1 - ((plc S l).toNat - 1 - p) = p by omega]
  have h1 := rfW_le (S := S) (l := l) (p := p) (f := rfA S l (plc S l).toNat ((plc S l).toNat - 1 - p)) hw (rfA_0 _ (by omega) (by omega)) (sNW S).toNat (by omega)
  refine Int.le_trans h1 (Int.le_of_eq (sumI_eq _ (fun v hv => ?_)))
  have wb := wl_b hw (w := v) (by omega)
  by_cases g : fitP S l v p
  · rw [manyV_y g]
    rw [if_pos g]
    have gf := g.1
    unfold rfAll
    have := rfA_st (S := S) (l := l) (n := (plc S l).toNat) (q := p + wl S v) (p + 1) ((plc S l).toNat - 1 - p) (by omega) (by omega)
    rw [show (plc S l).toNat - 1 - p + (p + 1) = (plc S l).toNat by omega] at this
    exact this.symm
  · rw [manyV_n g, if_neg g]
theorem sel_y {m : Nat} {x : Int} (h : x < manyV S l p w) : sel S l p (m + 1) w x = (w, x) := if_pos h
theorem sel_n {m : Nat} {x : Int} (h : ¬ x < manyV S l p w) : sel S l p (m + 1) w x = sel S l p m (w + 1) (x - manyV S l p w) := if_neg h
theorem sel_ok : ∀ (m w : Nat) (x : Int), 0 ≤ x → x < sumI (manyV S l p) (w + m) - sumI (manyV S l p) w → (sel S l p m w x).1 < w + m ∧ 0 ≤ (sel S l p m w x).2 ∧ (sel S l p m w x).2 < manyV S l p (sel S l p m w x).1 := by
  intro m
  induction m with
  | zero => intro w x h0 h1; rw [Nat.add_zero] at h1; omega
  | succ m ih =>
    intro w x h0 h1
    by_cases h : x < manyV S l p w
    · rw [sel_y h]; exact ⟨by show w < _; omega, h0, h⟩
    · rw [sel_n h]
      have e : sumI (manyV S l p) (w + 1) = sumI (manyV S l p) w + manyV S l p w := rfl
      have := ih (w + 1) (x - manyV S l p w) (by omega) (by rw [show w + 1 + m = w + (m + 1) by omega]; omega)
      exact ⟨by omega, this.2⟩
theorem sel_all (hw : WF S) (hp : (p : Int) < plc S l) {x : Int} (h0 : 0 ≤ x) (h1 : x < rfAll S l p) : ((sel S l p (sNW S).toNat 0 x).1 : Int) < sNW S ∧ 0 ≤ (sel S l p (sNW S).toNat 0 x).2 ∧ (sel S l p (sNW S).toNat 0 x).2 < rfAll S l (p + wl S (sel S l p (sNW S).toNat 0 x).1) ∧ fitP S l (sel S l p (sNW S).toNat 0 x).1 p := by
  have hN := hw.2.2.2.2.1
  have le := rf_le hw hp
  have := sel_ok (S := S) (l := l) (p := p) (sNW S).toNat 0 x h0 (by rw [Nat.zero_add]; show x < sumI (manyV S l p) (sNW S).toNat - 0; omega)
  by_cases g : fitP S l (sel S l p (sNW S).toNat 0 x).1 p
  · rw [manyV_y g] at this
    exact ⟨by omega, this.2.1, this.2.2, g⟩
  · rw [manyV_n g] at this; omega
theorem tx_e {m j : Nat} {x : Int} (h : (p : Int) = plc S l) : tx S l m p x j = -1 := by
  cases m with
  | zero => rfl
  | succ m => exact if_pos h
theorem tx_0 {m : Nat} {x : Int} (h : ¬ (p : Int) = plc S l) : tx S l (m + 1) p x 0 = (sel S l p (sNW S).toNat 0 x).1 := by
  rw [tx, if_neg h, if_pos rfl]
theorem tx_s {m j : Nat} {x : Int} (h : ¬ (p : Int) = plc S l) (hj : j ≠ 0) : tx S l (m + 1) p x j = tx S l m (p + wl S (sel S l p (sNW S).toNat 0 x).1) (sel S l p (sNW S).toNat 0 x).2 (j - 1) := by
  rw [tx, if_neg h, if_neg hj]
/-- the class chooses a word -/
theorem c_choose (hc : CB S tl I) (ho : CIo 8 I ∧ CIo 31 I) (hJ : ∀ q : Nat, (q : Int) ≤ plc S a1.toInt → (J 69 q).toInt = rfAll S a1.toInt q) (e7 : a7.toInt = p) (hp : (p : Int) < plc S a1.toInt) : ∀ (m k : Nat) (x : Int64) (i : Int32), ((k + m : Nat) : Int) = sNW S → i.toInt = k → 0 ≤ x.toInt → x.toInt < sumI (manyV S a1.toInt p) (k + m) - sumI (manyV S a1.toInt p) k → (∀ (x' : Int64) (w' i' : Int32), w'.toInt = (sel S a1.toInt p m k x.toInt).1 → x'.toInt = (sel S a1.toInt p m k x.toInt).2 → 0 ≤ i'.toInt → i'.toInt ≤ 16 → WP ((d + 6), 124, 64, [some (.ref 68), some (.int a1), none, none, some (.int a4), some (.long x'), none, some (.int a7), some (.int a8), some (.int w'), some (.int i'), none, none], [], (xSH L dr tl, I, J)) Q) → WP ((d + 6), 124, 64, [some (.ref 68), some (.int a1), none, none, some (.int a4), some (.long x), none, some (.int a7), some (.int a8), some (.int (-1)), some (.int i), none, none], [], (xSH L dr tl, I, J)) Q := by
  have pb := plc_le hc.1 a1.toInt
  have h16 := hc.1.2.2.2.2.1.2.1
  have hn := hc.2.2.1.1.2.2.2.1
  intro m
  induction m with
  | zero => intro k x i hk hi h0 h1 K; rw [Nat.add_zero] at h1; omega
  | succ m ih =>
    intro k x i hk hi h0 h1 K
    have e1 : (i + 1).toInt = ((k + 1 : Nat) : Int) := by rw [add1 (by omega) (by omega), hi]; rfl
    have wb := wl_b hc.1 (w := k) (by omega)
    have mb := manyV_b (S := S) (l := a1.toInt) (p := p) (w := k)
    have es : sumI (manyV S a1.toInt p) (k + 1) = sumI (manyV S a1.toInt p) k + manyV S a1.toInt p k := rfl
    have xb : x.toInt < 9223372036854775808 := by have := Int64.toInt_lt x; simpa using this
    refine w124_64 hc.2.1 ((s_told hc.2.1).v ((s_size (sp10 hc.2.1) hn).u fun r2 g2 => brz lt_ti (fun _ => hit rfl ((s_fits hc ho (w := k) (p := p) (by omega) hi e7 (by omega)).u (fun y => br1 ((s_behind hc (w := k) (by omega) hi (by omega)).u fun r14 g14 => ?_)) (fun y => br0 (brz xlc_lt (fun z => ?_) (fun z => ?_))))) (fun z => by omega)))
    · have x6 : xIx r14 = p + wl S k := by rw [xIx_ti, g14]; omega
      have yf := y.1
      have v := hJ (p + wl S k) (by omega)
      rw [x6]
      refine ⟨by rw [xin_iff, g14]; omega, brz xlc_lt (fun z => ?_) (fun z => ?_)⟩
      · have sy : x.toInt < manyV S a1.toInt p k := by rw [manyV_y y]; omega
        rw [sel_y sy] at K
        exact K x i (i + 1) hi rfl (by omega) (by omega)
      · have sn : ¬ x.toInt < manyV S a1.toInt p k := by rw [manyV_y y]; omega
        have ex : (x - J 69 (p + wl S k)).toInt = x.toInt - manyV S a1.toInt p k := by rw [manyV_y y] at mb ⊢; rw [lsub (by omega) (by omega), v]
        rw [sel_n sn, ← ex] at K
        exact ih (k + 1) _ _ (by omega) e1 (by omega) (by rw [show k + 1 + m = k + (m + 1) by omega]; omega) K
    · have z' : x.toInt < (0 : Int) := z
      omega
    · have m0 := manyV_n y
      have ex : (x - 0).toInt = x.toInt - manyV S a1.toInt p k := by rw [m0, lsub (by show _ ≤ x.toInt - 0; omega) (by show x.toInt - 0 < _; omega)]; rfl
      rw [sel_n (by rw [m0]; omega), ← ex] at K
      exact ih (k + 1) _ _ (by omega) e1 (by omega) (by rw [show k + 1 + m = k + (m + 1) by omega]; omega) K
theorem c_text_loop (hc : CB S tl I) (ho : CIo 8 I ∧ CIo 31 I) (hJ : ∀ q : Nat, (q : Int) ≤ plc S a1.toInt → (J 69 q).toInt = rfAll S a1.toInt q) : ∀ (m p i : Nat) (x : Int64) (a7 a8 : Int32), plc S a1.toInt ≤ (p : Int) + m → (p : Int) ≤ plc S a1.toInt → i ≤ p → a7.toInt = p → a8.toInt = i → (i : Int) ≤ a4.toInt → 0 ≤ x.toInt → x.toInt < rfAll S a1.toInt p → (∀ r : Int32, r.toInt = tx S a1.toInt (m + 1) p x.toInt (a4.toInt - i).toNat → Q (some (.int r)) (xSH L dr tl, I, J)) → WP ((d + 6), 124, 35, [some (.ref 68), some (.int a1), none, none, some (.int a4), some (.long x), none, some (.int a7), some (.int a8), none, none, none, none], [], (xSH L dr tl, I, J)) Q := by
  have pb := plc_le hc.1 a1.toInt
  have hN := hc.1.2.2.2.2.1
  have hn := hc.2.2.1.1.2.2.2.1
  have lt64 : ∀ {a : Int32}, a < 64 ↔ a.toInt < 64 := fun {a} => lt_ti
  intro m
  induction m with
  | zero =>
    intro p i x a7 a8 hm hp hi e7 e8 h4 h0 h1 K
    refine w124_35 hc.2.1 (brz lt64 (fun _ => (s_told hc.2.1).v ((s_placesOf hc.1 hc.2.1 hc.2.2.1).u fun r3 g3 => brz lt_ti (fun z => by omega) (fun _ => K (-1) ?_))) (fun z => K (-1) ?_))
    · rw [tx_e (by omega)]; rfl
    · rw [tx_e (by omega)]; rfl
  | succ m ih =>
    intro p i x a7 a8 hm hp hi e7 e8 h4 h0 h1 K
    by_cases hpn : (p : Int) = plc S a1.toInt
    · refine w124_35 hc.2.1 (brz lt64 (fun _ => (s_told hc.2.1).v ((s_placesOf hc.1 hc.2.1 hc.2.2.1).u fun r3 g3 => brz lt_ti (fun z => by omega) (fun _ => K (-1) ?_))) (fun z => K (-1) ?_))
      · rw [tx_e hpn]; rfl
      · rw [tx_e hpn]; rfl
    · have hp' : (p : Int) < plc S a1.toInt := by omega
      obtain ⟨s1, s2, s3, s4⟩ := sel_all hc.1 hp' h0 h1
      have le := rf_le hc.1 hp'
      have wb := wl_b hc.1 s1
      have sf := s4.1
      refine w124_35 hc.2.1 (brz lt64 (fun _ => (s_told hc.2.1).v ((s_placesOf hc.1 hc.2.1 hc.2.2.1).u fun r3 g3 => brz lt_ti (fun _ => c_choose hc ho hJ e7 hp' (sNW S).toNat 0 x 0 (by omega) rfl h0 (by rw [Nat.zero_add]; show x.toInt < sumI (manyV S a1.toInt p) (sNW S).toNat - 0; omega) fun x' w' i' ew ex hi1 hi2 => ?_) (fun z => by omega))) (fun z => by omega))
      have nw : ¬ w' = -1 := fun z => by rw [eqm] at z; omega
      have fin : ((a8 = a4 → Q (some (.int w')) (xSH L dr tl, I, J)) ∧ (¬ a8 = a4 → WP ((d + 5), 122, 0, [some (.ref 68), some (.int w'), some (.int a7)], [], (xSH L dr tl, I, J)) (fun v M => ∃ (r10 : Int32) (I10 : Nat → Nat → Int32) (J10 : Nat → Nat → Int64), v = some (.int r10) ∧ M = (xSH L dr tl, I10, J10) ∧ WP ((d + 6), 124, 35, [some (.ref 68), some (.int a1), none, none, some (.int a4), some (.long x'), none, some (.int r10), some (.int (a8 + 1)), none, none, none, none], [], (xSH L dr tl, I10, J10)) Q))) := by
        refine brz eq_ti (fun z => K w' ?_) (fun z => (s_behind hc s1 ew (by omega)).u fun r10 g10 => ?_)
        · rw [show (a4.toInt - i).toNat = 0 by omega, tx_0 hpn]; exact ew
        · rw [tx_s hpn (by omega)] at K
          have e1 : (a8 + 1).toInt = ((i + 1 : Nat) : Int) := by rw [add1 (by omega) (by omega), e8]; rfl
          refine ih (p + wl S (sel S a1.toInt p (sNW S).toNat 0 x.toInt).1) (i + 1) x' r10 _ (by omega) (by omega) (by omega) (by omega) e1 (by omega) (by rw [ex]; exact s2) (by rw [ex]; exact s3) fun r hr => K r ?_
          rw [hr, ex, show (a4.toInt - ((i + 1 : Nat) : Int)).toNat = (a4.toInt - i).toNat - 1 by omega]
      exact w124_64 hc.2.1 ((s_told hc.2.1).v ((s_size (sp10 hc.2.1) hn).u fun r2 g2 => brz lt_ti (fun _ => sk nw (sk nw fin)) (fun _ => sk nw fin)))
theorem m_behindR (hm : MB S I J) (hl : isL S a1.toInt) (hJ : ∀ q : Nat, (q : Int) ≤ plc S a1.toInt → (J 129 q).toInt = rfAll S a1.toInt q) (hk : (w : Int) < sNW S) (e2 : a2.toInt = w) (e3 : a3.toInt = p) (hp : p ≤ 64) : PL ((d + 3), 307, 0, [some (.ref 71), some (.int a1), some (.int a2), some (.int a3)], [], (xSH L dr tl, I, J)) (manyV S a1.toInt p w) (xSH L dr tl, I, J) := by
  have wb := wl_b hm.1 hk
  have pb := plc_le hm.1 a1.toInt
  obtain ⟨i1, v1⟩ := m_wlen hm hk e2
  refine w307_0 ((m_canBegin hm hl hk e2 e3 hp).u (fun y => br1 ⟨i1, ?_⟩) (fun y => br0 ⟨0, rfl, (manyV_n y).symm, rfl⟩))
  have g6 : (a3 + I 100 (xIx (16 + a2))).toInt = ((p + wl S w : Nat) : Int) := by rw [addn (by omega) (by omega) (by omega) (by omega)]; omega
  have x6 : xIx (a3 + I 100 (xIx (16 + a2))) = p + wl S w := by rw [xIx_ti, g6]; exact Int.toNat_natCast _
  have yf := y.1
  rw [x6]
  exact ⟨by rw [xin_iff, g6]; omega, _, rfl, by rw [manyV_y y]; exact hJ _ (by omega), rfl⟩
theorem m_choose (hm : MB S I J) (hl : isL S a1.toInt) (hJ : ∀ q : Nat, (q : Int) ≤ plc S a1.toInt → (J 129 q).toInt = rfAll S a1.toInt q) (e7 : a7.toInt = p) (hp : (p : Int) < plc S a1.toInt) : ∀ (m k : Nat) (x : Int64) (i : Int32), ((k + m : Nat) : Int) = sNW S → i.toInt = k → 0 ≤ x.toInt → x.toInt < sumI (manyV S a1.toInt p) (k + m) - sumI (manyV S a1.toInt p) k → (∀ (x' : Int64) (w' b' : Int32), w'.toInt = (sel S a1.toInt p m k x.toInt).1 → x'.toInt = (sel S a1.toInt p m k x.toInt).2 → b'.toInt = (p : Int) + S 11 (sel S a1.toInt p m k x.toInt).1 → WP ((d + 4), 306, 51, [some (.ref 71), some (.int a1), none, none, some (.int a4), some (.long x'), none, some (.int b'), some (.int w'), some (.int (a9 + 1))], [], (xSH L dr tl, I, J)) Q) → WP ((d + 4), 306, 73, [some (.ref 71), some (.int a1), none, none, some (.int a4), some (.long x), none, some (.int a7), some (.int i), some (.int a9)], [], (xSH L dr tl, I, J)) Q := by
  have pb := plc_le hm.1 a1.toInt
  have h16 := hm.1.2.2.2.2.1.2.1
  intro m
  induction m with
  | zero => intro k x i hk hi h0 h1 K; rw [Nat.add_zero] at h1; omega
  | succ m ih =>
    intro k x i hk hi h0 h1 K
    have e1 : (i + 1).toInt = ((k + 1 : Nat) : Int) := by rw [add1 (by omega) (by omega), hi]; rfl
    have wb := wl_b hm.1 (w := k) (by omega)
    have mb := manyV_b (S := S) (l := a1.toInt) (p := p) (w := k)
    have es : sumI (manyV S a1.toInt p) (k + 1) = sumI (manyV S a1.toInt p) k + manyV S a1.toInt p k := rfl
    have xb : x.toInt < 9223372036854775808 := by have := Int64.toInt_lt x; simpa using this
    obtain ⟨i1, v1⟩ := m_wlen (a2 := i) hm (w := k) (by omega) hi
    refine w306_73 ((m_behindR hm hl hJ (w := k) (by omega) hi e7 (by omega)).u fun r1 g1 => brz xlc_lt (fun z => ⟨i1, ?_⟩) (fun z => (m_behindR hm hl hJ (w := k) (by omega) hi e7 (by omega)).u fun r3 g3 => ?_))
    · have sy : x.toInt < manyV S a1.toInt p k := by omega
      rw [sel_y sy] at K
      exact K x i _ hi rfl (by rw [addn (by omega) (by omega) (by omega) (by omega), v1, e7])
    · have sn : ¬ x.toInt < manyV S a1.toInt p k := by omega
      have ex : (x - r3).toInt = x.toInt - manyV S a1.toInt p k := by rw [lsub (by omega) (by omega), g3]
      rw [sel_n sn, ← ex] at K
      exact ih (k + 1) _ _ (by omega) e1 (by omega) (by rw [show k + 1 + m = k + (m + 1) by omega]; omega) K
theorem m_text_loop (hm : MB S I J) (hl : isL S a1.toInt) (hJ : ∀ q : Nat, (q : Int) ≤ plc S a1.toInt → (J 129 q).toInt = rfAll S a1.toInt q) : ∀ (m p i : Nat) (x : Int64) (a7 a8 a9 : Int32), plc S a1.toInt ≤ (p : Int) + m → (p : Int) ≤ plc S a1.toInt → i ≤ p → a7.toInt = p → a9.toInt = i → (i : Int) ≤ a4.toInt → 0 ≤ x.toInt → x.toInt < rfAll S a1.toInt p → (∀ r : Int32, r.toInt = tx S a1.toInt (m + 1) p x.toInt (a4.toInt - i).toNat → Q (some (.int r)) (xSH L dr tl, I, J)) → WP ((d + 4), 306, 51, [some (.ref 71), some (.int a1), none, none, some (.int a4), some (.long x), none, some (.int a7), some (.int a8), some (.int a9)], [], (xSH L dr tl, I, J)) Q := by
  have pb := plc_le hm.1 a1.toInt
  have hN := hm.1.2.2.2.2.1
  have hpl : plc S a1.toInt = S 5 a1.toInt.toNat := by unfold plc; rw [if_pos hl]
  intro m
  induction m with
  | zero =>
    intro p i x a7 a8 a9 hm' hp hi e7 e9 h4 h0 h1 K
    refine w306_51 (brz lt_ti (fun z => by omega) (fun _ => (m_length hm.1 hm.2.1 hl).u fun r2 g2 => brz eq_ti (fun _ => K (-1) ?_) (fun z => by omega)))
    rw [tx_e (by omega)]; rfl
  | succ m ih =>
    intro p i x a7 a8 a9 hm' hp hi e7 e9 h4 h0 h1 K
    by_cases hpn : (p : Int) = plc S a1.toInt
    · refine w306_51 (brz lt_ti (fun z => by omega) (fun _ => (m_length hm.1 hm.2.1 hl).u fun r2 g2 => brz eq_ti (fun _ => K (-1) ?_) (fun z => by omega)))
      rw [tx_e hpn]; rfl
    · have hp' : (p : Int) < plc S a1.toInt := by omega
      obtain ⟨s1, s2, s3, s4⟩ := sel_all hm.1 hp' h0 h1
      have le := rf_le hm.1 hp'
      have wb := wl_b hm.1 s1
      have sf := s4.1
      have e1 : (a9 + 1).toInt = ((i + 1 : Nat) : Int) := by rw [add1 (by omega) (by omega), e9]; rfl
      refine w306_51 (brz lt_ti (fun z => by omega) (fun _ => (m_length hm.1 hm.2.1 hl).u fun r2 g2 => brz eq_ti (fun z => by omega) (fun _ => m_choose hm hl hJ e7 hp' (sNW S).toNat 0 x 0 (by omega) rfl h0 (by rw [Nat.zero_add]; show x.toInt < sumI (manyV S a1.toInt p) (sNW S).toNat - 0; omega) fun x' w' b' ew ex eb => ?_)))
      by_cases hj : a4.toInt = i
      · refine w306_51 (brz lt_ti (fun _ => K w' ?_) (fun z => by omega))
        rw [show (a4.toInt - i).toNat = 0 by omega, tx_0 hpn]; exact ew
      · rw [tx_s hpn (by omega)] at K
        refine ih (p + wl S (sel S a1.toInt p (sNW S).toNat 0 x.toInt).1) (i + 1) x' b' w' _ (by omega) (by omega) (by omega) (by omega) e1 (by omega) (by rw [ex]; exact s2) (by rw [ex]; exact s3) fun r hr => K r ?_
        rw [hr, ex, show (a4.toInt - ((i + 1 : Nat) : Int)).toNat = (a4.toInt - i).toNat - 1 by omega]
/-- text's answer -/
noncomputable def ansText (S : aS) (l k j : Int) : Int := if isL S l ∧ 0 ≤ k ∧ 0 ≤ j ∧ k < rfAll S l 0 then tx S l ((plc S l).toNat + 1) 0 k j.toNat else -1
theorem call_text : Call L (d + 8) 189 306 [.int a1, .long b2, .int a4] [.int a1, .long b2, .int a4] S := by
  refine Call.st S (ansText S a1.toInt b2.toInt a4.toInt) (fun dr tl I J q => ?_) (fun dr tl I J q => ?_)
  · have hc := q.cb
    have pb := plc_le hc.1 a1.toInt
    have rb := rfAll_ok (S := S) (l := a1.toInt) 0
    refine w189_0 hc.2.1 ((s_told hc.2.1).v ((s_hasLeaf hc.2.1 hc.2.2.1).u (fun hl => br1 (brz xlc_lt (fun z => ⟨-1, I, J, rfl, ?_, rfl, keepM_refl, q⟩) (fun z => brz lt0 (fun y => ⟨-1, I, J, rfl, ?_, rfl, keepM_refl, q⟩) (fun y => w124_0 (s_onward hc ⟨q.2.2.2.1.1, q.2.2.2.1.2.1⟩ fun J1 h1 h2 => ?_))))) (fun z => br0 ⟨-1, I, J, rfl, ?_, rfl, keepM_refl, q⟩)))
    · have z' : b2.toInt < (0 : Int) := z
      rw [ansText, if_neg (by omega)]; rfl
    · rw [ansText, if_neg (by omega)]; rfl
    · have z' : ¬ b2.toInt < (0 : Int) := z
      have v0 := h2 0 (by omega)
      have fr : keepM I I J J1 := fun a ha => ⟨rfl, h1 a (by omega)⟩
      have q1 := q.jj (h1 2 (by decide))
      refine brz xlc_lt (fun u => brz xlc_lt (fun _ => c_text_loop hc ⟨q.2.2.2.1.1, q.2.2.2.1.2.1⟩ h2 (plc S a1.toInt).toNat 0 0 b2 0 0 (by omega) (by omega) (by omega) rfl rfl (by show (0 : Int) ≤ _; omega) (by omega) (by omega) fun r hr => ⟨r, I, J1, rfl, rfl, r, I, J1, rfl, ?_, rfl, fr, q1⟩) (fun u2 => ?_)) (fun u => ⟨-1, I, J1, rfl, rfl, -1, I, J1, rfl, ?_, rfl, fr, q1⟩)
      · rw [ansText, if_pos ⟨hl, by omega, by omega, by omega⟩, hr, show (a4.toInt - ((0 : Nat) : Int)).toNat = a4.toInt.toNat by omega]
      · have u2' : ¬ b2.toInt < (1000000000000000 : Int) := u2
        omega
      · rw [ansText, if_neg (by omega)]; rfl
    · rw [ansText, if_neg (fun y => z y.1)]; rfl
  · have hm := q.mb
    have pb := plc_le hm.1 a1.toInt
    have rb := rfAll_ok (S := S) (l := a1.toInt) 0
    refine w306_0 ((m_isLeaf hm.1 hm.2.1).u (fun hl => br1 (brz xlc_lt (fun z => ⟨-1, I, J, rfl, ?_, rfl, keepC_refl, q⟩) (fun z => brz lt0 (fun y => ⟨-1, I, J, rfl, ?_, rfl, keepC_refl, q⟩) (fun y => m_rowsOf hm hl fun J1 h1 h2 => ?_)))) (fun z => br0 ⟨-1, I, J, rfl, ?_, rfl, keepC_refl, q⟩))
    · have z' : b2.toInt < (0 : Int) := z
      rw [ansText, if_neg (by omega)]; rfl
    · rw [ansText, if_neg (by omega)]; rfl
    · have z' : ¬ b2.toInt < (0 : Int) := z
      have v0 := (h2 0 (by omega)).2
      have fr : keepC I I J J1 := fun a ha => ⟨rfl, h1 a (by omega) (by omega)⟩
      have q1 := q.jj (h1 71 (by decide) (by decide)) (h1 94 (by decide) (by decide))
      refine brz xlc_lt (fun u => m_text_loop (J := J1) hm hl (fun q hq => (h2 q hq).2) (plc S a1.toInt).toNat 0 0 b2 0 (-1) 0 (by omega) (by omega) (by omega) rfl rfl (by show (0 : Int) ≤ _; omega) (by omega) (by omega) fun r hr => ⟨r, I, J1, rfl, ?_, rfl, fr, q1⟩) (fun u => ⟨-1, I, J1, rfl, ?_, rfl, fr, q1⟩)
      · rw [ansText, if_pos ⟨hl, by omega, by omega, by omega⟩, hr, show (a4.toInt - ((0 : Nat) : Int)).toNat = a4.toInt.toNat by omega]
      · rw [ansText, if_neg (by omega)]; rfl
    · rw [ansText, if_neg (fun y => z y.1)]; rfl
end TEXT
