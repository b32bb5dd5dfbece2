/-! ===== an hour passes: the reference ===== -/
theorem xwI_self {I : Nat → Nat → Int32} {a k : Nat} : xwI I a k (I a k) = I := by
  funext b j
  by_cases e : b = a
  · rw [e]
    by_cases e2 : j = k
    · rw [e2, xg]
    · rw [xgn e2]
  · rw [xwI_ne e]
theorem sset_2 {S : aS} {f k : Nat} {v v' : Int} : sset (sset S f k v) f k v' = sset S f k v' := by
  funext g j
  unfold sset
  by_cases e : g = f ∧ j = k
  · rw [if_pos e, if_pos e]
  · simp only [if_neg e]
theorem sset_comm {S : aS} {f k f' k' : Nat} {v v' : Int} (h : f ≠ f') : sset (sset S f k v) f' k' v' = sset (sset S f' k' v') f k v := by
  funext g j
  unfold sset
  by_cases e : g = f ∧ j = k
  · have e' : ¬ (g = f' ∧ j = k') := fun z => h (e.1.symm.trans z.1)
    simp only [if_pos e, if_neg e']
  · simp only [if_neg e]
section HOURM
variable {S T : aS} {L d dr tl : Nat} {I I2 : Nat → Nat → Int32} {J : Nat → Nat → Int64} {a1 a2 a3 a4 a5 a6 : Int32} {r x k m f : Nat} {l p l' p' v e t n : Int} {Q : Option Value → xMem → Prop}
theorem sit_2 : sit (sit S r l p) r l' p' = sit S r l' p' := by
  unfold sit
  rw [sset_comm (f := 20) (f' := 19) (by decide), sset_2, sset_2]
theorem ink3_sit : ink3 (sit S r l p) x v e t = sit (ink3 S x v e t) r l p := by
  unfold ink3 sit
  rw [sset_comm (f := 20) (f' := 15) (by decide), sset_comm (f := 19) (f' := 15) (by decide), sset_comm (f := 20) (f' := 16) (by decide), sset_comm (f := 19) (f' := 16) (by decide), sset_comm (f := 20) (f' := 17) (by decide), sset_comm (f := 19) (f' := 17) (by decide)]
theorem seenS_sit : seenS (sit S r l p) x n t = sit (seenS S x n t) r l p := by
  have e16 : sit S r l p 16 = S 16 := sit_f (by decide) (by decide)
  have e15 : sit S r l p 15 = S 15 := sit_f (by decide) (by decide)
  unfold seenS
  rw [e16, e15]
  split
  · exact ink3_sit
  · rfl
theorem seenN_sit : seenN (sit S r l p) x n = seenN S x n := by
  have e16 : sit S r l p 16 = S 16 := sit_f (by decide) (by decide)
  unfold seenN; rw [e16]
theorem sit_id (h1 : S 19 r = l) (h2 : S 20 r = p) : sit S r l p = S := by
  funext g j
  unfold sit sset
  by_cases e : g = 20 ∧ j = r
  · rw [if_pos e, e.1, e.2, h2]
  · rw [if_neg e]
    by_cases e2 : g = 19 ∧ j = r
    · rw [if_pos e2, e2.1, e2.2, h1]
    · rw [if_neg e2]
theorem MInv.gone {b : Int32} (h : MInv S I J) : MInv (sit S r (-1) 0) (xwI (xwI I 115 r b) 114 r (-1)) J := by
  obtain ⟨g1, g2, g3, g4, g5, g6, g7, g8, g9, g10⟩ := h
  have g4' : MIw (sit S r (-1) 0) (xwI (xwI I 115 r b) 114 r (-1)) := by
    refine ⟨g4.1, g4.2.1, fun r' hr' => ?_⟩
    by_cases e : r' = r
    · subst e; rw [sit19, sit20, xg]; exact ⟨rfl, fun z => absurd rfl z⟩
    · rw [sit19n e, sit20n e, xgn e, xwI_ne (by decide), xwI_ne (by decide), xgn e]; exact g4.2.2 r' hr'
  exact ⟨g1.sits (Or.inl ⟨rfl, rfl⟩), g2, g3, g4', g5, g6, g7, g8, g9, wordsAt_I (wordsAt_I g10 (by decide)) (by decide)⟩
theorem MInv.step {b : Int32} (h : MInv (sit S r l p) I J) (hr : (r : Int) < sNR S) (hp : isP S l p') (e : b.toInt = p') : MInv (sit S r l p') (xwI I 115 r b) J := by
  have e0 : sit S r l p 0 = S 0 := sit_f (by decide) (by decide)
  have e5 : sit S r l p 5 = S 5 := sit_f (by decide) (by decide)
  have h14 : (I 114 r).toInt = l := by
    have := (h.2.2.2.1.2.2 r (by show (r : Int) < sit S r l p 0 3; rw [e0]; exact hr)).1
    rw [this, sit19]
  have q := h.sits (r := r) (l := l) (p := p') (a1 := I 114 r) (a2 := b) (Or.inr ((isP_c e0 e5 _ _).mpr hp)) h14 e
  rw [sit_2, xwI_self] at q
  exact q
/-- behind the last place of a reader that has read on -/
theorem go_end {c i b : Int32} {U : aS} (q : MInv U I J) (hr : (r : Int) < sNR U) (er : a2.toInt = r) (hl : isL U a3.toInt) (eb : b.toInt = U 5 a3.toInt.toNat) (K : WP ((d + 3), 274, 4, [some (.ref 71), some (.int c), some (.int (a2 + 1)), none, none], [], (xSH L dr tl, xwI (xwI I 115 r b) 114 r (-1), J)) Q) : WP ((d + 3), 274, 30, [some (.ref 71), some (.int c), some (.int a2), some (.int a3), some (.int i)], [], (xSH L dr tl, xwI I 115 r b, J)) Q := by
  have hm := q.mb
  have hN := q.1.2.2.2.1.2.1
  have hx : xin a2 4 = true := by rw [xin_iff, er]; omega
  have x1 : xIx a2 = r := by rw [xIx_ti, er]; exact Int.toNat_natCast _
  have hb : MIb U (xwI I 115 r b) J := hm.2.1
  have hrd : isRd U a2.toInt := by rw [er]; exact ⟨by omega, hr⟩
  refine w274_30 ((m_paceOf hm.1 hb hrd).u fun r1 h1 => ?_)
  rw [x1]
  refine brz lt_ti (fun z => ⟨hx, (m_length hm.1 hb hl).u fun r5 h5 => ?_⟩) (fun z => ⟨hx, (m_length hm.1 hb hl).u fun r3 h3 => ?_⟩)
  · rw [xg]
    refine brz lt_ti (fun y => by omega) (fun y => ⟨hx, (m_length hm.1 hb hl).u fun r7 h7 => brz eq_ti (fun w => ⟨hx, K⟩) (fun w => by omega)⟩)
  · rw [xg]
    exact brz eq_ti (fun w => ⟨hx, K⟩) (fun w => by omega)
theorem go_loop {c0 : Int} (hw : WF S) (hr : (r : Int) < sNR S) (er : a2.toInt = r) (hs : S 19 r ≠ -1) (hP : isP S (S 19 r) (S 20 r)) (e3 : a3.toInt = S 19 r) (h9 : sHr S < 20000) (hc0 : 0 ≤ c0 ∧ c0 ≤ 1000) : ∀ (m k : Nat) (c i : Int32) (I : Nat → Nat → Int32), ((k + m : Nat) : Int) = endP S r - S 20 r → i.toInt = k → c.toInt = c0 + (goS S r (S 19 r) (S 20 r).toNat k).2 → S 20 r + k < S 5 (S 19 r).toNat → MInv (sit (goS S r (S 19 r) (S 20 r).toNat k).1 r (S 19 r) (S 20 r + k)) I J → (∀ (x : Int32) (I1 : Nat → Nat → Int32), x.toInt = c0 + (rdOn S r).2 → frG I I1 → MInv (rdOn S r).1 I1 J → WP ((d + 3), 274, 4, [some (.ref 71), some (.int x), some (.int (a2 + 1)), none, none], [], (xSH L dr tl, I1, J)) Q) → WP ((d + 3), 274, 30, [some (.ref 71), some (.int c), some (.int a2), some (.int a3), some (.int i)], [], (xSH L dr tl, I, J)) Q := by
  have hb := isP_b hw hP
  have hp := hw.2.2.2.1.2.2 r hr
  have hl := hw.2.2.1.2.2 (S 19 r).toNat (by have := hP.1.2; omega)
  have hend : endP S r = min (S 20 r + S 6 r) (S 5 (S 19 r).toNat) := rfl
  have hN := hw.2.2.2.1.2.1
  have hx : xin a2 4 = true := by rw [xin_iff, er]; omega
  have x1 : xIx a2 = r := by rw [xIx_ti, er]; exact Int.toNat_natCast _
  have en : a2.toInt.toNat = r := by omega
  have el : a3.toInt.toNat = (S 19 r).toNat := by rw [e3]
  have U0 : ∀ k : Nat, sit (goS S r (S 19 r) (S 20 r).toNat k).1 r (S 19 r) (S 20 r + k) 0 = S 0 := fun k => (sit_f (by decide) (by decide)).trans (goS_f (by decide) (by decide) (by decide) k)
  have U5 : ∀ k : Nat, sit (goS S r (S 19 r) (S 20 r).toNat k).1 r (S 19 r) (S 20 r + k) 5 = S 5 := fun k => (sit_f (by decide) (by decide)).trans (goS_f (by decide) (by decide) (by decide) k)
  have U6 : ∀ k : Nat, sit (goS S r (S 19 r) (S 20 r).toNat k).1 r (S 19 r) (S 20 r + k) 6 = S 6 := fun k => (sit_f (by decide) (by decide)).trans (goS_f (by decide) (by decide) (by decide) k)
  have U7 : ∀ k : Nat, sit (goS S r (S 19 r) (S 20 r).toNat k).1 r (S 19 r) (S 20 r + k) 7 = S 7 := fun k => (sit_f (by decide) (by decide)).trans (goS_f (by decide) (by decide) (by decide) k)
  have G0 : ∀ k : Nat, (goS S r (S 19 r) (S 20 r).toNat k).1 0 = S 0 := fun k => goS_f (by decide) (by decide) (by decide) k
  have G5 : ∀ k : Nat, (goS S r (S 19 r) (S 20 r).toNat k).1 5 = S 5 := fun k => goS_f (by decide) (by decide) (by decide) k
  have hrU : ∀ k : Nat, isRd (sit (goS S r (S 19 r) (S 20 r).toNat k).1 r (S 19 r) (S 20 r + k)) a2.toInt := fun k => by unfold isRd sNR; rw [U0 k, er]; exact ⟨by omega, hr⟩
  have hlU : ∀ k : Nat, isL (sit (goS S r (S 19 r) (S 20 r).toNat k).1 r (S 19 r) (S 20 r + k)) a3.toInt := fun k => by unfold isL sNL; rw [U0 k, e3]; exact hP.1
  intro m
  induction m with
  | zero =>
    intro k c i I hk hi hcn hlt q K
    have hm := q.mb
    have ek : (endP S r - S 20 r).toNat = k := by omega
    have e115 : (I 115 r).toInt = S 20 r + k := by
      have := (hm.2.2.2.2 r (by show (r : Int) < sit (goS S r (S 19 r) (S 20 r).toNat k).1 r (S 19 r) (S 20 r + k) 0 3; rw [U0 k]; exact hr)).2 (by rw [sit19]; exact hs)
      rw [this, sit20]
    have eR : rdOn S r = (sit (goS S r (S 19 r) (S 20 r).toNat k).1 r (S 19 r) (S 20 r + k), (goS S r (S 19 r) (S 20 r).toNat k).2) := by
      unfold rdOn goE
      rw [if_neg hs, ek, if_pos (by omega), show endP S r = S 20 r + k by omega]
    refine w274_30 ((m_paceOf hm.1 hm.2.1 (hrU k)).u fun r1 h1 => ?_)
    rw [en, U6 k] at h1
    refine brz lt_ti (fun z => by omega) (fun z => ⟨hx, (m_length hm.1 hm.2.1 (hlU k)).u fun r3 h3 => ?_⟩)
    rw [el, U5 k] at h3
    rw [x1]
    refine brz eq_ti (fun w => by omega) (fun w => K c I ?_ frG_refl ?_)
    · rw [eR]; exact hcn
    · rw [eR]; exact q
  | succ m ih =>
    intro k c i I hk hi hcn hlt q K
    have hm := q.mb
    have cb := goS_c (S := S) (r := r) (l := S 19 r) (p := (S 20 r).toNat) k
    have ei : S 20 r + k = (((S 20 r).toNat + k : Nat) : Int) := by omega
    have e1 : (i + 1).toInt = ((k + 1 : Nat) : Int) := by rw [add1 (by omega) (by omega), hi]; rfl
    have e115 : ∀ {I' : Nat → Nat → Int32} {V : aS}, MInv V I' J → V 0 = S 0 → V 19 r = S 19 r → V 20 r = S 20 r + k → (I' 115 r).toInt = S 20 r + k := by
      intro I' V qV v0 v19 v20
      have := (qV.2.2.2.1.2.2 r (by show (r : Int) < V 0 3; rw [v0]; exact hr)).2 (by rw [v19]; exact hs)
      rw [this, v20]
    have e115I := e115 q (U0 k) sit19 sit20
    have hPk : isP (sit (goS S r (S 19 r) (S 20 r).toNat k).1 r (S 19 r) (S 20 r + k)) (S 19 r) (S 20 r + k) := (isP_c (U0 k) (U5 k) _ _).mpr ⟨hP.1, by omega, hlt⟩
    have hh : (I 71 55).toInt = sHr S := by rw [hm.2.2.1]; show sit (goS S r (S 19 r) (S 20 r).toNat k).1 r (S 19 r) (S 20 r + k) 0 8 = S 0 8; rw [U0 k]
    have h9' := hw.2.2.2.2.2.2.1
    -- what follows the step
    have go : ∀ (G : aS × Int) (c' : Int32) (I' : Nat → Nat → Int32), G = goS S r (S 19 r) (S 20 r).toNat (k + 1) → frG I I' → MInv (sit G.1 r (S 19 r) (S 20 r + k)) I' J → c'.toInt = c0 + G.2 → WP ((d + 3), 274, 30, [some (.ref 71), some (.int c'), some (.int a2), some (.int a3), some (.int (i + 1))], [], (xSH L dr tl, xwI I' 115 r (I' 115 r + 1), J)) Q := by
      intro G c' I' hG kc qG hc'
      subst hG
      have V0 : sit (goS S r (S 19 r) (S 20 r).toNat (k + 1)).1 r (S 19 r) (S 20 r + k) 0 = S 0 := (sit_f (by decide) (by decide)).trans (G0 (k + 1))
      have V5 : sit (goS S r (S 19 r) (S 20 r).toNat (k + 1)).1 r (S 19 r) (S 20 r + k) 5 = S 5 := (sit_f (by decide) (by decide)).trans (G5 (k + 1))
      have eI := e115 qG V0 sit19 sit20
      have eb : (I' 115 r + 1).toInt = S 20 r + ((k + 1 : Nat) : Int) := by rw [add1 (by omega) (by omega), eI]; omega
      by_cases hlast : S 20 r + ((k + 1 : Nat) : Int) < S 5 (S 19 r).toNat
      · refine ih (k + 1) _ _ _ (by omega) e1 hc' hlast (qG.step (by show (r : Int) < (goS S r (S 19 r) (S 20 r).toNat (k + 1)).1 0 3; rw [G0]; exact hr) ((isP_c (G0 _) (G5 _) _ _).mpr ⟨hP.1, by omega, hlast⟩) eb) fun x I1 ex fx qx => K x I1 ex (kc.tr ((frG_w (by decide)).tr fx)) qx
      · have hm0 : (endP S r - S 20 r).toNat = k + 1 := by omega
        have eR : rdOn S r = (sit (goS S r (S 19 r) (S 20 r).toNat (k + 1)).1 r (-1) 0, (goS S r (S 19 r) (S 20 r).toNat (k + 1)).2) := by
          unfold rdOn goE
          rw [if_neg hs, hm0, if_neg (by omega)]
        refine go_end qG (by show (r : Int) < sit (goS S r (S 19 r) (S 20 r).toNat (k + 1)).1 r (S 19 r) (S 20 r + k) 0 3; rw [V0]; exact hr) er (by unfold isL sNL; rw [V0, e3]; exact hP.1) (by rw [el, V5]; omega) (K c' _ ?_ (kc.tr ((frG_w (by decide)).tr (frG_w (by decide)))) ?_)
        · rw [eR]; exact hc'
        · rw [eR]
          have := qG.gone (r := r) (b := I' 115 r + 1)
          rw [sit_2] at this
          exact this
    refine w274_30 ((m_paceOf hm.1 hm.2.1 (hrU k)).u fun r1 h1 => ?_)
    rw [en, U6 k] at h1
    refine brz lt_ti (fun z => ⟨hx, (m_length hm.1 hm.2.1 (hlU k)).u fun r5 h5 => ?_⟩) (fun z => by omega)
    rw [el, U5 k] at h5
    rw [x1]
    refine brz lt_ti (fun z2 => ⟨hx, (m_isSkipped hm.1 hm.2.1 (hrU k) (by omega)).u (fun y => br1 ⟨hx, hx, ?_⟩) (fun y => br0 ⟨hx, ?_⟩)⟩) (fun z2 => by omega)
    · have y' : ¬ looks S r ((S 20 r).toNat + k : Nat) := by rw [looks_c (U7 k) (U0 k), er, e115I, ei] at y; exact y
      exact go (goS S r (S 19 r) (S 20 r).toNat k) c I (goS_n y').symm frG_refl q hcn
    · have y' : looks S r ((S 20 r).toNat + k : Nat) := by rw [looks_c (U7 k) (U0 k), er, e115I, ei] at y; exact Classical.byContradiction y
      have eA : ((64 * a3) + (I 115 r)).toInt = 64 * S 19 r + (S 20 r + k) := by
        rw [add_ti (by rw [mul_ti (by show _ ≤ 64 * a3.toInt; omega) (by show 64 * a3.toInt < _; omega)]; show _ ≤ 64 * a3.toInt + _; omega) (by rw [mul_ti (by show _ ≤ 64 * a3.toInt; omega) (by show 64 * a3.toInt < _; omega)]; show 64 * a3.toInt + _ < _; omega), mul_ti (by show _ ≤ 64 * a3.toInt; omega) (by show 64 * a3.toInt < _; omega), e115I, e3]; rfl
      refine m_seen q hPk eA (by decide) fun r11 I11 h11 f11 q11 => ⟨hx, hx, ?_⟩
      have nb := seenN_b (S := (goS S r (S 19 r) (S 20 r).toNat k).1) (x := slot (S 19 r) (S 20 r + k)) (n := 1)
      rw [seenN_sit] at h11
      rw [seenS_sit, add1 (by omega) (by omega), hh] at q11
      have h11' : r11.toInt = seenN (goS S r (S 19 r) (S 20 r).toNat k).1 (slot (S 19 r) (S 20 r + k)) 1 := h11
      refine go (seenS (goS S r (S 19 r) (S 20 r).toNat k).1 (slot (S 19 r) (S 20 r + k)) 1 (sHr S + 1), (goS S r (S 19 r) (S 20 r).toNat k).2 + seenN (goS S r (S 19 r) (S 20 r).toNat k).1 (slot (S 19 r) (S 20 r + k)) 1) _ I11 ?_ f11 q11 ?_
      · rw [goS_y y', ei]
      · rw [add_ti (by omega) (by omega), hcn, h11']
        show _ = c0 + ((goS S r (S 19 r) (S 20 r).toNat k).2 + _)
        omega
theorem by_loop (hN : sNR S ≤ 4) (h9 : sHr S < 20000) : ∀ (m k : Nat) (c i : Int32) (I : Nat → Nat → Int32), ((k + m : Nat) : Int) = sNR S → i.toInt = k → c.toInt = (hrS S k).2 → (0 ≤ (hrS S k).2 ∧ (hrS S k).2 ≤ 64 * k) → MInv (hrS S k).1 I J → (∀ (x : Int32) (I1 : Nat → Nat → Int32), x.toInt = (hourS S).2 → 0 ≤ x.toInt → x.toInt ≤ 256 → frG I I1 → MInv (hourS S).1 I1 J → Q (some (.int x)) (xSH L dr tl, I1, J)) → WP ((d + 3), 274, 4, [some (.ref 71), some (.int c), some (.int i), none, none], [], (xSH L dr tl, I, J)) Q := by
  intro m
  induction m with
  | zero =>
    intro k c i I hk hi hcn hcb q K
    have hm := q.mb
    have f0 := hrS_f (S := S) (f := 0) (by decide) (by decide) (by decide) (by decide) (by decide) k
    have e0 : sNR (hrS S k).1 = sNR S := by unfold sNR; rw [f0]
    have e8 : sHr (hrS S k).1 = sHr S := by unfold sHr; rw [f0]
    have ek : (sNR S).toNat = k := by omega
    refine w274_4 ((m_people hm.2.1).u fun r hr => brz lt_ti (fun z => by omega) (fun _ => K c _ ?_ (by omega) (by omega) frG_h ?_))
    · unfold hourS; rw [ek]; exact hcn
    · have q2 := q.houred (by omega)
      rw [e8] at q2
      unfold hourS; rw [ek]; exact q2
  | succ m ih =>
    intro k c i I hk hi hcn hcb q K
    have hm := q.mb
    have f0 := hrS_f (S := S) (f := 0) (by decide) (by decide) (by decide) (by decide) (by decide) k
    have e0 : sNR (hrS S k).1 = sNR S := by unfold sNR; rw [f0]
    have e8 : sHr (hrS S k).1 = sHr S := by unfold sHr; rw [f0]
    have e1 : (i + 1).toInt = ((k + 1 : Nat) : Int) := by rw [add1 (by omega) (by omega), hi]; rfl
    have cb := rdOn_c (r := k) hm.1 (by omega)
    have hx : xin i 4 = true := by rw [xin_iff, hi]; omega
    have x1 : xIx i = k := by rw [xIx_ti, hi]; exact Int.toNat_natCast _
    have e19 : (I 114 k).toInt = (hrS S k).1 19 k := (hm.2.2.2.2 k (by omega)).1
    refine w274_4 ((m_people hm.2.1).u fun r hr => brz lt_ti (fun _ => ⟨hx, ?_⟩) (fun z => by omega))
    rw [x1]
    refine brz eqm (fun z => ih (k + 1) _ _ I (by omega) e1 ?_ ?_ ?_ K) (fun z => ?_)
    · have eR : rdOn (hrS S k).1 k = ((hrS S k).1, 0) := if_pos (e19.symm.trans z)
      rw [hrS, eR]; dsimp only; omega
    · rw [hrS]; dsimp only; omega
    · have eR : rdOn (hrS S k).1 k = ((hrS S k).1, 0) := if_pos (e19.symm.trans z)
      rw [hrS, eR]; exact q
    · have hs : (hrS S k).1 19 k ≠ -1 := fun y => z (e19.trans y)
      have hP : isP (hrS S k).1 ((hrS S k).1 19 k) ((hrS S k).1 20 k) := (hm.1.2.2.2.2.2.2.2.2.1 k (by omega)).elim (fun y => absurd y.1 hs) id
      have hb := isP_b hm.1 hP
      have hp := hm.1.2.2.2.1.2.2 k (by omega)
      have hend : (hrS S k).1 20 k ≤ endP (hrS S k).1 k := by unfold endP; omega
      refine go_loop (c0 := (hrS S k).2) hm.1 (by omega) hi hs hP e19 (by omega) (by omega) (endP (hrS S k).1 k - (hrS S k).1 20 k).toNat 0 c 0 I (by omega) rfl (by rw [hcn]; show _ = _ + (0 : Int); omega) (by have := hP.2.2; omega) ?_ fun x I1 ex fx qx => ih (k + 1) _ _ I1 (by omega) e1 (by rw [ex]; rfl) (by rw [hrS]; dsimp only; omega) qx fun y I2 ey y1 y2 fy qy => K y I2 ey y1 y2 (fx.tr fy) qy
      show MInv (sit (hrS S k).1 k ((hrS S k).1 19 k) ((hrS S k).1 20 k + ((0 : Nat) : Int))) I J
      rw [sit_id rfl (by omega)]
      exact q
theorem m_goesBy {R : Int32 → (Nat → Nat → Int32) → (Nat → Nat → Int64) → Prop} (q : MInv S I J) (h9 : sHr S < 20000) (K : ∀ (x : Int32) (I1 : Nat → Nat → Int32), x.toInt = (hourS S).2 → 0 ≤ x.toInt → x.toInt ≤ 256 → frG I I1 → MInv (hourS S).1 I1 J → R x I1 J) : WP ((d + 3), 274, 0, [some (.ref 71), none, none, none, none], [], (xSH L dr tl, I, J)) (fun v M => ∃ (r : Int32) (I2 : Nat → Nat → Int32) (J2 : Nat → Nat → Int64), v = some (.int r) ∧ M = (xSH L dr tl, I2, J2) ∧ R r I2 J2) := by
  have hN := q.1.2.2.2.1
  exact w274_0 (by_loop hN.2.1 h9 (sNR S).toNat 0 0 0 I (by omega) rfl rfl ⟨(by decide : (0 : Int) ≤ 0), (by decide : (0 : Int) ≤ 64 * 0)⟩ q fun x I1 ex x1 x2 fx qx => ⟨x, I1, J, rfl, rfl, K x I1 ex x1 x2 fx qx⟩)
end HOURM
