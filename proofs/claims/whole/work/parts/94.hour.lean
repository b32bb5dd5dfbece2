/-! ===== an hour passes ===== -/
/-- reader r goes over m places of leaf l from p on -/
def goS (S : aS) (r : Nat) (l : Int) (p : Nat) : Nat → aS × Int
  | 0 => (S, 0)
  | m + 1 => if isRd S r ∧ (S 7 (r : Int).toNat = 0 ∨ (((p + m : Nat) : Int) + 1) % S 7 (r : Int).toNat ≠ 0) then (seenS (goS S r l p m).1 (slot l (p + m : Nat)) 1 (sHr S + 1), (goS S r l p m).2 + seenN (goS S r l p m).1 (slot l (p + m : Nat)) 1) else goS S r l p m
def endP (S : aS) (r : Nat) : Int := min (S 20 r + S 6 r) (S 5 (S 19 r).toNat)
def goE (S : aS) (r : Nat) : aS × Int := goS S r (S 19 r) (S 20 r).toNat (endP S r - S 20 r).toNat
def rdOn (S : aS) (r : Nat) : aS × Int := if S 19 r = -1 then (S, 0) else if endP S r < S 5 (S 19 r).toNat then (sit (goE S r).1 r (S 19 r) (endP S r), (goE S r).2) else (sit (goE S r).1 r (-1) 0, (goE S r).2)
/-- the first n readers -/
def hrS (S : aS) : Nat → aS × Int
  | 0 => (S, 0)
  | n + 1 => ((rdOn (hrS S n).1 n).1, (hrS S n).2 + (rdOn (hrS S n).1 n).2)
def hourS (S : aS) : aS × Int := (sset (hrS S (sNR S).toNat).1 0 8 (sHr S + 1), (hrS S (sNR S).toNat).2)
section HOUR
variable {S T : aS} {L d dr tl : Nat} {I I2 : Nat → Nat → Int32} {J : Nat → Nat → Int64} {a1 a2 a3 a4 a5 a6 : Int32} {r x p k m f : Nat} {l v e t n : Int} {Q : Option Value → xMem → Prop}
theorem goS_y (h : looks S r (p + m : Nat)) : goS S r l p (m + 1) = (seenS (goS S r l p m).1 (slot l (p + m : Nat)) 1 (sHr S + 1), (goS S r l p m).2 + seenN (goS S r l p m).1 (slot l (p + m : Nat)) 1) := if_pos h
theorem goS_n (h : ¬ looks S r (p + m : Nat)) : goS S r l p (m + 1) = goS S r l p m := if_neg h
theorem goS_f (h1 : f ≠ 15) (h2 : f ≠ 16) (h3 : f ≠ 17) : ∀ m : Nat, (goS S r l p m).1 f = S f := by
  intro m
  induction m with
  | zero => rfl
  | succ m ih =>
    by_cases h : looks S r (p + m : Nat)
    · rw [goS_y h]; exact (seenS_f h1 h2 h3).trans ih
    · rw [goS_n h]; exact ih
theorem goS_c : ∀ m : Nat, 0 ≤ (goS S r l p m).2 ∧ (goS S r l p m).2 ≤ m := by
  intro m
  induction m with
  | zero => exact ⟨(by decide : (0 : Int) ≤ 0), (by decide : (0 : Int) ≤ 0)⟩
  | succ m ih =>
    have := seenN_b (S := (goS S r l p m).1) (x := slot l (p + m : Nat)) (n := 1)
    by_cases h : looks S r (p + m : Nat)
    · rw [goS_y h]; dsimp only; omega
    · rw [goS_n h]; omega
theorem looks_c {q q' : Int} (h7 : T 7 = S 7) (h0 : T 0 = S 0) : looks T q q' ↔ looks S q q' := by unfold looks isRd sNR; rw [h7, h0]
theorem sit_f (h1 : f ≠ 19) (h2 : f ≠ 20) {p : Int} : sit S r l p f = S f := by
  funext k; unfold sit sset; rw [if_neg (fun z => h2 z.1), if_neg (fun z => h1 z.1)]
theorem rdOn_f (h1 : f ≠ 15) (h2 : f ≠ 16) (h3 : f ≠ 17) (h4 : f ≠ 19) (h5 : f ≠ 20) : (rdOn S r).1 f = S f := by
  unfold rdOn
  split
  · rfl
  · split
    · dsimp only; rw [sit_f h4 h5]; exact goS_f h1 h2 h3 _
    · dsimp only; rw [sit_f h4 h5]; exact goS_f h1 h2 h3 _
theorem hrS_f (h1 : f ≠ 15) (h2 : f ≠ 16) (h3 : f ≠ 17) (h4 : f ≠ 19) (h5 : f ≠ 20) : ∀ m : Nat, (hrS S m).1 f = S f := by
  intro m
  induction m with
  | zero => rfl
  | succ m ih => rw [hrS]; exact (rdOn_f h1 h2 h3 h4 h5).trans ih
theorem rdOn_c (hw : WF S) (hr : (r : Int) < sNR S) : 0 ≤ (rdOn S r).2 ∧ (rdOn S r).2 ≤ 64 := by
  unfold rdOn
  by_cases h1 : S 19 r = -1
  · rw [if_pos h1]; exact ⟨(by decide : (0 : Int) ≤ 0), (by decide : (0 : Int) ≤ 64)⟩
  · have hq : isP S (S 19 r) (S 20 r) := (hw.2.2.2.2.2.2.2.2.1 r hr).elim (fun z => absurd z.1 h1) id
    have hb := isP_b hw hq
    have hp := hw.2.2.2.1.2.2 r hr
    have hl := hw.2.2.1.2.2 (S 19 r).toNat (by have := hq.1.2; omega)
    have c := goS_c (S := S) (r := r) (l := S 19 r) (p := (S 20 r).toNat) (endP S r - S 20 r).toNat
    have e : endP S r ≤ 64 := by unfold endP; omega
    have e2 : S 20 r ≤ endP S r := by unfold endP; omega
    rw [if_neg h1]
    unfold goE
    split <;> (dsimp only; omega)
theorem readOn_loop (hw : WF S) (hr : (r : Int) < sNR S) (er : a1.toInt = r) (hs : S 19 r ≠ -1) (hP : isP S (S 19 r) (S 20 r)) (e2 : a2.toInt = S 19 r) (e5 : a5.toInt = endP S r) : ∀ (m k : Nat) (c i : Int32) (I : Nat → Nat → Int32), ((k + m : Nat) : Int) = endP S r - S 20 r → i.toInt = S 20 r + k → c.toInt = (goS S r (S 19 r) (S 20 r).toNat k).2 → CInv (goS S r (S 19 r) (S 20 r).toNat k).1 dr tl I J → (∀ (x : Int32) (I1 : Nat → Nat → Int32), x.toInt = (rdOn S r).2 → keepM I I1 J J → CInv (rdOn S r).1 dr tl I1 J → Q (some (.int x)) (xSH L dr tl, I1, J)) → WP ((d + 5), 156, 50, [some (.ref 30), some (.int a1), some (.int a2), some (.int c), none, some (.int a5), some (.int i)], [], (xSH L dr tl, I, J)) Q := by
  have hb := isP_b hw hP
  have hp := hw.2.2.2.1.2.2 r hr
  have hl := hw.2.2.1.2.2 (S 19 r).toNat (by have := hP.1.2; omega)
  have hend : endP S r ≤ S 5 (S 19 r).toNat := by unfold endP; omega
  have hN := hw.2.2.2.1.2.1
  have hx : xin a1 4 = true := by rw [xin_iff, er]; omega
  have x1 : xIx a1 = r := by rw [xIx_ti, er]; exact Int.toNat_natCast _
  intro m
  induction m with
  | zero =>
    intro k c i I hk hi hcn q K
    have hc := q.cb
    have f5 := goS_f (S := S) (r := r) (l := S 19 r) (p := (S 20 r).toNat) (f := 5) (by decide) (by decide) (by decide) k
    have f0 := goS_f (S := S) (r := r) (l := S 19 r) (p := (S 20 r).toNat) (f := 0) (by decide) (by decide) (by decide) k
    have ek : (endP S r - S 20 r).toNat = k := by omega
    have epl : plc (goS S r (S 19 r) (S 20 r).toNat k).1 (S 19 r) = S 5 (S 19 r).toNat := by rw [plc_c f0 f5]; unfold plc; rw [if_pos hP.1]
    have hrd : isRd (goS S r (S 19 r) (S 20 r).toNat k).1 a1.toInt := by unfold isRd sNR; rw [f0, er]; exact ⟨by omega, hr⟩
    refine w156_50 hc.2.1 (brz lt_ti (fun z => by omega) (fun _ => (s_placesOf hc.1 hc.2.1 hc.2.2.1).u fun r2 h2 => ?_))
    rw [e2, epl] at h2
    have eR : ∀ b : Int, (endP S r < S 5 (S 19 r).toNat → rdOn S r = (sit (goS S r (S 19 r) (S 20 r).toNat k).1 r (S 19 r) (endP S r), (goS S r (S 19 r) (S 20 r).toNat k).2)) ∧ (¬ endP S r < S 5 (S 19 r).toNat → rdOn S r = (sit (goS S r (S 19 r) (S 20 r).toNat k).1 r (-1) 0, (goS S r (S 19 r) (S 20 r).toNat k).2)) := by
      intro _
      unfold rdOn goE
      rw [if_neg hs, ek]
      exact ⟨fun z => by rw [if_pos z], fun z => by rw [if_neg z]⟩
    refine brz lt_ti (fun z => w135_0 hc.2.1 ((s_hasReader hc.2.1 hc.2.2.1).u (fun _ => br1 ⟨hx, hx, _, _, rfl, rfl, K c _ ?_ ((keepM_I (by decide)).tr (keepM_I (by decide))) ?_⟩) (fun y => absurd hrd y))) (fun z => w135_0 hc.2.1 ((s_hasReader hc.2.1 hc.2.2.1).u (fun _ => br1 ⟨hx, hx, _, _, rfl, rfl, K c _ ?_ ((keepM_I (by decide)).tr (keepM_I (by decide))) ?_⟩) (fun y => absurd hrd y)))
    · rw [(eR 0).1 (by omega)]; exact hcn
    · rw [(eR 0).1 (by omega), x1]
      exact q.sits (Or.inr (plc_isP.mpr (by rw [epl]; omega))) e2 e5
    · rw [(eR 0).2 (by omega)]; exact hcn
    · rw [(eR 0).2 (by omega), x1]
      exact q.sits (Or.inl ⟨rfl, rfl⟩) rfl rfl
  | succ m ih =>
    intro k c i I hk hi hcn q K
    have hc := q.cb
    have f5 := goS_f (S := S) (r := r) (l := S 19 r) (p := (S 20 r).toNat) (f := 5) (by decide) (by decide) (by decide) k
    have f7 := goS_f (S := S) (r := r) (l := S 19 r) (p := (S 20 r).toNat) (f := 7) (by decide) (by decide) (by decide) k
    have f0 := goS_f (S := S) (r := r) (l := S 19 r) (p := (S 20 r).toNat) (f := 0) (by decide) (by decide) (by decide) k
    have cb := goS_c (S := S) (r := r) (l := S 19 r) (p := (S 20 r).toNat) k
    have ei : i.toInt = (((S 20 r).toNat + k : Nat) : Int) := by omega
    have e1 : (i + 1).toInt = S 20 r + ((k + 1 : Nat) : Int) := by rw [add1 (by omega) (by omega), hi]; omega
    have hPk : isP (goS S r (S 19 r) (S 20 r).toNat k).1 a2.toInt i.toInt := by rw [e2]; exact (isP_c f0 f5 _ _).mpr ⟨hP.1, by omega, by omega⟩
    have hh : (I 30 9).toInt = sHr S := by rw [hc.2.2.2.1]; show (goS S r (S 19 r) (S 20 r).toNat k).1 0 8 = S 0 8; rw [f0]
    have h9 := hw.2.2.2.2.2.2.1
    refine w156_50 hc.2.1 (brz lt_ti (fun _ => (s_looksAt hc.1 hc.2.1 hc.2.2.1 (by omega) (by omega)).u (fun y => br1 (s_giveEyes q hPk (by decide) fun r8 I8 h8 f8 q8 => ih (k + 1) _ _ I8 (by omega) e1 ?_ ?_ fun x I2 ex fx qx => K x I2 ex (f8.tr fx) qx)) (fun y => br0 (ih (k + 1) _ _ I (by omega) e1 ?_ ?_ K))) (fun z => by omega))
    · have y' : looks S r ((S 20 r).toNat + k : Nat) := by rw [looks_c f7 f0, er, ei] at y; exact y
      have nb := seenN_b (S := (goS S r (S 19 r) (S 20 r).toNat k).1) (x := slot (S 19 r) ((S 20 r).toNat + k : Nat)) (n := 1)
      rw [e2, ei] at h8
      have h8' : r8.toInt = seenN (goS S r (S 19 r) (S 20 r).toNat k).1 (slot (S 19 r) ((S 20 r).toNat + k : Nat)) 1 := h8
      rw [goS_y y', add_ti (by omega) (by omega), hcn, h8']
    · have y' : looks S r ((S 20 r).toNat + k : Nat) := by rw [looks_c f7 f0, er, ei] at y; exact y
      rw [goS_y y']
      rw [e2, ei, add1 (by omega) (by omega), hh] at q8
      exact q8
    · have y' : ¬ looks S r ((S 20 r).toNat + k : Nat) := by rw [looks_c f7 f0, er, ei] at y; exact y
      rw [goS_n y']; exact hcn
    · have y' : ¬ looks S r ((S 20 r).toNat + k : Nat) := by rw [looks_c f7 f0, er, ei] at y; exact y
      rw [goS_n y']; exact q
theorem s_readOn {R : Int32 → (Nat → Nat → Int32) → (Nat → Nat → Int64) → Prop} (q : CInv S dr tl I J) (hr : (r : Int) < sNR S) (er : a1.toInt = r) (K : ∀ (x : Int32) (I1 : Nat → Nat → Int32), x.toInt = (rdOn S r).2 → keepM I I1 J J → CInv (rdOn S r).1 dr tl I1 J → R x I1 J) : WP ((d + 5), 156, 0, [some (.ref 30), some (.int a1), none, none, none, none, none], [], (xSH L dr tl, I, J)) (fun v M => ∃ (r : Int32) (I2 : Nat → Nat → Int32) (J2 : Nat → Nat → Int64), v = some (.int r) ∧ M = (xSH L dr tl, I2, J2) ∧ R r I2 J2) := by
  have hc := q.cb
  have hrd : isRd S a1.toInt := by rw [er]; exact ⟨by omega, hr⟩
  have en : a1.toInt.toNat = r := by omega
  refine w156_0 hc.2.1 ((s_seatLeaf hc).u fun r1 h1 => ?_)
  rw [if_pos hrd, en] at h1
  refine brz eqm (fun z => ⟨0, I, J, rfl, rfl, K 0 I ?_ keepM_refl ?_⟩) (fun z => (s_seatPlace hc).u fun r3 h3 => (s_paceOf hc.1 hc.2.1 hc.2.2.1).u fun r4 h4 => (s_placesOf hc.1 hc.2.1 hc.2.2.1).u fun r5 h5 => s_min.u fun r6 h6 => ?_)
  · rw [rdOn, if_pos (h1.symm.trans z)]; rfl
  · rw [rdOn, if_pos (h1.symm.trans z)]; exact q
  · have hs : S 19 r ≠ -1 := fun y => z (h1.trans y)
    have hP : isP S (S 19 r) (S 20 r) := (hc.1.2.2.2.2.2.2.2.2.1 r hr).elim (fun y => absurd y.1 hs) id
    have hb := isP_b hc.1 hP
    have hp := hc.1.2.2.2.1.2.2 r hr
    rw [if_pos hrd, en] at h3 h4
    have h5' : r5.toInt = S 5 (S 19 r).toNat := by rw [h5, h1]; unfold plc; rw [if_pos hP.1]
    rw [add_ti (by omega) (by omega), h3, h4, h5'] at h6
    have h6' : r6.toInt = endP S r := h6
    have hend : S 20 r ≤ endP S r := by unfold endP; omega
    exact readOn_loop hc.1 hr er hs hP h1 h6' (endP S r - S 20 r).toNat 0 0 r3 I (by omega) (by omega) rfl q fun x I1 ex fx qx => ⟨x, I1, J, rfl, rfl, K x I1 ex fx qx⟩
theorem WF.houred (h : WF S) (h9 : sHr S < 20000) : WF (sset S 0 8 (sHr S + 1)) := by
  obtain ⟨g1, g2, g3, g4, g5, g6, g7, g8, g9, g10, g11, g12, g13⟩ := h
  refine ⟨g1, g2, g3, g4, g5, g6, ⟨by show 0 ≤ sHr S + 1; omega, by show sHr S + 1 ≤ 20000; omega⟩, g8, g9, ⟨g10.1, g10.2.1, fun k hk => ?_⟩, g11, g12, g13⟩
  obtain ⟨z1, z2, z3⟩ := g10.2.2 k hk
  exact ⟨z1, Int.le_trans z2 (by show sHr S ≤ sHr S + 1; omega), z3⟩
theorem CInv.houred (q : CInv S dr tl I J) (h9 : sHr S < 9999) : CInv (sset S 0 8 (sHr S + 1)) dr tl (xwI I 30 9 (I 30 9 + 1)) J := by
  obtain ⟨g1, g2, g3, g4, g5, g6, g7, g8, g9, g10, g11, g12⟩ := q
  have b := g1.2.2.2.2.2.2.1
  have g6' : CIw (sset S 0 8 (sHr S + 1)) (xwI I 30 9 (I 30 9 + 1)) := by
    refine ⟨?_, g6.2.1, g6.2.2⟩
    rw [xg, add1 (by rw [g6.1]; omega) (by rw [g6.1]; omega), g6.1]; exact sg.symm
  have g2' : RW (sset S 0 8 (sHr S + 1)) := ⟨⟨g2.1.1, by show sHr S + 1 ≤ 9999; omega⟩, g2.2⟩
  rcases g3 with ⟨rfl, rfl⟩ | ⟨rfl, rfl⟩
  · exact ⟨g1.houred (by omega), g2', Or.inl ⟨rfl, rfl⟩, g4, g5, g6', g7, g8, g9, g10, g11, g12⟩
  · exact ⟨g1.houred (by omega), g2', Or.inr ⟨rfl, rfl⟩, g4, g5, g6', g7, g8, g9, g10, g11, g12⟩
theorem MInv.houred (q : MInv S I J) (h9 : sHr S < 20000) : MInv (sset S 0 8 (sHr S + 1)) (xwI I 71 55 (I 71 55 + 1)) J := by
  obtain ⟨g1, g2, g3, g4, g5, g6, g7, g8, g9, g10⟩ := q
  have b := g1.2.2.2.2.2.2.1
  have g4' : MIw (sset S 0 8 (sHr S + 1)) (xwI I 71 55 (I 71 55 + 1)) := by
    refine ⟨?_, g4.2.1, g4.2.2⟩
    rw [xg, add1 (by rw [g4.1]; omega) (by rw [g4.1]; omega), g4.1]; exact sg.symm
  exact ⟨g1.houred h9, g2, g3, g4', g5, g6, g7, g8, g9, wordsAt_I g10 (by decide)⟩
theorem hrS_c (hN : sNR S ≤ 4) (hW : ∀ n : Nat, (n : Int) ≤ sNR S → WF (hrS S n).1) : ∀ n : Nat, (n : Int) ≤ sNR S → 0 ≤ (hrS S n).2 ∧ (hrS S n).2 ≤ 64 * n := by
  intro n
  induction n with
  | zero => intro _; exact ⟨(by decide : (0 : Int) ≤ 0), (by decide : (0 : Int) ≤ 64 * 0)⟩
  | succ n ih =>
    intro hn
    have f0 := hrS_f (S := S) (f := 0) (by decide) (by decide) (by decide) (by decide) (by decide) n
    have h1 := ih (by omega)
    have h2 := rdOn_c (r := n) (hW n (by omega)) (by show (n : Int) < (hrS S n).1 0 3; rw [f0]; show (n : Int) < sNR S; omega)
    rw [hrS]; dsimp only; omega
theorem pass_loop (hN : sNR S ≤ 4) (h9 : sHr S < 9999) : ∀ (m k : Nat) (c i : Int32) (I : Nat → Nat → Int32), ((k + m : Nat) : Int) = sNR S → i.toInt = k → c.toInt = (hrS S k).2 → (0 ≤ (hrS S k).2 ∧ (hrS S k).2 ≤ 64 * k) → CInv (hrS S k).1 dr tl I J → (∀ (x : Int32) (I1 : Nat → Nat → Int32), x.toInt = (hourS S).2 → 0 ≤ x.toInt → x.toInt ≤ 256 → keepM I I1 J J → CInv (hourS S).1 dr tl I1 J → Q (some (.int x)) (xSH L dr tl, I1, J)) → WP ((d + 6), 155, 4, [some (.ref 30), some (.int c), some (.int i)], [], (xSH L dr tl, I, J)) Q := by
  intro m
  induction m with
  | zero =>
    intro k c i I hk hi hcn hcb q K
    have hc := q.cb
    have f0 := hrS_f (S := S) (f := 0) (by decide) (by decide) (by decide) (by decide) (by decide) k
    have e0 : sNR (hrS S k).1 = sNR S := by unfold sNR; rw [f0]
    have e8 : sHr (hrS S k).1 = sHr S := by unfold sHr; rw [f0]
    have ek : (sNR S).toNat = k := by omega
    refine w155_4 hc.2.1 ((s_size (sp7 hc.2.1) hc.2.2.1.1.2.2.1).u fun r hr => brz lt_ti (fun z => by omega) (fun _ => K c _ ?_ (by omega) (by omega) (keepM_I (by decide)) ?_))
    · unfold hourS; rw [ek]; exact hcn
    · have q2 := q.houred (by omega)
      rw [e8] at q2
      unfold hourS; rw [ek]; exact q2
  | succ m ih =>
    intro k c i I hk hi hcn hcb q K
    have hc := q.cb
    have f0 := hrS_f (S := S) (f := 0) (by decide) (by decide) (by decide) (by decide) (by decide) k
    have e0 : sNR (hrS S k).1 = sNR S := by unfold sNR; rw [f0]
    have e1 : (i + 1).toInt = ((k + 1 : Nat) : Int) := by rw [add1 (by omega) (by omega), hi]; rfl
    have cb := rdOn_c (r := k) hc.1 (by omega)
    refine w155_4 hc.2.1 ((s_size (sp7 hc.2.1) hc.2.2.1.1.2.2.1).u fun r hr => brz lt_ti (fun _ => s_readOn (r := k) q (by omega) hi fun x I1 ex fx qx => ih (k + 1) _ _ I1 (by omega) e1 ?_ ?_ qx fun y I2 ey y1 y2 fy qy => K y I2 ey y1 y2 (fx.tr fy) qy) (fun z => by omega))
    · rw [add_ti (by omega) (by omega), hcn, ex]; rfl
    · rw [hrS]; dsimp only; omega
theorem s_passHour {R : Int32 → (Nat → Nat → Int32) → (Nat → Nat → Int64) → Prop} (q : CInv S dr tl I J) (h9 : sHr S < 9999) (K : ∀ (x : Int32) (I1 : Nat → Nat → Int32), x.toInt = (hourS S).2 → 0 ≤ x.toInt → x.toInt ≤ 256 → keepM I I1 J J → CInv (hourS S).1 dr tl I1 J → R x I1 J) : WP ((d + 6), 155, 0, [some (.ref 30), none, none], [], (xSH L dr tl, I, J)) (fun v M => ∃ (r : Int32) (I2 : Nat → Nat → Int32) (J2 : Nat → Nat → Int64), v = some (.int r) ∧ M = (xSH L dr tl, I2, J2) ∧ R r I2 J2) := by
  have hN := q.1.2.2.2.1
  exact w155_0 (pass_loop hN.2.1 h9 (sNR S).toNat 0 0 0 I (by omega) rfl rfl ⟨(by decide : (0 : Int) ≤ 0), (by decide : (0 : Int) ≤ 64 * 0)⟩ q fun x I1 ex x1 x2 fx qx => ⟨x, I1, J, rfl, rfl, K x I1 ex x1 x2 fx qx⟩)
end HOUR
