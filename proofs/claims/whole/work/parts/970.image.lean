/-! ===== image ===== -/
def opush (S : aS) (v : Int) : aS := sset (sset S 24 (sNO S).toNat v) 0 12 (sNO S + 1)
def ckS (f : Nat → Int) : Nat → Int
  | 0 => 57
  | n + 1 => (3 * ckS f n + f n) % 239
def im0 (S : aS) : aS := opush (opush (sset S 0 12 0) (sHr S / 256)) (sHr S % 256)
def im3 (T : aS) (x : Nat) : aS := opush (opush (opush T (T 15 x)) (T 16 x)) (T 18 x)
def imL (S : aS) (l : Nat) : Nat → aS
  | 0 => S
  | m + 1 => im3 (imL S l m) (slot l m)
def imA (S : aS) : Nat → aS
  | 0 => S
  | n + 1 => imL (imA S n) n (plc S n).toNat
def imR (S : aS) : Nat → aS
  | 0 => S
  | n + 1 => opush (opush (imR S n) (imR S n 19 n + 1)) (imR S n 20 n)
def imB (S : aS) : aS := imR (imA (im0 S) (sNL S).toNat) (sNR S).toNat
def imS (S : aS) : aS := opush (imB S) (ckS (imB S 24) (sNO (imB S)).toNat)
/-- all but the octets is the same -/
def osame (T S : aS) : Prop := (∀ f : Nat, f ≠ 24 → f ≠ 0 → T f = S f) ∧ ∀ k : Nat, k ≠ 12 → T 0 k = S 0 k
theorem osame.tr {U T S : aS} (h : osame U T) (h' : osame T S) : osame U S := ⟨fun f h1 h2 => (h.1 f h1 h2).trans (h'.1 f h1 h2), fun k hk => (h.2 k hk).trans (h'.2 k hk)⟩
theorem osame_refl {S : aS} : osame S S := ⟨fun _ _ _ => rfl, fun _ _ => rfl⟩
theorem osame_p {S : aS} {v : Int} : osame (opush S v) S := by
  refine ⟨fun f h1 h2 => ?_, fun k hk => ?_⟩
  · funext j; unfold opush sset; rw [if_neg (fun z => h2 z.1), if_neg (fun z => h1 z.1)]
  · unfold opush sset; rw [if_neg (fun z => hk z.2), if_neg (fun z => absurd z.1 (by decide))]
theorem osame_0 {S : aS} {v : Int} : osame (sset S 0 12 v) S := by
  refine ⟨fun f h1 h2 => ?_, fun k hk => ?_⟩
  · funext j; unfold sset; rw [if_neg (fun z => h2 z.1)]
  · unfold sset; rw [if_neg (fun z => hk z.2)]
theorem osame_3 {S : aS} {x : Nat} : osame (im3 S x) S := (osame_p.tr osame_p).tr osame_p
theorem osame_L {S : aS} {l : Nat} : ∀ m : Nat, osame (imL S l m) S := by
  intro m
  induction m with
  | zero => exact osame_refl
  | succ m ih => exact osame_3.tr ih
theorem osame_A {S : aS} : ∀ m : Nat, osame (imA S m) S := by
  intro m
  induction m with
  | zero => exact osame_refl
  | succ m ih => exact (osame_L _).tr ih
theorem osame_R {S : aS} : ∀ m : Nat, osame (imR S m) S := by
  intro m
  induction m with
  | zero => exact osame_refl
  | succ m ih => exact (osame_p.tr osame_p).tr ih
theorem osame.pl {T S : aS} (h : osame T S) (l : Int) : plc T l = plc S l := by
  have h5 := h.1 5 (by decide) (by decide)
  have h0 := h.2 2 (by decide)
  simp only [plc, isL, sNL, h0, h5]
theorem op_n {S : aS} {v : Int} : sNO (opush S v) = sNO S + 1 := by
  show sset (sset S 24 (sNO S).toNat v) 0 12 (sNO S + 1) 0 12 = _
  exact sg
theorem im3_n {S : aS} {x : Nat} : sNO (im3 S x) = sNO S + 3 := by
  unfold im3; rw [op_n, op_n, op_n]; omega
theorem imL_n {S : aS} {l : Nat} : ∀ m : Nat, sNO (imL S l m) = sNO S + 3 * m := by
  intro m
  induction m with
  | zero => show sNO S = sNO S + 3 * ((0 : Nat) : Int); omega
  | succ m ih => show sNO (im3 (imL S l m) (slot l m)) = _; rw [im3_n, ih]; omega
theorem imA_n {S : aS} (hw : WF S) (h0 : 0 ≤ sNO S) : ∀ m : Nat, 0 ≤ sNO (imA S m) ∧ sNO (imA S m) ≤ sNO S + 192 * m := by
  intro m
  induction m with
  | zero => exact ⟨h0, by show sNO S ≤ sNO S + 192 * ((0 : Nat) : Int); omega⟩
  | succ m ih =>
    have := plc_le hw (m : Int)
    have e := imL_n (S := imA S m) (l := m) (plc S m).toNat
    show 0 ≤ sNO (imL (imA S m) m (plc S m).toNat) ∧ sNO (imL (imA S m) m (plc S m).toNat) ≤ _
    rw [e]; omega
theorem imR_n {S : aS} : ∀ m : Nat, sNO (imR S m) = sNO S + 2 * m := by
  intro m
  induction m with
  | zero => show sNO S = sNO S + 2 * ((0 : Nat) : Int); omega
  | succ m ih => show sNO (opush (opush (imR S m) _) _) = _; rw [op_n, op_n, ih]; omega
theorem ckS_b {f : Nat → Int} {n : Nat} : 0 ≤ ckS f n ∧ ckS f n ≤ 238 := by
  cases n with
  | zero => exact ⟨(by decide : (0 : Int) ≤ 57), (by decide : (57 : Int) ≤ 238)⟩
  | succ n => show 0 ≤ (3 * ckS f n + f n) % 239 ∧ (3 * ckS f n + f n) % 239 ≤ 238; omega
theorem andm {x : Int32} (h : 0 ≤ x.toInt) : (x &&& 255).toInt = x.toInt % 256 := by
  have e1 : x.toInt = (x.toBitVec.toNat : Int) := by
    have h1 : x.toInt = x.toBitVec.toInt := rfl
    rw [h1] at h ⊢
    rw [BitVec.toInt_eq_toNat_cond] at h ⊢
    split at h
    · rename_i z; rw [if_pos z]
    · have := x.toBitVec.isLt; omega
  have e2 : (x &&& 255).toBitVec.toNat = x.toBitVec.toNat % 256 := by
    rw [Int32.toBitVec_and, BitVec.toNat_and]
    exact Nat.and_two_pow_sub_one_eq_mod x.toBitVec.toNat 8
  have e3 : (x &&& 255).toInt = ((x &&& 255).toBitVec.toNat : Int) := by
    show (x &&& 255).toBitVec.toInt = _
    rw [BitVec.toInt_eq_toNat_cond, if_pos (by rw [e2]; omega)]
  rw [e3, e2, e1]; rfl
theorem shr8 {x : Int32} : (x >>> ((8 : Int32) &&& 31)).toInt = x.toInt / 256 := by
  show (x.toBitVec.sshiftRight' (((8 : Int32) &&& 31).toBitVec.smod 32)).toInt = _
  rw [BitVec.toInt_sshiftRight']
  show x.toInt >>> 8 = _
  rw [Int.shiftRight_eq_div_pow]; rfl
section IMAGE
variable {S T : aS} {L d dr tl t : Nat} {I : Nat → Nat → Int32} {J : Nat → Nat → Int64} {a1 a2 a3 a4 a5 x : Int32} {f : Nat → Int} {n0 : Int} {Q : Option Value → xMem → Prop}
theorem WF.opushed {v : Int} (h : WF S) (hr : sNO S < 1600) (hv : 0 ≤ v ∧ v ≤ 255) : WF (opush S v) := by
  obtain ⟨g1, g2, g3, g4, g5, g6, g7, g8, g9, g10, g11, g12, g13⟩ := h
  refine ⟨g1, g2, g3, g4, g5, g6, g7, g8, g9, g10, ⟨?_, ?_, fun j hj => ?_⟩, g12, g13⟩
  · show 0 ≤ sNO S + 1; omega
  · show sNO S + 1 ≤ 1600; omega
  · have hj' : (j : Int) < sNO S + 1 := hj
    show 0 ≤ sset S 24 (sNO S).toNat v 24 j ∧ sset S 24 (sNO S).toNat v 24 j ≤ 255
    by_cases e : j = (sNO S).toNat
    · rw [e, sg]; exact hv
    · rw [sgn e]; exact g11.2.2 j (by omega)
theorem CInv.opushed (h : CInv S dr tl I J) (hr : sNO S < 1600) (hv : 0 ≤ x.toInt ∧ x.toInt ≤ 255) : CInv (opush S x.toInt) dr tl (xwI (xwI I 6 (xIx (I 5 1)) x) 5 1 (I 5 1 + 1)) J := by
  obtain ⟨g1, g2, g3, g4, g5, g6, g7, g8, g9, g10, g11, g12⟩ := h
  have t0 := g1.2.2.2.2.2.2.2.2.2.2.1.1
  have g9' : CIp (opush S x.toInt) (xwI (xwI I 6 (xIx (I 5 1)) x) 5 1 (I 5 1 + 1)) := by
    refine ⟨?_, fun j hj => ?_⟩
    · show (I 5 1 + 1).toInt = sNO S + 1
      rw [add1 (by rw [g9.1]; omega) (by rw [g9.1]; omega), g9.1]
    · have hj' : (j : Int) < sNO S + 1 := hj
      show (xwI I 6 (xIx (I 5 1)) x 6 j).toInt = sset S 24 (sNO S).toNat x.toInt 24 j
      rw [xIx_ti, g9.1]
      by_cases e : j = (sNO S).toNat
      · rw [e, sg, xg]
      · rw [sgn e, xgn e]; exact g9.2 j (by omega)
  rcases g3 with ⟨rfl, rfl⟩ | ⟨rfl, rfl⟩
  · exact ⟨g1.opushed hr hv, g2, Or.inl ⟨rfl, rfl⟩, g4, g5, g6, g7, g8, g9', g10, g11, g12⟩
  · exact ⟨g1.opushed hr hv, g2, Or.inr ⟨rfl, rfl⟩, g4, g5, g6, g7, g8, g9', g10, g11, g12⟩
theorem MInv.opushed (h : MInv S I J) (hr : sNO S < 1600) (hv : 0 ≤ x.toInt ∧ x.toInt ≤ 255) : MInv (opush S x.toInt) (xwI (xwI I 130 (xIx (I 71 82)) x) 71 82 (I 71 82 + 1)) J := by
  obtain ⟨g1, g2, g3, g4, g5, g6, g7, g8, g9, g10⟩ := h
  have t0 := g1.2.2.2.2.2.2.2.2.2.2.1.1
  have g7' : MIp (opush S x.toInt) (xwI (xwI I 130 (xIx (I 71 82)) x) 71 82 (I 71 82 + 1)) := by
    refine ⟨?_, fun j hj => ?_⟩
    · show (I 71 82 + 1).toInt = sNO S + 1
      rw [add1 (by rw [g7.1]; omega) (by rw [g7.1]; omega), g7.1]
    · have hj' : (j : Int) < sNO S + 1 := hj
      show (xwI I 130 (xIx (I 71 82)) x 130 j).toInt = sset S 24 (sNO S).toNat x.toInt 24 j
      rw [xIx_ti, g7.1]
      by_cases e : j = (sNO S).toNat
      · rw [e, sg, xg]
      · rw [sgn e, xgn e]; exact g7.2 j (by omega)
  exact ⟨g1.opushed hr hv, g2, g3, g4, g5, g6, g7', g8, g9, wordsAt_I (wordsAt_I g10 (by decide)) (by decide)⟩
theorem s_lay {R : (Nat → Nat → Int32) → (Nat → Nat → Int64) → Prop} {v : Int} (q : CInv S dr tl I J) (hr : sNO S < 1600) (h0 : 0 ≤ x.toInt) (ev : x.toInt % 256 = v) (K : ∀ I1 : Nat → Nat → Int32, keepM I I1 J J → CInv (opush S v) dr tl I1 J → R I1 J) : WP ((d + 1), 114, 0, [some (.ref 5), some (.int x)], [], (xSH L dr tl, I, J)) (fun v M => ∃ (I2 : Nat → Nat → Int32) (J2 : Nat → Nat → Int64), v = none ∧ M = (xSH L dr tl, I2, J2) ∧ R I2 J2) := by
  have h8 := q.2.2.2.2.2.2.2.2.1.1
  have t0 := q.1.2.2.2.2.2.2.2.2.2.2.1.1
  have e := andm h0
  refine w114_0 (Or.inr rfl) (brz lt_ti (fun h => ⟨?_, _, _, rfl, rfl, ?_⟩) (fun h => ?_))
  · rw [xin_iff, h8]; omega
  · have q2 := q.opushed (x := x &&& 255) hr (by rw [e]; omega)
    rw [e, ev] at q2
    exact K _ ((keepM_I (by decide)).tr (keepM_I (by decide))) q2
  · exact absurd (show (I 5 1).toInt < 1600 by rw [h8]; exact hr) h
theorem m_lay {R : (Nat → Nat → Int32) → (Nat → Nat → Int64) → Prop} {v : Int} (q : MInv S I J) (hr : sNO S < 1600) (h0 : 0 ≤ x.toInt ∧ x.toInt ≤ 255) (ev : x.toInt = v) (K : ∀ I1 : Nat → Nat → Int32, keepC I I1 J J → MInv (opush S v) I1 J → R I1 J) : WP ((d + 1), 310, 0, [some (.ref 71), some (.int x)], [], (xSH L dr tl, I, J)) (fun v M => ∃ (I2 : Nat → Nat → Int32) (J2 : Nat → Nat → Int64), v = none ∧ M = (xSH L dr tl, I2, J2) ∧ R I2 J2) := by
  have h8 := q.2.2.2.2.2.2.1.1
  have t0 := q.1.2.2.2.2.2.2.2.2.2.2.1.1
  refine w310_0 ⟨?_, _, _, rfl, rfl, ?_⟩
  · rw [xin_iff, h8]; omega
  · have q2 := q.opushed (x := x) hr h0
    rw [ev] at q2
    exact K _ ((keepC_I (by decide)).tr (keepC_I (by decide))) q2
/-- a tape of the class -/
def tapeAt (t : Nat) (n0 : Int) (f : Nat → Int) (I : Nat → Nat → Int32) : Prop := (I t 1).toInt = n0 ∧ n0 ≤ 1600 ∧ ∀ j : Nat, (j : Int) < n0 → (I (t + 1) j).toInt = f j ∧ 0 ≤ f j ∧ f j ≤ 255
theorem s_byte (ht : t = 3 ∨ t = 5) (h : tapeAt t n0 f I) (h1 : 0 ≤ a1.toInt) (h2 : a1.toInt < n0) : PI ((d + 1), 117, 0, [some (.ref t), some (.int a1)], [], (xSH L dr tl, I, J)) (f a1.toInt.toNat) (xSH L dr tl, I, J) := by
  have e1 := h.1
  have e2 := h.2.1
  refine w117_0 ht (brz lt0 (fun z => by omega) (fun _ => brz lt_ti (fun _ => ⟨?_, _, rfl, ?_, rfl⟩) (fun z => by omega)))
  · rw [xin_iff]; omega
  · exact (h.2.2 a1.toInt.toNat (by omega)).1
theorem check_loop (ht : t = 3 ∨ t = 5) (h : tapeAt t n0 f I) (h2 : a1.toInt ≤ n0) : ∀ (m k : Nat) (c i : Int32), ((k + m : Nat) : Int) = a1.toInt → i.toInt = k → c.toInt = ckS f k → PI ((d + 2), 38, 5, [some (.ref t), some (.int a1), some (.int c), some (.int i)], [], (xSH L dr tl, I, J)) (ckS f a1.toInt.toNat) (xSH L dr tl, I, J) := by
  intro m
  induction m with
  | zero =>
    intro k c i hk hi hc
    refine w38_5 ht (brz lt_ti (fun z => by omega) (fun _ => ⟨c, rfl, ?_, rfl⟩))
    rw [hc, show a1.toInt.toNat = k by omega]
  | succ m ih =>
    intro k c i hk hi hc
    have e2 := h.2.1
    have cb := ckS_b (f := f) (n := k)
    have fb := (h.2.2 k (by omega)).2
    have e1 : (i + 1).toInt = ((k + 1 : Nat) : Int) := by rw [add1 (by omega) (by omega), hi]; rfl
    refine w38_5 ht (brz lt_ti (fun _ => (s_byte ht h (by omega) (by omega)).u fun r hr => ih (k + 1) _ _ (by omega) e1 ?_) (fun z => by omega))
    rw [hi, Int.toNat_natCast] at hr
    have e3 : (3 * c).toInt = 3 * ckS f k := by rw [mul_ti (by show _ ≤ 3 * c.toInt; omega) (by show 3 * c.toInt < _; omega), hc]; rfl
    have e4 : (3 * c + r).toInt = 3 * ckS f k + f k := by rw [add_ti (by omega) (by omega), e3, hr]
    rw [rem_ti (by omega) (by decide), e4]; rfl
theorem s_check (ht : t = 3 ∨ t = 5) (h : tapeAt t n0 f I) (h1 : 0 ≤ a1.toInt) (h2 : a1.toInt ≤ n0) : PI ((d + 2), 38, 0, [some (.ref t), some (.int a1), none, none], [], (xSH L dr tl, I, J)) (ckS f a1.toInt.toNat) (xSH L dr tl, I, J) := w38_0 ht (check_loop ht h h2 a1.toInt.toNat 0 57 0 (by omega) rfl rfl)
theorem mcheck_loop {o : Nat} (ho : o = 72 ∨ o = 130) (hn : n0 ≤ 1600) (h : ∀ j : Nat, (j : Int) < n0 → (I o j).toInt = f j ∧ 0 ≤ f j ∧ f j ≤ 255) (h2 : a1.toInt ≤ n0) : ∀ (m k : Nat) (c i : Int32), ((k + m : Nat) : Int) = a1.toInt → i.toInt = k → c.toInt = ckS f k → PI ((d + 1), 311, 5, [some (.ref o), some (.int a1), some (.int c), some (.int i)], [], (xSH L dr tl, I, J)) (ckS f a1.toInt.toNat) (xSH L dr tl, I, J) := by
  intro m
  induction m with
  | zero =>
    intro k c i hk hi hc
    refine w311_5 ho (brz lt_ti (fun z => by omega) (fun _ => ⟨c, rfl, ?_, rfl⟩))
    rw [hc, show a1.toInt.toNat = k by omega]
  | succ m ih =>
    intro k c i hk hi hc
    have cb := ckS_b (f := f) (n := k)
    obtain ⟨fv, fb⟩ := h k (by omega)
    have e1 : (i + 1).toInt = ((k + 1 : Nat) : Int) := by rw [add1 (by omega) (by omega), hi]; rfl
    have xi : xIx i = k := by rw [xIx_ti, hi]; exact Int.toNat_natCast _
    refine w311_5 ho (brz lt_ti (fun _ => ⟨by rw [xin_iff, hi]; omega, ih (k + 1) _ _ (by omega) e1 ?_⟩) (fun z => by omega))
    rw [xi]
    have e3 : (3 * c).toInt = 3 * ckS f k := by rw [mul_ti (by show _ ≤ 3 * c.toInt; omega) (by show 3 * c.toInt < _; omega), hc]; rfl
    have e4 : (3 * c + I o k).toInt = 3 * ckS f k + f k := by rw [add_ti (by omega) (by omega), e3, fv]
    rw [rem_ti (by omega) (by decide), e4]; rfl
theorem m_check {o : Nat} (ho : o = 72 ∨ o = 130) (hn : n0 ≤ 1600) (h : ∀ j : Nat, (j : Int) < n0 → (I o j).toInt = f j ∧ 0 ≤ f j ∧ f j ≤ 255) (h1 : 0 ≤ a1.toInt) (h2 : a1.toInt ≤ n0) : PI ((d + 1), 311, 0, [some (.ref o), some (.int a1), none, none], [], (xSH L dr tl, I, J)) (ckS f a1.toInt.toNat) (xSH L dr tl, I, J) := w311_0 ho (mcheck_loop ho hn h h2 a1.toInt.toNat 0 57 0 (by omega) rfl rfl)
end IMAGE
