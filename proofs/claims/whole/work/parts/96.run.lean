/-! ===== hours, run ===== -/
def hsS (S : aS) : Nat → aS × Int
  | 0 => (S, 0)
  | n + 1 => ((hourS (hsS S n).1).1, (hsS S n).2 + (hourS (hsS S n).1).2)
/-- a draw -/
def drawS (S : aS) : aS := sset S 0 13 ((1103515245 * sSd S + 12345) % 2147483648)
def drawN (S : aS) (n : Int) : Int := (1103515245 * sSd S + 12345) % 2147483648 / 64 % n
/-- who is drawn and has no leaf sits down -/
def sat (S : aS) (r : Nat) (l : Int) : aS := if S 19 r = -1 then sit S r l 0 else S
def run1 (S : aS) : aS := sat (drawS (drawS S)) (drawN S (sNR S)).toNat (drawN (drawS S) (sNL S))
def runS (S : aS) : Nat → aS × Int
  | 0 => (S, 0)
  | n + 1 => ((hourS (run1 (runS S n).1)).1, (runS S n).2 + (hourS (run1 (runS S n).1)).2)
theorem and31 {x : Int64} (h : 0 ≤ x.toInt) : (x &&& 2147483647).toInt = x.toInt % 2147483648 := by
  have e1 : x.toInt = (x.toBitVec.toNat : Int) := by
    have h1 : x.toInt = x.toBitVec.toInt := rfl
    rw [h1] at h ⊢
    rw [BitVec.toInt_eq_toNat_cond] at h ⊢
    split at h
    · rename_i z; rw [if_pos z]
    · have := x.toBitVec.isLt; omega
  have e2 : (x &&& 2147483647).toBitVec.toNat = x.toBitVec.toNat % 2147483648 := by
    rw [Int64.toBitVec_and, BitVec.toNat_and]
    exact Nat.and_two_pow_sub_one_eq_mod x.toBitVec.toNat 31
  have e3 : (x &&& 2147483647).toInt = ((x &&& 2147483647).toBitVec.toNat : Int) := by
    show (x &&& 2147483647).toBitVec.toInt = _
    rw [BitVec.toInt_eq_toNat_cond, if_pos (by rw [e2]; omega)]
  rw [e3, e2, e1]; rfl
theorem ldivN {a b : Int64} (h1 : 0 ≤ a.toInt) (h2 : 0 < b.toInt) (h3 : a.toInt < 9223372036854775808) : (a / b).toInt = a.toInt / b.toInt := by
  rw [Int64.toInt_div]
  have h4 : a.toInt.tdiv b.toInt = a.toInt / b.toInt := Int.tdiv_eq_ediv_of_nonneg h1
  have h5 : 0 ≤ a.toInt / b.toInt := Int.ediv_nonneg h1 (by omega)
  have h6 : a.toInt / b.toInt ≤ a.toInt := Int.ediv_le_self _ h1
  rw [h4]
  exact bm64 (by omega) (by omega)
theorem lrem {a b : Int64} (h1 : 0 ≤ a.toInt) (h2 : 0 < b.toInt) (h3 : a.toInt < 9223372036854775808) : (a - a / b * b).toInt = a.toInt % b.toInt := by
  have e := ldivN h1 h2 h3
  have h5 : 0 ≤ a.toInt / b.toInt := Int.ediv_nonneg h1 (by omega)
  have h6 : a.toInt / b.toInt * b.toInt ≤ a.toInt := Int.ediv_mul_le _ (by omega)
  have h7 : 0 ≤ a.toInt / b.toInt * b.toInt := Int.mul_nonneg h5 (by omega)
  have e2 : (a / b * b).toInt = a.toInt / b.toInt * b.toInt := by rw [lmul (by rw [e]; omega) (by rw [e]; omega), e]
  rw [lsub (by rw [e2]; omega) (by rw [e2]; omega), e2, Int.emod_def, Int.mul_comm]
section RUN
variable {S T : aS} {L d dr tl : Nat} {I I2 : Nat → Nat → Int32} {J : Nat → Nat → Int64} {a1 a2 a3 a4 a5 a6 : Int32} {r x k m f : Nat} {l p l' p' v e t n : Int} {Q : Option Value → xMem → Prop}
theorem hourS_h : sHr (hourS S).1 = sHr S + 1 := by unfold hourS sHr; dsimp only; exact sg
theorem hsS_h : ∀ n : Nat, sHr (hsS S n).1 = sHr S + n := by
  intro n
  induction n with
  | zero => show sHr S = sHr S + (0 : Nat); omega
  | succ n ih => rw [hsS]; dsimp only; rw [hourS_h, ih]; omega
theorem gt999 {a : Int32} : 999 < a ↔ 999 < a.toInt := lt_ti
theorem gt200 {a : Int32} : 200 < a ↔ 200 < a.toInt := lt_ti
theorem c_hours_loop {n : Nat} (en : a1.toInt = n) (h9 : sHr S + n ≤ 9999) (hn : n ≤ 999) : ∀ (m k : Nat) (c i : Int32) (I : Nat → Nat → Int32), k + m = n → i.toInt = k → c.toInt = (hsS S k).2 → (0 ≤ c.toInt ∧ c.toInt ≤ 256 * k) → CInv (hsS S k).1 dr tl I J → (∀ (x : Int32) (I1 : Nat → Nat → Int32), x.toInt = (hsS S n).2 → keepM I I1 J J → CInv (hsS S n).1 dr tl I1 J → Q (some (.int x)) (xSH L dr tl, I1, J)) → WP ((d + 7), 174, 33, [some (.ref 2), some (.int a1), some (.int c), some (.int i)], [], (xSH L dr tl, I, J)) Q := by
  intro m
  induction m with
  | zero =>
    intro k c i I hk hi hcn hcb q K
    have hk' : k = n := by omega
    subst hk'
    exact w174_33 (brz lt_ti (fun z => by omega) (fun _ => K c I hcn keepM_refl q))
  | succ m ih =>
    intro k c i I hk hi hcn hcb q K
    have e1 : (i + 1).toInt = ((k + 1 : Nat) : Int) := by rw [add1 (by omega) (by omega), hi]; rfl
    have eh := hsS_h (S := S) k
    refine w174_33 (brz lt_ti (fun _ => s_passHour q (by omega) fun x I1 ex x1 x2 fx qx => ih (k + 1) _ _ I1 (by omega) e1 ?_ ?_ qx fun y I2 ey fy qy => K y I2 ey (fx.tr fy) qy) (fun z => by omega))
    · rw [add_ti (by omega) (by omega), hcn, ex]; rfl
    · rw [add_ti (by omega) (by omega)]; omega
theorem m_hours_loop {n : Nat} (en : a1.toInt = n) (h9 : sHr S + n ≤ 9999) (hn : n ≤ 999) : ∀ (m k : Nat) (c i : Int32) (I : Nat → Nat → Int32), k + m = n → i.toInt = k → c.toInt = (hsS S k).2 → (0 ≤ c.toInt ∧ c.toInt ≤ 256 * k) → MInv (hsS S k).1 I J → (∀ (x : Int32) (I1 : Nat → Nat → Int32), x.toInt = (hsS S n).2 → keepC I I1 J J → MInv (hsS S n).1 I1 J → Q (some (.int x)) (xSH L dr tl, I1, J)) → WP ((d + 4), 275, 30, [some (.ref 71), some (.int a1), some (.int c), some (.int i)], [], (xSH L dr tl, I, J)) Q := by
  intro m
  induction m with
  | zero =>
    intro k c i I hk hi hcn hcb q K
    have hk' : k = n := by omega
    subst hk'
    exact w275_30 (brz lt_ti (fun z => by omega) (fun _ => K c I hcn keepC_refl q))
  | succ m ih =>
    intro k c i I hk hi hcn hcb q K
    have e1 : (i + 1).toInt = ((k + 1 : Nat) : Int) := by rw [add1 (by omega) (by omega), hi]; rfl
    have eh := hsS_h (S := S) k
    refine w275_30 (brz lt_ti (fun _ => m_goesBy q (by omega) fun x I1 ex x1 x2 fx qx => ih (k + 1) _ _ I1 (by omega) e1 ?_ ?_ qx fun y I2 ey fy qy => K y I2 ey (fx.kc.tr fy) qy) (fun z => by omega))
    · rw [add_ti (by omega) (by omega), hcn, ex]; rfl
    · rw [add_ti (by omega) (by omega)]; omega
theorem call_hours : Call L (d + 7) 174 275 [.int a1] [.int a1] S := by
  by_cases h : 1 ≤ a1.toInt ∧ a1.toInt ≤ 999 ∧ sHr S + a1.toInt ≤ 9999
  · obtain ⟨h1, h2, h3⟩ := h
    refine Call.st (hsS S a1.toInt.toNat).1 (hsS S a1.toInt.toNat).2 (fun dr tl I J q => ?_) (fun dr tl I J q => ?_)
    · have hb := q.1.2.2.2.2.2.2.1
      refine w174_0 (brz lt1 (fun z => by omega) (fun _ => brz gt999 (fun z => by omega) (fun _ => (s_hour q.cb.2.2.2).u fun r3 e3 => brz gt9999 (fun z => ?_) (fun _ => c_hours_loop (n := a1.toInt.toNat) (by omega) (by omega) (by omega) a1.toInt.toNat 0 0 0 I (by omega) rfl rfl (by decide) q fun x I1 ex fx qx => ⟨x, I1, J, rfl, ex, rfl, fx, qx⟩))))
      rw [add_ti (by omega) (by omega), e3] at z; omega
    · have hb := q.1.2.2.2.2.2.2.1
      have e55 := q.2.2.2.1.1
      refine w275_0 (m_isIn.u (fun _ => br1 (brz gt9999 (fun z => ?_) (fun _ => m_hours_loop (n := a1.toInt.toNat) (by omega) (by omega) (by omega) a1.toInt.toNat 0 0 0 I (by omega) rfl rfl (by decide) q fun x I1 ex fx qx => ⟨x, I1, J, rfl, ex, rfl, fx, qx⟩))) (fun z => ?_))
      · rw [add_ti (by omega) (by omega), e55] at z; omega
      · rw [t64] at z; exact absurd (show (1 : Int) ≤ _ ∧ _ ≤ (999 : Int) from ⟨h1, h2⟩) z
  · refine Call.st S (-1) (fun dr tl I J q => ?_) (fun dr tl I J q => ?_)
    · have hb := q.1.2.2.2.2.2.2.1
      refine w174_0 (brz lt1 (fun z => ⟨-1, I, J, rfl, rfl, rfl, keepM_refl, q⟩) (fun z1 => brz gt999 (fun z => ⟨-1, I, J, rfl, rfl, rfl, keepM_refl, q⟩) (fun z2 => (s_hour q.cb.2.2.2).u fun r3 e3 => brz gt9999 (fun z => ⟨-1, I, J, rfl, rfl, rfl, keepM_refl, q⟩) (fun z => ?_))))
      rw [add_ti (by omega) (by omega), e3] at z
      exact absurd ⟨by omega, by omega, by omega⟩ h
    · have hb := q.1.2.2.2.2.2.2.1
      have e55 := q.2.2.2.1.1
      refine w275_0 (m_isIn.u (fun y => br1 (brz gt9999 (fun z => ⟨-1, I, J, rfl, rfl, rfl, keepC_refl, q⟩) (fun z => ?_))) (fun z => br0 ⟨-1, I, J, rfl, rfl, rfl, keepC_refl, q⟩))
      rw [t64] at y
      have y' : (1 : Int) ≤ a1.toInt ∧ a1.toInt ≤ (999 : Int) := y
      rw [add_ti (by omega) (by omega), e55] at z
      exact absurd ⟨by omega, by omega, by omega⟩ h
theorem seed_b {z : Int} (h : 0 ≤ z ∧ z < 2147483648) : 0 ≤ 1103515245 * z + 12345 ∧ 1103515245 * z + 12345 < 3000000000000000000 := by omega
theorem lcg {s : Int64} {z : Int} (e : s.toInt = z) (h : 0 ≤ z ∧ z < 2147483648) : (1103515245 * s + 12345).toInt = 1103515245 * z + 12345 := by
  have b := seed_b h
  have e1 : (1103515245 * s).toInt = 1103515245 * z := by rw [lmul (by rw [e]; show _ ≤ 1103515245 * z; omega) (by rw [e]; show 1103515245 * z < _; omega), e]; rfl
  rw [ladd (by rw [e1]; show _ ≤ _ + (12345 : Int); omega) (by rw [e1]; show _ + (12345 : Int) < _; omega), e1]; rfl
theorem drawN_b {n : Int} (h : 0 < n) : 0 ≤ drawN S n ∧ drawN S n < n := ⟨Int.emod_nonneg _ (by omega), Int.emod_lt_of_pos _ h⟩
theorem draw_ans {s : Int64} {z : Int} (e : s.toInt = z) (h : 0 ≤ z ∧ z < 2147483648) (ha : 0 < a1.toInt) : (Int64.toInt32 (s / 64 - s / 64 / (Int32.toInt64 a1) * (Int32.toInt64 a1))).toInt = z / 64 % a1.toInt := by
  have h1 := ti_hi a1
  have e1 : (s / 64).toInt = z / 64 := by rw [ldivN (by omega) (by decide) (by omega), e]; rfl
  have e2 : (s / 64 - s / 64 / (Int32.toInt64 a1) * (Int32.toInt64 a1)).toInt = z / 64 % a1.toInt := by rw [lrem (by omega) (by rw [t64]; exact ha) (by omega), e1, t64]
  have b1 := Int.emod_nonneg (z / 64) (show a1.toInt ≠ 0 by omega)
  have b2 := Int.emod_lt_of_pos (z / 64) ha
  rw [l32 (by rw [e2]; omega) (by rw [e2]; omega), e2]
theorem s_draw {R : Int32 → (Nat → Nat → Int32) → (Nat → Nat → Int64) → Prop} (q : CInv S dr tl I J) (ha : 0 < a1.toInt) (K : ∀ (x : Int32) (J1 : Nat → Nat → Int64), x.toInt = drawN S a1.toInt → keepM I I J J1 → CInv (drawS S) dr tl I J1 → R x I J1) : WP ((d + 1), 176, 0, [some (.ref 2), some (.int a1)], [], (xSH L dr tl, I, J)) (fun v M => ∃ (r : Int32) (I2 : Nat → Nat → Int32) (J2 : Nat → Nat → Int64), v = some (.int r) ∧ M = (xSH L dr tl, I2, J2) ∧ R r I2 J2) := by
  have hs := q.1.2.2.2.2.2.2.2.2.2.2.2.1
  have e7 : (J 2 7).toInt = sSd S := q.2.2.2.2.2.2.2.2.2.2.1
  have b := seed_b hs
  have e1 := lcg e7 hs
  have e2 : ((1103515245 * (J 2 7) + 12345) &&& 2147483647).toInt = (1103515245 * sSd S + 12345) % 2147483648 := by rw [and31 (by omega), e1]
  have b2 : 0 ≤ (1103515245 * sSd S + 12345) % 2147483648 ∧ (1103515245 * sSd S + 12345) % 2147483648 < 2147483648 := by omega
  refine w176_0 (hit (gt0.mpr ha) ⟨fun z => ?_, ?_⟩)
  · have z' : (Int32.toInt64 a1).toInt = 0 := by rw [z]; rfl
    rw [t64] at z'; omega
  · rw [jg]
    exact ⟨_, I, _, rfl, rfl, K _ _ (draw_ans e2 b2 ha) (keepM_J (by decide)) (q.seed b2.1 b2.2 e2)⟩
theorem m_draw {R : Int32 → (Nat → Nat → Int32) → (Nat → Nat → Int64) → Prop} (q : MInv S I J) (ha : 0 < a1.toInt) (K : ∀ (x : Int32) (J1 : Nat → Nat → Int64), x.toInt = drawN S a1.toInt → keepC I I J J1 → MInv (drawS S) I J1 → R x I J1) : WP ((d + 1), 277, 0, [some (.ref 71), some (.int a1)], [], (xSH L dr tl, I, J)) (fun v M => ∃ (r : Int32) (I2 : Nat → Nat → Int32) (J2 : Nat → Nat → Int64), v = some (.int r) ∧ M = (xSH L dr tl, I2, J2) ∧ R r I2 J2) := by
  have hs := q.1.2.2.2.2.2.2.2.2.2.2.2.1
  have e7 : (J 71 67).toInt = sSd S := q.2.2.2.2.2.2.2.2.1
  have b := seed_b hs
  have e1 := lcg e7 hs
  have e2 : ((1103515245 * (J 71 67) + 12345) - (1103515245 * (J 71 67) + 12345) / 2147483648 * 2147483648).toInt = (1103515245 * sSd S + 12345) % 2147483648 := by rw [lrem (by omega) (by decide) (by omega), e1]; rfl
  have b2 : 0 ≤ (1103515245 * sSd S + 12345) % 2147483648 ∧ (1103515245 * sSd S + 12345) % 2147483648 < 2147483648 := by omega
  refine w277_0 ⟨fun z => ?_, ?_⟩
  · have z' : (Int32.toInt64 a1).toInt = 0 := by rw [z]; rfl
    rw [t64] at z'; omega
  · rw [jg]
    exact ⟨_, I, _, rfl, rfl, K _ _ (draw_ans e2 b2 ha) (keepC_J (by decide)) (q.seed b2.1 b2.2 e2)⟩
theorem drawS_f (h : f ≠ 0) : drawS S f = S f := by funext k; unfold drawS sset; rw [if_neg (fun z => h z.1)]
theorem drawS_0 {k : Nat} (h : k ≠ 13) : drawS S 0 k = S 0 k := by unfold drawS sset; rw [if_neg (fun z => h z.2)]
theorem sat_f (h1 : f ≠ 19) (h2 : f ≠ 20) : sat S r l f = S f := by
  unfold sat
  split
  · exact sit_f h1 h2
  · rfl
theorem run1_0 {k : Nat} (h : k ≠ 13) : run1 S 0 k = S 0 k := by
  unfold run1
  rw [sat_f (by decide) (by decide), drawS_0 h, drawS_0 h]
theorem hour_0 {k : Nat} (h : k ≠ 8) : (hourS S).1 0 k = S 0 k := by
  unfold hourS
  dsimp only
  rw [sgn h, hrS_f (by decide) (by decide) (by decide) (by decide) (by decide)]
theorem runS_0 {k : Nat} (h1 : k ≠ 13) (h2 : k ≠ 8) : ∀ n : Nat, (runS S n).1 0 k = S 0 k := by
  intro n
  induction n with
  | zero => rfl
  | succ n ih => rw [runS]; dsimp only; rw [hour_0 h2, run1_0 h1, ih]
theorem runS_h : ∀ n : Nat, sHr (runS S n).1 = sHr S + n := by
  intro n
  induction n with
  | zero => show sHr S = sHr S + (0 : Nat); omega
  | succ n ih =>
    rw [runS]; dsimp only
    rw [hourS_h]
    have : sHr (run1 (runS S n).1) = sHr (runS S n).1 := run1_0 (by decide)
    rw [this, ih]; omega
theorem c_run_loop {n : Nat} (en : a1.toInt = n) (h9 : sHr S + n ≤ 9999) (hn : n ≤ 200) (hr : 0 < sNR S) (hl : 0 < sNL S) (e2 : a2.toInt = sNR S) (e3 : a3.toInt = sNL S) : ∀ (m k : Nat) (c i : Int32) (I : Nat → Nat → Int32) (J : Nat → Nat → Int64), k + m = n → i.toInt = k → c.toInt = (runS S k).2 → (0 ≤ c.toInt ∧ c.toInt ≤ 256 * k) → CInv (runS S k).1 dr tl I J → (∀ (x : Int32) (I1 : Nat → Nat → Int32) (J1 : Nat → Nat → Int64), x.toInt = (runS S n).2 → keepM I I1 J J1 → CInv (runS S n).1 dr tl I1 J1 → Q (some (.int x)) (xSH L dr tl, I1, J1)) → WP ((d + 7), 175, 71, [some (.ref 2), some (.int a1), some (.int a2), some (.int a3), some (.int c), some (.int i), none, none], [], (xSH L dr tl, I, J)) Q := by
  intro m
  induction m with
  | zero =>
    intro k c i I J hk hi hcn hcb q K
    have hk' : k = n := by omega
    subst hk'
    exact w175_71 (brz lt_ti (fun z => by omega) (fun _ => K c I J hcn keepM_refl q))
  | succ m ih =>
    intro k c i I J hk hi hcn hcb q K
    have e1 : (i + 1).toInt = ((k + 1 : Nat) : Int) := by rw [add1 (by omega) (by omega), hi]; rfl
    have eh := runS_h (S := S) k
    have n3 : sNR (runS S k).1 = sNR S := runS_0 (by decide) (by decide) k
    have n2 : sNL (runS S k).1 = sNL S := runS_0 (by decide) (by decide) k
    refine w175_71 (brz lt_ti (fun _ => s_draw q (by omega) fun x1 J1 d1 f1 q1 => s_draw q1 (by omega) fun x2 J2 d2 f2 q2 => ?_) (fun z => by omega))
    have hc := q2.cb
    have b1 := drawN_b (S := (runS S k).1) (n := a2.toInt) (by omega)
    have b2 := drawN_b (S := drawS (runS S k).1) (n := a3.toInt) (by omega)
    have m3 : sNR (drawS (drawS (runS S k).1)) = sNR S := by unfold sNR; rw [drawS_0 (by decide), drawS_0 (by decide)]; exact n3
    have m2 : sNL (drawS (drawS (runS S k).1)) = sNL S := by unfold sNL; rw [drawS_0 (by decide), drawS_0 (by decide)]; exact n2
    have hN := hc.1.2.2.2.1.2.1
    have hrd : isRd (drawS (drawS (runS S k).1)) x1.toInt := ⟨by omega, by omega⟩
    have hll : isL (drawS (drawS (runS S k).1)) x2.toInt := ⟨by omega, by omega⟩
    have hx : xin x1 4 = true := by rw [xin_iff]; omega
    have E1 : run1 (runS S k).1 = sat (drawS (drawS (runS S k).1)) x1.toInt.toNat x2.toInt := by unfold run1; rw [n3, n2, ← e2, ← e3, d1, d2]
    have rest : ∀ I3 : Nat → Nat → Int32, keepM I I3 J J2 → CInv (run1 (runS S k).1) dr tl I3 J2 → WP ((d + 6), 155, 0, [some (.ref 30), none, none], [], (xSH L dr tl, I3, J2)) (fun v M => ∃ (r8 : Int32) (I8 : Nat → Nat → Int32) (J8 : Nat → Nat → Int64), v = some (.int r8) ∧ M = (xSH L dr tl, I8, J8) ∧ WP ((d + 7), 175, 71, [some (.ref 2), some (.int a1), some (.int a2), some (.int a3), some (.int (c + r8)), some (.int (i + 1)), none, none], [], (xSH L dr tl, I8, J8)) Q) := by
      intro I3 f3 q3
      have h8 : sHr (run1 (runS S k).1) = sHr (runS S k).1 := run1_0 (by decide)
      refine s_passHour q3 (by omega) fun x I4 ex y1 y2 fx qx => ih (k + 1) _ _ I4 J2 (by omega) e1 ?_ ?_ qx fun y I5 J5 ey fy qy => K y I5 J5 ey ((f3.tr fx).tr fy) qy
      · rw [add_ti (by omega) (by omega), hcn, ex]; rfl
      · rw [add_ti (by omega) (by omega)]; omega
    refine (s_seatLeaf hc).u fun r4 h4 => ?_
    rw [if_pos hrd] at h4
    refine brz eqm (fun z => w135_0 hc.2.1 ((s_hasReader hc.2.1 hc.2.2.1).u (fun _ => br1 ⟨hx, hx, _, _, rfl, rfl, rest _ ((f1.tr f2).tr ((keepM_I (by decide)).tr (keepM_I (by decide)))) ?_⟩) (fun y => absurd hrd y))) (fun z => rest I (f1.tr f2) ?_)
    · rw [E1, sat, if_pos (h4.symm.trans z)]
      have hlen := hc.1.2.2.1.2.2 x2.toInt.toNat (by omega)
      exact q2.sits (Or.inr ⟨hll, by decide, by omega⟩) rfl rfl
    · rw [E1, sat, if_neg (fun y => z (h4.trans y))]; exact q2
theorem m_run_loop {n : Nat} (en : a1.toInt = n) (h9 : sHr S + n ≤ 9999) (hn : n ≤ 200) (hr : 0 < sNR S) (hl : 0 < sNL S) : ∀ (m k : Nat) (c i : Int32) (I : Nat → Nat → Int32) (J : Nat → Nat → Int64), k + m = n → i.toInt = k → c.toInt = (runS S k).2 → (0 ≤ c.toInt ∧ c.toInt ≤ 256 * k) → MInv (runS S k).1 I J → (∀ (x : Int32) (I1 : Nat → Nat → Int32) (J1 : Nat → Nat → Int64), x.toInt = (runS S n).2 → keepC I I1 J J1 → MInv (runS S n).1 I1 J1 → Q (some (.int x)) (xSH L dr tl, I1, J1)) → WP ((d + 4), 278, 44, [some (.ref 71), some (.int a1), some (.int c), some (.int i), none, none], [], (xSH L dr tl, I, J)) Q := by
  intro m
  induction m with
  | zero =>
    intro k c i I J hk hi hcn hcb q K
    have hk' : k = n := by omega
    subst hk'
    exact w278_44 (brz lt_ti (fun z => by omega) (fun _ => K c I J hcn keepC_refl q))
  | succ m ih =>
    intro k c i I J hk hi hcn hcb q K
    have e1 : (i + 1).toInt = ((k + 1 : Nat) : Int) := by rw [add1 (by omega) (by omega), hi]; rfl
    have eh := runS_h (S := S) k
    have n3 : sNR (runS S k).1 = sNR S := runS_0 (by decide) (by decide) k
    have n2 : sNL (runS S k).1 = sNL S := runS_0 (by decide) (by decide) k
    refine w278_44 (brz lt_ti (fun _ => (m_people q.2.1).u fun y1 g1 => m_draw q (by omega) fun x1 J1 d1 f1 q1 => (m_leaves q1.2.1).u fun y2 g2 => m_draw q1 (by have : sNL (drawS (runS S k).1) = sNL (runS S k).1 := drawS_0 (by decide); omega) fun x2 J2 d2 f2 q2 => ?_) (fun z => by omega))
    have hm := q2.mb
    have gl : sNL (drawS (runS S k).1) = sNL (runS S k).1 := drawS_0 (by decide)
    have b1 := drawN_b (S := (runS S k).1) (n := y1.toInt) (by omega)
    have b2 := drawN_b (S := drawS (runS S k).1) (n := y2.toInt) (by omega)
    have m3 : sNR (drawS (drawS (runS S k).1)) = sNR S := by unfold sNR; rw [drawS_0 (by decide), drawS_0 (by decide)]; exact n3
    have m2 : sNL (drawS (drawS (runS S k).1)) = sNL S := by unfold sNL; rw [drawS_0 (by decide), drawS_0 (by decide)]; exact n2
    have hN := hm.1.2.2.2.1.2.1
    have hrd : isRd (drawS (drawS (runS S k).1)) x1.toInt := ⟨by omega, by omega⟩
    have hll : isL (drawS (drawS (runS S k).1)) x2.toInt := ⟨by omega, by omega⟩
    have hx : xin x1 4 = true := by rw [xin_iff]; omega
    have E1 : run1 (runS S k).1 = sat (drawS (drawS (runS S k).1)) x1.toInt.toNat x2.toInt := by unfold run1; rw [← g1, ← gl, ← g2, d1, d2]
    have rest : ∀ I3 : Nat → Nat → Int32, keepC I I3 J J2 → MInv (run1 (runS S k).1) I3 J2 → WP ((d + 3), 274, 0, [some (.ref 71), none, none, none, none], [], (xSH L dr tl, I3, J2)) (fun v M => ∃ (r8 : Int32) (I8 : Nat → Nat → Int32) (J8 : Nat → Nat → Int64), v = some (.int r8) ∧ M = (xSH L dr tl, I8, J8) ∧ WP ((d + 4), 278, 44, [some (.ref 71), some (.int a1), some (.int (c + r8)), some (.int (i + 1)), none, none], [], (xSH L dr tl, I8, J8)) Q) := by
      intro I3 f3 q3
      have h8 : sHr (run1 (runS S k).1) = sHr (runS S k).1 := run1_0 (by decide)
      refine m_goesBy q3 (by omega) fun x I4 ex y1 y2 fx qx => ih (k + 1) _ _ I4 J2 (by omega) e1 ?_ ?_ qx fun y I5 J5 ey fy qy => K y I5 J5 ey ((f3.tr fx.kc).tr fy) qy
      · rw [add_ti (by omega) (by omega), hcn, ex]; rfl
      · rw [add_ti (by omega) (by omega)]; omega
    have e19 : (I 114 (xIx x1)).toInt = drawS (drawS (runS S k).1) 19 x1.toInt.toNat := (hm.2.2.2.2 x1.toInt.toNat (by omega)).1
    refine ⟨hx, brz eqm (fun z => ⟨hx, hx, rest _ ((f1.tr f2).tr ((keepC_I (by decide)).tr (keepC_I (by decide)))) ?_⟩) (fun z => rest I (f1.tr f2) ?_)⟩
    · rw [E1, sat, if_pos (e19.symm.trans z)]
      have hlen := hm.1.2.2.1.2.2 x2.toInt.toNat (by omega)
      exact q2.sits (Or.inr ⟨hll, by decide, by omega⟩) rfl rfl
    · rw [E1, sat, if_neg (fun y => z (e19.trans y))]; exact q2
theorem call_run : Call L (d + 7) 175 278 [.int a1] [.int a1] S := by
  by_cases h : 1 ≤ a1.toInt ∧ a1.toInt ≤ 200 ∧ sHr S + a1.toInt ≤ 9999 ∧ sNR S ≠ 0 ∧ sNL S ≠ 0
  · obtain ⟨h1, h2, h3, h4, h5⟩ := h
    refine Call.st (runS S a1.toInt.toNat).1 (runS S a1.toInt.toNat).2 (fun dr tl I J q => ?_) (fun dr tl I J q => ?_)
    · have hb := q.1.2.2.2.2.2.2.1
      have hc := q.cb
      have p3 := hc.1.2.2.2.1.1
      have p2 := hc.1.2.2.1.1
      refine w175_0 hc.2.1 ((s_told hc.2.1).v ((s_size (sp7 hc.2.1) hc.2.2.1.1.2.2.1).u fun r2 e2 => (s_told hc.2.1).v ((s_size (sp4 hc.2.1) hc.2.2.1.1.2.1).u fun r4 e4 => brz lt1 (fun z => by omega) (fun _ => brz gt200 (fun z => by omega) (fun _ => (s_hour hc.2.2.2).u fun r3 e3 => brz gt9999 (fun z => ?_) (fun _ => brz eq0 (fun z => by omega) (fun _ => brz eq0 (fun z => by omega) (fun _ => c_run_loop (n := a1.toInt.toNat) (by omega) (by omega) (by omega) (by omega) (by omega) e2 e4 a1.toInt.toNat 0 0 0 I J (by omega) rfl rfl (by decide) q fun x I1 J1 ex fx qx => ⟨x, I1, J1, rfl, ex, rfl, fx, qx⟩))))))))
      rw [add_ti (by omega) (by omega), e3] at z; omega
    · have hb := q.1.2.2.2.2.2.2.1
      have p3 := q.1.2.2.2.1.1
      have p2 := q.1.2.2.1.1
      have e55 := q.2.2.2.1.1
      refine w278_0 (m_isIn.u (fun _ => br1 (brz gt9999 (fun z => ?_) (fun _ => (m_people q.2.1).u fun r4 e4 => brz eq0 (fun z => by omega) (fun _ => (m_leaves q.2.1).u fun r6 e6 => brz eq0 (fun z => by omega) (fun _ => m_run_loop (n := a1.toInt.toNat) (by omega) (by omega) (by omega) (by omega) (by omega) a1.toInt.toNat 0 0 0 I J (by omega) rfl rfl (by decide) q fun x I1 J1 ex fx qx => ⟨x, I1, J1, rfl, ex, rfl, fx, qx⟩))))) (fun z => ?_))
      · rw [add_ti (by omega) (by omega), e55] at z; omega
      · rw [t64] at z; exact absurd (show (1 : Int) ≤ _ ∧ _ ≤ (200 : Int) from ⟨h1, h2⟩) z
  · refine Call.st S (-1) (fun dr tl I J q => ?_) (fun dr tl I J q => ?_)
    · have hb := q.1.2.2.2.2.2.2.1
      have hc := q.cb
      refine w175_0 hc.2.1 ((s_told hc.2.1).v ((s_size (sp7 hc.2.1) hc.2.2.1.1.2.2.1).u fun r2 e2 => (s_told hc.2.1).v ((s_size (sp4 hc.2.1) hc.2.2.1.1.2.1).u fun r4 e4 => brz lt1 (fun z => ⟨-1, I, J, rfl, rfl, rfl, keepM_refl, q⟩) (fun z1 => brz gt200 (fun z => ⟨-1, I, J, rfl, rfl, rfl, keepM_refl, q⟩) (fun z2 => (s_hour hc.2.2.2).u fun r3 e3 => brz gt9999 (fun z => ⟨-1, I, J, rfl, rfl, rfl, keepM_refl, q⟩) (fun z3 => brz eq0 (fun z => ⟨-1, I, J, rfl, rfl, rfl, keepM_refl, q⟩) (fun z4 => brz eq0 (fun z => ⟨-1, I, J, rfl, rfl, rfl, keepM_refl, q⟩) (fun z5 => ?_))))))))
      rw [add_ti (by omega) (by omega), e3] at z3
      exact absurd ⟨by omega, by omega, by omega, by omega, by omega⟩ h
    · have hb := q.1.2.2.2.2.2.2.1
      have e55 := q.2.2.2.1.1
      refine w278_0 (m_isIn.u (fun y => br1 (brz gt9999 (fun z => ⟨-1, I, J, rfl, rfl, rfl, keepC_refl, q⟩) (fun z3 => (m_people q.2.1).u fun r4 e4 => brz eq0 (fun z => ⟨-1, I, J, rfl, rfl, rfl, keepC_refl, q⟩) (fun z4 => (m_leaves q.2.1).u fun r6 e6 => brz eq0 (fun z => ⟨-1, I, J, rfl, rfl, rfl, keepC_refl, q⟩) (fun z5 => ?_))))) (fun z => br0 ⟨-1, I, J, rfl, rfl, rfl, keepC_refl, q⟩))
      rw [t64] at y
      have y' : (1 : Int) ≤ a1.toInt ∧ a1.toInt ≤ (200 : Int) := y
      rw [add_ti (by omega) (by omega), e55] at z3
      exact absurd ⟨by omega, by omega, by omega, by omega, by omega⟩ h
end RUN
