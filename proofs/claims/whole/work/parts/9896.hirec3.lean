/-! ===== hire: what is asked, the class's plan ===== -/
noncomputable def lkB (S : aS) (p r : Nat) : Bool := @decide (looks S r p) (Classical.propDecidable _)
/-- the group of those of the first k readers that look at a place -/
noncomputable def lookG (S : aS) (p : Nat) : Nat → Nat
  | 0 => 0
  | k + 1 => lookG S p k + (if lkB S p k = true then 2 ^ k else 0)
noncomputable def askF (S : aS) (l : Int) (a : Nat) : Nat → (Nat → Int)
  | 0 => fun _ => 0
  | m + 1 => updF (askF S l a m) (lookG S (a + m) 4) (max (askF S l a m (lookG S (a + m) 4)) (S 16 (slot l (a + m : Nat))))
noncomputable def fullF (S : aS) (l : Int) (a n : Nat) : Nat → Int := fun j => if j < 16 then askF S l a n j else if ((j - 16 : Nat) : Int) < sNR S then S 8 (j - 16) else 0
theorem lkB_t {S : aS} {p r : Nat} : lkB S p r = true ↔ looks S r p := by unfold lkB; exact @decide_eq_true_iff _ (Classical.propDecidable _)
theorem lookG_lt {S : aS} {p : Nat} : ∀ k : Nat, lookG S p k < 2 ^ k := by
  intro k
  induction k with
  | zero => exact Nat.lt_of_lt_of_le (by show 0 < 1; decide) (Nat.le_refl _)
  | succ k ih =>
    show lookG S p k + (if lkB S p k = true then 2 ^ k else 0) < 2 ^ (k + 1)
    have : 2 ^ (k + 1) = 2 ^ k + 2 ^ k := by rw [Nat.pow_succ]; omega
    split <;> omega
theorem hBest_c {f f' c : Nat → Int} (h : ∀ j : Nat, j < 20 → f j = f' j) (b : hBest f c) : hBest f' c := by
  have fe : ∀ c : Nat → Int, hFeas f c ↔ hFeas f' c := by
    intro c
    rw [hF16, hF16, h 0 (by decide), h 1 (by decide), h 2 (by decide), h 3 (by decide), h 4 (by decide), h 5 (by decide), h 6 (by decide), h 7 (by decide), h 8 (by decide), h 9 (by decide), h 10 (by decide), h 11 (by decide), h 12 (by decide), h 13 (by decide), h 14 (by decide), h 15 (by decide)]
  have pe : ∀ c : Nat → Int, hPay f c = hPay f' c := by
    intro c
    unfold hPay
    rw [h 16 (by decide), h 17 (by decide), h 18 (by decide), h 19 (by decide)]
  refine ⟨(fe c).mp b.1, fun c' hc => ?_⟩
  have := b.2 c' ((fe c').mpr hc)
  rw [pe c, pe c'] at this
  exact this
theorem hPay_c {f f' c : Nat → Int} (h : ∀ j : Nat, j < 20 → f j = f' j) : hPay f c = hPay f' c := by
  unfold hPay
  rw [h 16 (by decide), h 17 (by decide), h 18 (by decide), h 19 (by decide)]
theorem or_g : ∀ r : Nat, r < 4 → ∀ g : Nat, g < 2 ^ r → (Int32.ofNat g ||| ((1 : Int32) <<< (Int32.ofNat r &&& 31))) = Int32.ofNat (g + 2 ^ r) := by decide
theorem ofN16 : ∀ g : Nat, g < 17 → (Int32.ofNat g).toInt = g := by decide
section HIREC3
variable {S : aS} {L d dr tl : Nat} {I I0 I1 : Nat → Nat → Int32} {J : Nat → Nat → Int64} {a1 a2 a3 a4 a5 x : Int32} {r q p m : Nat} {l : Int} {f k c c' : Nat → Int} {F X T P : Int} {Q : Option Value → xMem → Prop}
theorem askF_b (hw : WF S) : ∀ m : Nat, (∀ i : Nat, i < m → isP S l ((p + i : Nat) : Int)) → ∀ g : Nat, 0 ≤ askF S l p m g ∧ askF S l p m g ≤ 99 := by
  intro m
  induction m with
  | zero => intro _ g; show (0 : Int) ≤ 0 ∧ (0 : Int) ≤ 99; omega
  | succ m ih =>
    intro h g
    have h1 := ih (fun i hi => h i (by omega))
    have h2 := sign_b hw (h m (by omega))
    show 0 ≤ updF (askF S l p m) (lookG S (p + m) 4) _ g ∧ updF (askF S l p m) (lookG S (p + m) 4) _ g ≤ 99
    by_cases e : g = lookG S (p + m) 4
    · rw [e, updF_s]
      have := h1 (lookG S (p + m) 4)
      omega
    · rw [updF_n e]; exact h1 g
theorem look_loop (hc : CB S tl I) (e1 : a1.toInt = p) (hp : p < 64) : ∀ (m k : Nat), k + m = 4 → PI ((d + 3), 31, 4, [some (.ref 62), some (.int a1), some (.int (Int32.ofNat (lookG S p k))), some (.int (Int32.ofNat k))], [], (xSH L dr tl, I, J)) (lookG S p 4 : Nat) (xSH L dr tl, I, J) := by
  intro m
  induction m with
  | zero =>
    intro k hk
    have e : k = 4 := by omega
    subst e
    have := lookG_lt (S := S) (p := p) 4
    refine w31_4 hc.2.1 (sk (by decide) ⟨_, rfl, ofN16 _ (by omega), rfl⟩)
  | succ m ih =>
    intro k hk
    have lg := lookG_lt (S := S) (p := p) k
    have p2 : (2 : Nat) ^ k ≤ 8 := by
      have : k = 0 ∨ k = 1 ∨ k = 2 ∨ k = 3 := by omega
      rcases this with rfl | rfl | rfl | rfl <;> decide
    have ek : (Int32.ofNat k).toInt = k := ofN16 k (by omega)
    have i1 : Int32.ofNat k + 1 = Int32.ofNat (k + 1) := eq_ti.mpr (by rw [add1 (by omega) (by omega), ek, ofN16 (k + 1) (by omega)]; rfl)
    have es : lookG S p (k + 1) = lookG S p k + (if lkB S p k = true then 2 ^ k else 0) := rfl
    refine w31_4 hc.2.1 (hit (lt_ti.mpr (by rw [ek]; show (k : Int) < 4; omega)) ((s_told hc.2.1).v ((s_looksAt hc.1 hc.2.1 hc.2.2.1 (by omega) (by omega)).u (fun y => br1 ?_) (fun y => br0 ?_))))
    · rw [ek, e1] at y
      rw [i1, or_g k (by omega) _ lg]
      rw [if_pos (lkB_t.mpr y)] at es
      rw [← es]
      exact ih (k + 1) (by omega)
    · rw [ek, e1] at y
      rw [i1]
      have es' : lookG S p (k + 1) = lookG S p k := by rw [es, if_neg (fun z => y (lkB_t.mp z))]; exact Nat.add_zero _
      rw [← es']
      exact ih (k + 1) (by omega)
theorem s_lookersAt (hc : CB S tl I) (e1 : a1.toInt = p) (hp : p < 64) : PI ((d + 3), 31, 0, [some (.ref 62), some (.int a1), none, none], [], (xSH L dr tl, I, J)) (lookG S p 4 : Nat) (xSH L dr tl, I, J) := w31_0 (look_loop hc e1 hp 4 0 rfl)
theorem fillI_loop : ∀ (m k : Nat) (i : Int32) (I : Nat → Nat → Int32), k + m = 20 → i.toInt = k → (∀ a : Nat, a ≠ 63 → I a = I0 a) → (∀ q : Nat, q < k → I 63 q = 0) → (∀ I1 : Nat → Nat → Int32, (∀ a : Nat, a ≠ 63 → I1 a = I0 a) → (∀ q : Nat, q < 20 → I1 63 q = 0) → Q none (xSH L dr tl, I1, J)) → WP ((d + 1), 322, 5, [some (.ref 63), some (.int 0), some (.int i), some (.int (Int32.ofNat (clen 63)))], [], (xSH L dr tl, I, J)) Q := by
  have ec : (Int32.ofNat (clen 63)).toInt = 20 := by rfl
  have ec2 : clen 63 = 20 := rfl
  intro m
  induction m with
  | zero =>
    intro k i I hk hi h1 h2 K
    exact w322_5 (Or.inl rfl) (brz lt_ti (fun z => by rw [ec] at z; omega) (fun _ => K I h1 (fun q hq => h2 q (by omega))))
  | succ m ih =>
    intro k i I hk hi h1 h2 K
    have e1 : (i + 1).toInt = ((k + 1 : Nat) : Int) := by rw [add1 (by omega) (by omega), hi]; rfl
    have xi : xIx i = k := by rw [xIx_ti, hi]; exact Int.toNat_natCast _
    refine w322_5 (Or.inl rfl) (brz lt_ti (fun _ => ⟨by rw [xin_iff]; omega, ih (k + 1) _ _ (by omega) e1 (fun a ha => ?_) (fun q hq => ?_) K⟩) (fun z => by rw [ec] at z; omega))
    · rw [xwI_ne ha]; exact h1 a ha
    · rw [xi]
      by_cases e : q = k
      · rw [e, xg]
      · rw [xgn e]; exact h2 q (by omega)
theorem ask_pays (hc : CB S tl I0) : ∀ (m k : Nat) (i : Int32) (I : Nat → Nat → Int32), k + m = 4 → i.toInt = k → (∀ a : Nat, a ≠ 63 → I a = I0 a) → (∀ g : Nat, g < 16 → (I 63 g).toInt = f g) → (∀ r : Nat, r < k → (I 63 (16 + r)).toInt = if (r : Int) < sNR S then S 8 r else 0) → (∀ I1 : Nat → Nat → Int32, (∀ a : Nat, a ≠ 63 → I1 a = I0 a) → (∀ g : Nat, g < 16 → (I1 63 g).toInt = f g) → (∀ r : Nat, r < 4 → (I1 63 (16 + r)).toInt = if (r : Int) < sNR S then S 8 r else 0) → Q none (xSH L dr tl, I1, J)) → WP ((d + 3), 30, 61, [some (.ref 62), none, none, none, some (.int i), none], [], (xSH L dr tl, I, J)) Q := by
  intro m
  induction m with
  | zero =>
    intro k i I hk hi h1 h2 h3 K
    exact w30_61 hc.2.1 (brz lt4 (fun z => by omega) (fun _ => K I h1 h2 (fun r hr => h3 r (by omega))))
  | succ m ih =>
    intro k i I hk hi h1 h2 h3 K
    have hc' : CB S tl I := by
      obtain ⟨c1, c2, c3, c4⟩ := hc
      have t1 : tl = 8 ∨ tl = 31 := c2
      refine ⟨c1, c2, ?_, ?_⟩
      · unfold CIb at *
        rw [h1 tl (by omega), h1 (tl + 1) (by omega), h1 (tl + 2) (by omega), h1 (tl + 3) (by omega), h1 (tl + 4) (by omega), h1 (tl + 6) (by omega), h1 (tl + 7) (by omega), h1 (tl + 8) (by omega), h1 (tl + 9) (by omega), h1 (tl + 10) (by omega), h1 (tl + 11) (by omega), h1 (tl + 12) (by omega), h1 (tl + 13) (by omega), h1 (tl + 14) (by omega), h1 (tl + 15) (by omega), h1 (tl + 17) (by omega), h1 (tl + 19) (by omega), h1 (tl + 20) (by omega), h1 (tl + 21) (by omega)]
        exact c3
      · unfold CIw at *
        rw [h1 30 (by decide), h1 55 (by decide), h1 56 (by decide), h1 57 (by decide), h1 58 (by decide), h1 60 (by decide), h1 61 (by decide)]
        exact c4
    have e1 : (i + 1).toInt = ((k + 1 : Nat) : Int) := by rw [add1 (by omega) (by omega), hi]; rfl
    have e16 : (16 + i).toInt = ((16 + k : Nat) : Int) := by rw [addn (by decide) (by decide) (by omega) (by omega)]; show 16 + i.toInt = _; omega
    have x16 : xIx (16 + i) = 16 + k := by rw [xIx_ti, e16]; exact Int.toNat_natCast _
    refine w30_61 hc.2.1 (brz lt4 (fun _ => (s_told hc.2.1).v ((s_payOf hc'.1 hc'.2.1 hc'.2.2.1).u fun r3 g3 => ⟨by rw [xin_iff, e16]; omega, ih (k + 1) _ _ (by omega) e1 (fun a ha => by rw [xwI_ne ha]; exact h1 a ha) (fun g hg => ?_) (fun r hr => ?_) K⟩)) (fun z => by omega))
    · rw [x16, xgn (by omega)]; exact h2 g hg
    · rw [x16]
      by_cases e : r = k
      · rw [e, xg, g3, hi]
        by_cases z : (k : Int) < sNR S
        · rw [if_pos z, if_pos ⟨by omega, z⟩, Int.toNat_natCast]
        · rw [if_neg z, if_neg (fun y => z y.2)]
      · rw [xgn (by omega)]; exact h3 r (by omega)
theorem ask_places (hc : CB S tl I0) (h2 : 0 ≤ a2.toInt) (h3 : a3.toInt < plc S a1.toInt) {n : Nat} (hn : (n : Int) = a3.toInt - a2.toInt + 1) (K : ∀ I1 : Nat → Nat → Int32, (∀ a : Nat, a ≠ 63 → I1 a = I0 a) → (∀ j : Nat, j < 20 → fI I1 j = fullF S a1.toInt a2.toInt.toNat n j) → Q none (xSH L dr tl, I1, J)) : ∀ (m k : Nat) (i : Int32) (I : Nat → Nat → Int32), k + m = n → i.toInt = a2.toInt + k → (∀ a : Nat, a ≠ 63 → I a = I0 a) → (∀ g : Nat, g < 16 → (I 63 g).toInt = askF S a1.toInt a2.toInt.toNat k g) → WP ((d + 4), 30, 11, [some (.ref 62), some (.int a1), none, some (.int a3), some (.int i), none], [], (xSH L dr tl, I, J)) Q := by
  have pb := plc_le hc.1 a1.toInt
  have cbk : ∀ I : Nat → Nat → Int32, (∀ a : Nat, a ≠ 63 → I a = I0 a) → CB S tl I := by
    intro I h1
    obtain ⟨c1, c2, c3, c4⟩ := hc
    have t1 : tl = 8 ∨ tl = 31 := c2
    refine ⟨c1, c2, ?_, ?_⟩
    · unfold CIb at *
      rw [h1 tl (by omega), h1 (tl + 1) (by omega), h1 (tl + 2) (by omega), h1 (tl + 3) (by omega), h1 (tl + 4) (by omega), h1 (tl + 6) (by omega), h1 (tl + 7) (by omega), h1 (tl + 8) (by omega), h1 (tl + 9) (by omega), h1 (tl + 10) (by omega), h1 (tl + 11) (by omega), h1 (tl + 12) (by omega), h1 (tl + 13) (by omega), h1 (tl + 14) (by omega), h1 (tl + 15) (by omega), h1 (tl + 17) (by omega), h1 (tl + 19) (by omega), h1 (tl + 20) (by omega), h1 (tl + 21) (by omega)]
      exact c3
    · unfold CIw at *
      rw [h1 30 (by decide), h1 55 (by decide), h1 56 (by decide), h1 57 (by decide), h1 58 (by decide), h1 60 (by decide), h1 61 (by decide)]
      exact c4
  intro m
  induction m with
  | zero =>
    intro k i I hk hi h1 hI
    have hk' : k = n := by omega
    subst hk'
    refine w30_11 (brz lt_ti (fun _ => ask_pays (d := d + 1) (S := S) hc 4 0 0 I rfl rfl h1 hI (fun r hr => by omega) fun I1 y1 y2 y3 => K I1 y1 (fun j hj => ?_)) (fun z => by omega))
    unfold fullF fI
    by_cases e : j < 16
    · rw [if_pos e]; exact y2 j e
    · rw [if_neg e]
      have := y3 (j - 16) (by omega)
      rw [show 16 + (j - 16) = j by omega] at this
      exact this
  | succ m ih =>
    intro k i I hk hi h1 hI
    have hc' := cbk I h1
    have i1 : (i + 1).toInt = a2.toInt + ((k + 1 : Nat) : Int) := by rw [add1 (by omega) (by omega), hi]; omega
    have ei : i.toInt = ((a2.toInt.toNat + k : Nat) : Int) := by omega
    have hP : isP S a1.toInt i.toInt := plc_isP.mpr ⟨by omega, by omega⟩
    have lg := lookG_lt (S := S) (p := a2.toInt.toNat + k) 4
    refine w30_11 (brz lt_ti (fun z => by omega) (fun _ => (s_lookersAt hc' ei (by omega)).u fun r2 g2 => ⟨by rw [xin_iff, g2]; omega, (s_eyesAt hc').u fun r3 g3 => s_max.u fun r4 g4 => ⟨by rw [xin_iff, g2]; omega, ih (k + 1) _ _ (by omega) i1 (fun a ha => by rw [xwI_ne ha]; exact h1 a ha) (fun g hg => ?_)⟩⟩))
    have x2 : xIx r2 = lookG S (a2.toInt.toNat + k) 4 := by rw [xIx_ti, g2]; exact Int.toNat_natCast _
    rw [if_pos hP, ei] at g3
    rw [x2]
    rw [x2, hI _ (by omega), g3] at g4
    show _ = updF (askF S a1.toInt a2.toInt.toNat k) (lookG S (a2.toInt.toNat + k) 4) _ g
    by_cases e : g = lookG S (a2.toInt.toNat + k) 4
    · rw [e, xg, updF_s]; exact g4
    · rw [xgn e, updF_n e]; exact hI g hg
theorem solved_loop : ∀ (m k : Nat) (i : Int32), k + m = 20 → i.toInt = k → (∀ j : Nat, j < k → I 63 j = I 64 j) → PB ((d + 1), 32, 2, [some (.ref 62), some (.int i)], [], (xSH L dr tl, I, J)) (∀ j : Nat, j < 20 → I 63 j = I 64 j) (xSH L dr tl, I, J) := by
  have lt20 : ∀ {a : Int32}, a < 20 ↔ a.toInt < 20 := fun {a} => lt_ti
  intro m
  induction m with
  | zero =>
    intro k i hk hi h
    exact w32_2 (brz lt20 (fun z => by omega) (fun _ => ⟨1, rfl, Or.inl ⟨rfl, fun j hj => h j (by omega)⟩, rfl⟩))
  | succ m ih =>
    intro k i hk hi h
    have i1 : (i + 1).toInt = ((k + 1 : Nat) : Int) := by rw [add1 (by omega) (by omega), hi]; rfl
    have xi : xIx i = k := by rw [xIx_ti, hi]; exact Int.toNat_natCast _
    have hx : xin i 20 = true := by rw [xin_iff, hi]; omega
    refine w32_2 (brz lt20 (fun _ => ⟨hx, hx, ?_⟩) (fun z => by omega))
    rw [xi]
    refine ⟨fun y => ih (k + 1) _ (by omega) i1 (fun j hj => ?_), fun y => ⟨0, rfl, Or.inr ⟨rfl, fun z => y (z k (by omega))⟩, rfl⟩⟩
    by_cases e : j = k
    · rw [e]; exact y
    · exact h j (by omega)
theorem CInv.hir (q : CInv S dr tl I J) (h : ∀ a : Nat, a < 62 ∨ 66 < a → I1 a = I a) (hh : HC I1) : CInv S dr tl I1 J := by
  obtain ⟨g1, g2, g3, g4, g5, g6, g7, g8, g9, g10, g11, g12⟩ := q
  refine ⟨g1, g2, g3, ?_, ?_, ?_, ?_, ?_, ?_, ?_, g11, hh⟩
  · unfold CIo at *
    rw [h (8 + 1) (by decide), h (8 + 4) (by decide), h (8 + 7) (by decide), h (8 + 10) (by decide), h (31 + 1) (by decide), h (31 + 4) (by decide), h (31 + 7) (by decide), h (31 + 10) (by decide), h 23 (by decide), h 46 (by decide)]
    exact g4
  · unfold CIb at *
    rw [h tl (by omega), h (tl + 1) (by omega), h (tl + 2) (by omega), h (tl + 3) (by omega), h (tl + 4) (by omega), h (tl + 6) (by omega), h (tl + 7) (by omega), h (tl + 8) (by omega), h (tl + 9) (by omega), h (tl + 10) (by omega), h (tl + 11) (by omega), h (tl + 12) (by omega), h (tl + 13) (by omega), h (tl + 14) (by omega), h (tl + 15) (by omega), h (tl + 17) (by omega), h (tl + 19) (by omega), h (tl + 20) (by omega), h (tl + 21) (by omega)]
    exact g5
  · unfold CIw at *; rw [h 30 (by decide), h 55 (by decide), h 56 (by decide), h 57 (by decide), h 58 (by decide), h 60 (by decide), h 61 (by decide)]; exact g6
  · unfold CIc at *; rw [h 53 (by decide), h 54 (by decide)]; exact g7
  · unfold CIt at *; rw [h 3 (by decide), h 4 (by decide)]; exact g8
  · unfold CIp at *; rw [h 5 (by decide), h 6 (by decide)]; exact g9
  · unfold CIf at *; rw [h 7 (by decide)]; exact g10
theorem cp64 {j : Nat} (h : j < 20) : xcpI I 63 0 64 0 20 64 j = I 63 j := by
  unfold xcpI va_cpy
  rw [beqT 64]
  show (if 0 ≤ j ∧ j < 0 + 20 then I 63 (0 + (j - 0)) else I 64 j) = I 63 j
  rw [if_pos ⟨by omega, by omega⟩, show 0 + (j - 0) = j by omega]
theorem cpo {a : Nat} (h : a ≠ 64) : xcpI I 63 0 64 0 20 a = I a := by
  funext j
  unfold xcpI
  rw [beqF h]; rfl
theorem s_solve {R : (Nat → Nat → Int32) → (Nat → Nat → Int64) → Prop} (ha : askOK (fI I)) (K : ∀ I1 : Nat → Nat → Int32, (∀ a : Nat, a < 62 ∨ 66 < a → I1 a = I a) → hBest (fI I) (kI I1) → (I1 62 5).toInt = hTot (kI I1) → (I1 62 6).toInt = hPay (fI I) (kI I1) → (∀ j : Nat, j < 20 → I1 64 j = I 63 j) → R I1 J) : WP ((d + 5), 33, 0, [some (.ref 62), none, none, none], [], (xSH L dr tl, I, J)) (fun v M => ∃ (I2 : Nat → Nat → Int32) (J2 : Nat → Nat → Int64), v = none ∧ M = (xSH L dr tl, I2, J2) ∧ R I2 J2) := by
  have b := ha.b
  have f63 : ∀ j : Nat, (xwI (xwI (xcpI I 63 0 64 0 20) 62 5 2147483647) 62 6 2147483647) 63 j = I 63 j := fun j => by rw [xwI_ne (by decide), xwI_ne (by decide), cpo (by decide)]
  refine w33_0 (PI.u (w34_0 (Or.inl rfl) (most_loop (Or.inl rfl) (N := 8) (g := fun j => fI I (2 * j + 1)) (Or.inr rfl) (by decide) (by decide) rfl (fun j hj => by rw [f63]; rfl) 8 0 0 1 rfl rfl rfl)) fun r1 g1 => ?_)
  have mx := maxI_le (g := fun j => fI I (2 * j + 1)) 8
  have mu := maxI_ub (g := fun j => fI I (2 * j + 1)) (B := 99) (by decide) 8 (fun j hj => (ha.2.1 (2 * j + 1) (by omega)).2)
  rw [f63]
  have f1 : (I 63 1).toInt = fI I 1 := rfl
  refine first_loop (f := fI I) ha g1 ⟨mx.1, mu⟩ (fun j hj => mx.2 j hj) 300 (I 63 1) _ (by omega) (by omega) (by omega) (by omega) (fun j hj => by unfold fI; rw [f63]) ⟨fun c' hc hd => ?_, Or.inl ⟨nv_ti, nv_ti⟩⟩ fun I1 fr1 z1 z2 z3 => ⟨I1, J, rfl, rfl, K I1 (fun a ha' => ?_) z1 z2 z3 (fun j hj => ?_)⟩
  · exfalso
    have := hF16.mp hc
    unfold befC at hd
    omega
  · rw [fr1.1 a (by omega) (by omega) (by omega), xwI_ne (by omega), xwI_ne (by omega), cpo (by omega)]
  · rw [fr1.1 64 (by decide) (by decide) (by decide), xwI_ne (by decide), xwI_ne (by decide), cp64 hj]
theorem full_ok (hw : WF S) {n : Nat} (hP : ∀ i : Nat, i < n → isP S l ((p + i : Nat) : Int)) (h0 : ¬ 0 < fullF S l p n 0) : askOK (fullF S l p n) := by
  have b := askF_b hw n hP
  have hN := hw.2.2.2.1
  refine ⟨?_, fun g hg => ?_, fun r hr => ?_⟩
  · have e : fullF S l p n 0 = askF S l p n 0 := if_pos (by decide)
    have := b 0
    omega
  · have e : fullF S l p n g = askF S l p n g := if_pos hg
    rw [e]; exact b g
  · unfold fullF
    rw [if_neg (by omega), show 16 + r - 16 = r by omega]
    split
    · rename_i z
      have := hN.2.2 r z
      omega
    · omega
theorem s_plan {R : Int32 → (Nat → Nat → Int32) → (Nat → Nat → Int64) → Prop} (q : CInv S dr tl I J) (h2 : isP S a1.toInt a2.toInt) (h3 : isP S a1.toInt a3.toInt) (le : a2.toInt ≤ a3.toInt) (K0 : 0 < fullF S a1.toInt a2.toInt.toNat (a3.toInt - a2.toInt + 1).toNat 0 → ∀ I1 : Nat → Nat → Int32, keepM I I1 J J → CInv S dr tl I1 J → R 0 I1 J) (K1 : ¬ 0 < fullF S a1.toInt a2.toInt.toNat (a3.toInt - a2.toInt + 1).toNat 0 → ∀ I1 : Nat → Nat → Int32, keepM I I1 J J → CInv S dr tl I1 J → hBest (fullF S a1.toInt a2.toInt.toNat (a3.toInt - a2.toInt + 1).toNat) (kI I1) → (I1 62 5).toInt = hTot (kI I1) → (I1 62 6).toInt = hPay (fullF S a1.toInt a2.toInt.toNat (a3.toInt - a2.toInt + 1).toNat) (kI I1) → R 1 I1 J) : WP ((d + 6), 29, 0, [some (.ref 62), some (.int a1), some (.int a2), some (.int a3)], [], (xSH L dr tl, I, J)) (fun v M => ∃ (r : Int32) (I2 : Nat → Nat → Int32) (J2 : Nat → Nat → Int64), v = some (.int r) ∧ M = (xSH L dr tl, I2, J2) ∧ R r I2 J2) := by
  have hc := q.cb
  have z2 := plc_isP.mp h2
  have z3 := plc_isP.mp h3
  have pb := plc_le hc.1 a1.toInt
  have cb63 : ∀ I1 : Nat → Nat → Int32, (∀ a : Nat, a ≠ 63 → I1 a = I a) → CB S tl I1 := by
    intro I1 h1
    obtain ⟨c1, c2, c3, c4⟩ := hc
    have t1 : tl = 8 ∨ tl = 31 := c2
    refine ⟨c1, c2, ?_, ?_⟩
    · unfold CIb at *
      rw [h1 tl (by omega), h1 (tl + 1) (by omega), h1 (tl + 2) (by omega), h1 (tl + 3) (by omega), h1 (tl + 4) (by omega), h1 (tl + 6) (by omega), h1 (tl + 7) (by omega), h1 (tl + 8) (by omega), h1 (tl + 9) (by omega), h1 (tl + 10) (by omega), h1 (tl + 11) (by omega), h1 (tl + 12) (by omega), h1 (tl + 13) (by omega), h1 (tl + 14) (by omega), h1 (tl + 15) (by omega), h1 (tl + 17) (by omega), h1 (tl + 19) (by omega), h1 (tl + 20) (by omega), h1 (tl + 21) (by omega)]
      exact c3
    · unfold CIw at *
      rw [h1 30 (by decide), h1 55 (by decide), h1 56 (by decide), h1 57 (by decide), h1 58 (by decide), h1 60 (by decide), h1 61 (by decide)]
      exact c4
  refine w29_0 (w30_0 (w322_0 (Or.inl rfl) (fillI_loop (I0 := I) 20 0 0 I rfl rfl (fun _ _ => rfl) (fun q hq => by omega) fun I1 h1 hz => ⟨I1, J, rfl, rfl, ?_⟩)))
  refine ask_places (S := S) (I0 := I1) (n := (a3.toInt - a2.toInt + 1).toNat) (cb63 I1 h1) z2.1 z3.2 (by omega) (fun I2 y1 y2 => ⟨I2, J, rfl, rfl, ?_⟩) (a3.toInt - a2.toInt + 1).toNat 0 a2 I1 (by omega) (by omega) (fun _ _ => rfl) (fun g hg => by rw [hz g (by omega)]; rfl)
  have hI : ∀ a : Nat, a ≠ 63 → I2 a = I a := fun a ha => (y1 a ha).trans (h1 a ha)
  have e0 : (I2 63 0).toInt = fullF S a1.toInt a2.toInt.toNat (a3.toInt - a2.toInt + 1).toNat 0 := y2 0 (by decide)
  have km : keepM I I2 J J := fun a ha => ⟨hI a (by omega), rfl⟩
  have hcI := q.2.2.2.2.2.2.2.2.2.2.2
  have hcI2 : HC I2 := by unfold HC at *; rw [hI 64 (by decide), hI 66 (by decide), hI 62 (by decide)]; exact hcI
  have q2 : CInv S dr tl I2 J := q.hir (fun a ha => hI a (by omega)) hcI2
  refine brz gt0 (fun y => ⟨0, I2, J, rfl, rfl, K0 (by omega) I2 km q2⟩) (fun y => ?_)
  have n0 : ¬ 0 < fullF S a1.toInt a2.toInt.toNat (a3.toInt - a2.toInt + 1).toNat 0 := by omega
  have ok := full_ok (l := a1.toInt) (p := a2.toInt.toNat) (n := (a3.toInt - a2.toInt + 1).toNat) hc.1 (fun i hi => plc_isP.mpr ⟨by omega, by omega⟩) n0
  refine PB.u (w32_0 (solved_loop 20 0 0 rfl rfl (fun j hj => by omega))) (fun sv => br1 ⟨1, I2, J, rfl, rfl, ?_⟩) (fun sv => br0 ?_)
  · have fe : ∀ j : Nat, j < 20 → (fun j => (I2 64 j).toInt) j = fullF S a1.toInt a2.toInt.toNat (a3.toInt - a2.toInt + 1).toNat j := fun j hj => by
      show (I2 64 j).toInt = _
      rw [← sv j hj]; exact y2 j hj
    rcases hcI2 with z | ⟨z1, z4, z5⟩
    · have := fe 0 (by decide)
      have o0 := ok.1
      have : (I2 64 0).toInt = _ := this
      omega
    · refine K1 n0 I2 km q2 (hBest_c fe z1) z4 ?_
      rw [← hPay_c fe]; exact z5
  · have okI : askOK (fI I2) := by
      obtain ⟨o1, o2, o3⟩ := ok
      exact ⟨(y2 0 (by decide)).trans o1, fun g hg => by rw [y2 g (by omega)]; exact o2 g hg, fun r hr => by rw [y2 (16 + r) (by omega)]; exact o3 r hr⟩
    refine s_solve okI fun I3 w1 w2 w3 w4 w5 => ⟨1, I3, J, rfl, rfl, ?_⟩
    have fe : ∀ j : Nat, j < 20 → fI I2 j = fullF S a1.toInt a2.toInt.toNat (a3.toInt - a2.toInt + 1).toNat j := y2
    have fe2 : ∀ j : Nat, j < 20 → fI I2 j = (fun j => (I3 64 j).toInt) j := fun j hj => by show (I2 63 j).toInt = (I3 64 j).toInt; rw [w5 j hj]
    have hc3 : HC I3 := Or.inr ⟨hBest_c fe2 w2, w3, by rw [w4]; exact hPay_c fe2⟩
    exact K1 n0 I3 (km.tr fun a ha => ⟨w1 a (by omega), rfl⟩) (q2.hir w1 hc3) (hBest_c fe w2) w3 (by rw [w4]; exact hPay_c fe)
end HIREC3
