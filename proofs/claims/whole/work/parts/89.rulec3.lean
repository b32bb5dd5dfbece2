/-! ===== the class's rules: the eyes of a sign ===== -/
def tstV (S : aS) (g : Nat → Int) (u : Nat) : Int := (evR g (S 14) (S 13 (2 * u + 1)).toNat (S 13 (2 * u + 2) - S 13 (2 * u + 1)).toNat []).headD 0
def sumV (S : aS) (g : Nat → Int) (u : Nat) : Int := (evR g (S 14) (S 13 (2 * u)).toNat (S 13 (2 * u + 1) - S 13 (2 * u)).toNat []).headD 0
/-- the eyes by the first rule whose test holds, else the ink's -/
def eyF (S : aS) (g : Nat → Int) (nd : Int) : Nat → Nat → Int
  | 0, _ => nd
  | m + 1, u => if tstV S g u = 0 then eyF S g nd m (u + 1) else max 0 (min 99 (sumV S g u))
theorem eyF_n {S : aS} {g : Nat → Int} {nd : Int} {m u : Nat} (h : tstV S g u = 0) : eyF S g nd (m + 1) u = eyF S g nd m (u + 1) := if_pos h
theorem eyF_y {S : aS} {g : Nat → Int} {nd : Int} {m u : Nat} (h : ¬ tstV S g u = 0) : eyF S g nd (m + 1) u = max 0 (min 99 (sumV S g u)) := if_neg h
theorem eyF_b {S : aS} {g : Nat → Int} {nd : Int} (h : 0 ≤ nd ∧ nd ≤ 99) : ∀ m u : Nat, 0 ≤ eyF S g nd m u ∧ eyF S g nd m u ≤ 99 := by
  intro m
  induction m with
  | zero => intro u; exact h
  | succ m ih =>
    intro u
    by_cases z : tstV S g u = 0
    · rw [eyF_n z]; exact ih _
    · rw [eyF_y z]; omega
theorem RW_le {S : aS} (h : RW S) (u : Nat) : ∀ n : Nat, ((u + n : Nat) : Int) ≤ sNU S → S 13 (2 * u) ≤ S 13 (2 * (u + n)) := by
  intro n
  induction n with
  | zero => intro _; exact Int.le_refl _
  | succ n ih =>
    intro hn
    have h1 := ih (by omega)
    have h2 := h.2 (u + n) (by omega)
    rw [show 2 * (u + (n + 1)) = 2 * (u + n) + 2 by omega]
    omega
theorem RW_hi {S : aS} (h : RW S) {u : Nat} (hu : (u : Int) < sNU S) : S 13 (2 * u + 2) ≤ S 13 (2 * sNU S).toNat := by
  have h1 := RW_le h (u + 1) (sNU S - u - 1).toNat (by omega)
  rw [show 2 * (u + 1) = 2 * u + 2 by omega, show 2 * (u + 1 + (sNU S - u - 1).toNat) = (2 * sNU S).toNat by omega] at h1
  exact h1
section RULEC3
variable {S : aS} {L d dr tl r : Nat} {I : Nat → Nat → Int32} {J : Nat → Nat → Int64} {a0 a1 a2 a3 a4 : Int32} {g : Nat → Int} {Q : Option Value → xMem → Prop}
theorem value_loop {j : Nat} {b : Bool} (hr : r = 21 ∨ r = 44) (hj : (j : Int) < 2 * sNU S) (hN : sNU S ≤ 8) (hhi : S 13 (j + 1) ≤ S 13 (2 * sNU S).toNat) (h16 : S 13 (j + 1) ≤ 1600) (ej : a1.toInt = j) (hg : ∀ k : Nat, k < 4 → mill (g k)) : ∀ (m k : Nat) (i : Int32) (I : Nat → Nat → Int32) (ts : List Bool) (st : List Int), tyRun (S 14) k m ts = some [b] → i.toInt = k → ((k + m : Nat) : Int) = S 13 (j + 1) → okS ts st → st.length ≤ 64 → CS r I st → RuC S r I → GivC g r I → (∀ (x : Int32) (I1 : Nat → Nat → Int32), evR g (S 14) k m st = [x.toInt] → fr r I I1 → Q (some (.int x)) (xSH L dr tl, I1, J)) → WP ((d + 4), 97, 26, [some (.ref r), some (.int a1), some (.int i)], [], (xSH L dr tl, I, J)) Q := by
  have e1 : (a1 + 1).toInt = ((j + 1 : Nat) : Int) := by rw [add1 (by omega) (by omega), ej]; rfl
  have x1 : xIx (a1 + 1) = j + 1 := by rw [xIx_ti, e1]; exact Int.toNat_natCast _
  have i1 : xin (a1 + 1) 17 = true := by rw [xin_iff, e1]; omega
  intro m
  induction m with
  | zero =>
    intro k i I ts st ht hi hk hs hl hc hR hG K
    have hts : ts = [b] := by rw [tyRun] at ht; exact Option.some.inj ht
    subst hts
    obtain ⟨v, w, rfl, k1, k2⟩ := okS_c hs
    have hw : w = [] := by
      cases w with
      | nil => rfl
      | cons _ _ => exact absurd k2 id
    subst hw
    refine w97_26 hr ⟨i1, brz lt_ti (fun z => ?_) (fun _ => s_pop hr hc (by decide) fun x I1 e f c => K x I1 ?_ f)⟩
    · rw [x1, hR.2.1 (j + 1) (by omega)] at z; omega
    · rw [evR, e]
  | succ m ih =>
    intro k i I ts st ht hi hk hs hl hc hR hG K
    have ei : (i + 1).toInt = ((k + 1 : Nat) : Int) := by rw [add1 (by omega) (by omega), hi]; rfl
    have xi : xIx i = k := by rw [xIx_ti, hi]; exact Int.toNat_natCast _
    rw [tyRun] at ht
    split at ht
    · exact absurd ht (by simp)
    · rename_i ts' et
      split at ht
      · rename_i hl'
        have hs' := ev_ok hg et hs
        refine w97_26 hr ⟨i1, brz lt_ti (fun _ => ⟨by rw [xin_iff, hi]; omega, ?_⟩) (fun z => ?_)⟩
        · refine s_take hr hG et hl' hs hl hc (by rw [xi]; exact hR.2.2 k (by omega)) fun I1 f1 c1 => ih (k + 1) _ I1 ts' _ ht ei (by omega) hs' (by rw [okS_len hs']; exact hl') c1 (f1.ru hR) (f1.gi hG) fun x I2 e2 f2 => K x I2 ?_ (f1.tr f2)
          rw [evR]; exact e2
        · rw [x1, hR.2.1 (j + 1) (by omega)] at z; omega
      · exact absurd ht (by simp)
theorem s_value {j : Nat} {b : Bool} (hr : r = 21 ∨ r = 44) (hj : (j : Int) < 2 * sNU S) (hN : sNU S ≤ 8) (h0 : 0 ≤ S 13 j) (hlo : S 13 j ≤ S 13 (j + 1)) (hhi : S 13 (j + 1) ≤ S 13 (2 * sNU S).toNat) (h16 : S 13 (j + 1) ≤ 1600) (ej : a1.toInt = j) (hg : ∀ k : Nat, k < 4 → mill (g k)) (ht : tyRun (S 14) (S 13 j).toNat (S 13 (j + 1) - S 13 j).toNat [] = some [b]) (hR : RuC S r I) (hG : GivC g r I) (K : ∀ (x : Int32) (I1 : Nat → Nat → Int32), evR g (S 14) (S 13 j).toNat (S 13 (j + 1) - S 13 j).toNat [] = [x.toInt] → fr r I I1 → Q (some (.int x)) (xSH L dr tl, I1, J)) : WP ((d + 4), 97, 0, [some (.ref r), some (.int a1), none], [], (xSH L dr tl, I, J)) Q := by
  have x1 : xIx a1 = j := by rw [xIx_ti, ej]; exact Int.toNat_natCast _
  have f0 : fr r I (xwI I r 5 0) := ⟨fun a h1 h2 => xwI_ne h1, fun k hk => xgn hk⟩
  refine w97_0 hr (brz lt0 (fun z => by omega) (fun _ => brz lt_ti (fun _ => ⟨by rw [xin_iff, ej]; omega, ?_⟩) (fun z => absurd (by rw [hR.1]; omega) z)))
  refine value_loop hr hj hN hhi h16 ej hg _ _ _ _ [] [] ht ?_ (by omega) trivial (by decide) ⟨?_, trivial⟩ (f0.ru hR) (f0.gi hG) (fun x I1 e f => K x I1 e (f0.tr f))
  · rw [x1, (f0.ru hR).2.1 j (by omega)]; omega
  · rw [xg]; rfl
theorem s_ruleN (hr : r = 21 ∨ r = 44) (hN : 0 ≤ sNU S) (hR : RuC S r I) : PI ((d + 1), 89, 0, [some (.ref r)], [], (xSH L dr tl, I, J)) (sNU S) (xSH L dr tl, I, J) := by
  refine w89_0 hr ⟨_, rfl, ?_, rfl⟩
  rw [div_ti (by rw [hR.1]; omega) (by decide), hR.1]
  show 2 * sNU S / 2 = _
  omega
theorem eyes_loop (hr : r = 21 ∨ r = 44) (hRW : RW S) (hN : 0 ≤ sNU S ∧ sNU S ≤ 8) (hg : ∀ k : Nat, k < 4 → mill (g k)) : ∀ (m u : Nat) (i : Int32) (I : Nat → Nat → Int32), ((u + m : Nat) : Int) = sNU S → i.toInt = u → RuC S r I → GivC g r I → (∀ (x : Int32) (I1 : Nat → Nat → Int32), x.toInt = eyF S g a4.toInt m u → fr r I I1 → Q (some (.int x)) (xSH L dr tl, I1, J)) → WP ((d + 5), 96, 24, [some (.ref r), none, none, none, some (.int a4), some (.int i)], [], (xSH L dr tl, I, J)) Q := by
  intro m
  induction m with
  | zero =>
    intro u i I hu hi hR hG K
    exact w96_24 hr ((s_ruleN hr hN.1 hR).u fun n hn => brz lt_ti (fun z => by omega) (fun _ => K a4 I rfl fr_refl))
  | succ m ih =>
    intro u i I hu hi hR hG K
    obtain ⟨r0, r1, r2, r3, r4, r5⟩ := hRW.2 u (by omega)
    have hh := RW_hi hRW (u := u) (by omega)
    have e2 : (2 * i).toInt = ((2 * u : Nat) : Int) := by rw [mul_ti (by show _ ≤ 2 * i.toInt; omega) (by show 2 * i.toInt < _; omega)]; show 2 * i.toInt = _; omega
    have e3 : (2 * i + 1).toInt = ((2 * u + 1 : Nat) : Int) := by rw [add1 (by omega) (by omega), e2]; rfl
    have e1 : (i + 1).toInt = ((u + 1 : Nat) : Int) := by rw [add1 (by omega) (by omega), hi]; rfl
    refine w96_24 hr ((s_ruleN hr hN.1 hR).u fun n hn => brz lt_ti (fun _ => s_value hr (j := 2 * u + 1) (by omega) hN.2 (by omega) r2 hh r3 e3 hg r5 hR hG fun x I1 ex f1 => ⟨x, I1, J, rfl, rfl, ?_⟩) (fun z => by omega))
    have et : tstV S g u = x.toInt := by unfold tstV; rw [ex]; rfl
    refine brz eq0 (fun z => ih (u + 1) _ I1 (by omega) e1 (f1.ru hR) (f1.gi hG) fun x2 I2 ex2 f2 => K x2 I2 ?_ (f1.tr f2)) (fun z => s_value hr (j := 2 * u) (by omega) hN.2 r0 r1 (by omega) (by omega) e2 hg r4 (f1.ru hR) (f1.gi hG) fun x2 I2 ex2 f2 => ⟨x2, I2, J, rfl, rfl, s_min.u fun x3 e3 => s_max.u fun x4 e4 => K x4 I2 ?_ (f1.tr f2)⟩)
    · rw [eyF_n (by rw [et]; exact z)]; exact ex2
    · have es : sumV S g u = x2.toInt := by unfold sumV; rw [ex2]; rfl
      rw [eyF_y (by rw [et]; exact z), es, e4, e3]; rfl
/-- the givens of a sign -/
def givS (pl lf lt nd : Int) : Nat → Int
  | 0 => pl
  | 1 => lf
  | 2 => lt
  | _ => nd
theorem CInv.scr {I1 : Nat → Nat → Int32} (q : CInv S dr tl I J) (h : ∀ a : Nat, a ≠ tl + 13 → a ≠ tl + 16 → I1 a = I a) (h4 : I1 (tl + 13) 4 = I (tl + 13) 4) : CInv S dr tl I1 J := by
  obtain ⟨g1, g2, g3, g4, g5, g6, g7, g8, g9, g10, g11, g12⟩ := q
  have ht : tl = 8 ∨ tl = 31 := by omega
  have e : ∀ a : Nat, a ≠ 21 → a ≠ 24 → a ≠ 44 → a ≠ 47 → I1 a = I a := fun a h1 h2 h3 h5 => h a (by omega) (by omega)
  refine ⟨g1, g2, g3, ?_, ?_, ?_, ?_, ?_, ?_, ?_, g11, ?_⟩
  · unfold CIo at *
    rw [e (8 + 1) (by decide) (by decide) (by decide) (by decide), e (8 + 4) (by decide) (by decide) (by decide) (by decide), e (8 + 7) (by decide) (by decide) (by decide) (by decide), e (8 + 10) (by decide) (by decide) (by decide) (by decide), e (31 + 1) (by decide) (by decide) (by decide) (by decide), e (31 + 4) (by decide) (by decide) (by decide) (by decide), e (31 + 7) (by decide) (by decide) (by decide) (by decide), e (31 + 10) (by decide) (by decide) (by decide) (by decide), e 23 (by decide) (by decide) (by decide) (by decide), e 46 (by decide) (by decide) (by decide) (by decide)]
    exact g4
  · unfold CIb at *
    rw [h4, h tl (by omega) (by omega), h (tl + 1) (by omega) (by omega), h (tl + 2) (by omega) (by omega), h (tl + 3) (by omega) (by omega), h (tl + 4) (by omega) (by omega), h (tl + 6) (by omega) (by omega), h (tl + 7) (by omega) (by omega), h (tl + 8) (by omega) (by omega), h (tl + 9) (by omega) (by omega), h (tl + 10) (by omega) (by omega), h (tl + 11) (by omega) (by omega), h (tl + 12) (by omega) (by omega), h (tl + 14) (by omega) (by omega), h (tl + 15) (by omega) (by omega), h (tl + 17) (by omega) (by omega), h (tl + 19) (by omega) (by omega), h (tl + 20) (by omega) (by omega), h (tl + 21) (by omega) (by omega)]
    exact g5
  · unfold CIw at *; rw [e 30 (by decide) (by decide) (by decide) (by decide), e 55 (by decide) (by decide) (by decide) (by decide), e 56 (by decide) (by decide) (by decide) (by decide), e 57 (by decide) (by decide) (by decide) (by decide), e 58 (by decide) (by decide) (by decide) (by decide), e 60 (by decide) (by decide) (by decide) (by decide), e 61 (by decide) (by decide) (by decide) (by decide)]; exact g6
  · unfold CIc at *; rw [e 53 (by decide) (by decide) (by decide) (by decide), e 54 (by decide) (by decide) (by decide) (by decide)]; exact g7
  · unfold CIt at *; rw [e 3 (by decide) (by decide) (by decide) (by decide), e 4 (by decide) (by decide) (by decide) (by decide)]; exact g8
  · unfold CIp at *; rw [e 5 (by decide) (by decide) (by decide) (by decide), e 6 (by decide) (by decide) (by decide) (by decide)]; exact g9
  · unfold CIf at *; rw [e 7 (by decide) (by decide) (by decide) (by decide)]; exact g10
  · unfold HC at *; rw [e 64 (by decide) (by decide) (by decide) (by decide), e 66 (by decide) (by decide) (by decide) (by decide), e 62 (by decide) (by decide) (by decide) (by decide)]; exact g12
/-- the eyes that a sign needs -/
def eyesV (S : aS) (lf pl lt nd : Int) : Int := eyF S (givS pl lf lt nd) nd (sNU S).toNat 0
theorem giv_m {pl lf lt nd : Int} (h1 : mill pl) (h2 : mill lf) (h3 : mill lt) (h4 : mill nd) : ∀ k : Nat, k < 4 → mill (givS pl lf lt nd k) := by
  intro k hk
  have : k = 0 ∨ k = 1 ∨ k = 2 ∨ k = 3 := by omega
  rcases this with rfl | rfl | rfl | rfl
  · exact h1
  · exact h2
  · exact h3
  · exact h4
theorem s_eyesFor {R : Int32 → (Nat → Nat → Int32) → (Nat → Nat → Int64) → Prop} (q : CInv S dr tl I J) (m1 : mill a1.toInt) (m2 : mill a2.toInt) (m3 : mill a3.toInt) (m4 : mill a4.toInt) (K : ∀ (x : Int32) (I1 : Nat → Nat → Int32), x.toInt = eyesV S a1.toInt a2.toInt a3.toInt a4.toInt → keepM I I1 J J → CInv S dr tl I1 J → R x I1 J) : WP ((d + 5), 96, 0, [some (.ref (tl + 13)), some (.int a1), some (.int a2), some (.int a3), some (.int a4), none], [], (xSH L dr tl, I, J)) (fun v M => ∃ (r1 : Int32) (I1 : Nat → Nat → Int32) (J1 : Nat → Nat → Int64), v = some (.int r1) ∧ M = (xSH L dr tl, I1, J1) ∧ R r1 I1 J1) := by
  have hN := q.1.2.2.2.2.2.2.2.2.2.2.2.2
  have hb := q.2.2.2.2.1.2.2.2.2.2
  have ht := q.cb.2.1
  have hr : tl + 13 = 21 ∨ tl + 13 = 44 := by omega
  refine w96_0 hr (eyes_loop (g := givS a2.toInt a1.toInt a3.toInt a4.toInt) hr q.2.1 hN (giv_m m2 m1 m3 m4) (sNU S).toNat 0 0 _ (by omega) rfl ⟨?_, ?_, ?_⟩ ⟨?_, ?_, ?_, ?_⟩ fun x I1 e f => ⟨x, I1, J, rfl, rfl, K x I1 e (fun a ha => ⟨?_, rfl⟩) (q.scr (fun a h1 h2 => ?_) ?_)⟩)
  · rw [xgn (by decide), xgn (by decide), xgn (by decide), xgn (by decide)]; exact hb.1
  · intro j hj; rw [xwI_ne (by omega), xwI_ne (by omega), xwI_ne (by omega), xwI_ne (by omega)]; exact hb.2.1 j hj
  · intro j hj; rw [xwI_ne (by omega), xwI_ne (by omega), xwI_ne (by omega), xwI_ne (by omega)]; exact hb.2.2 j hj
  · rw [xgn (by decide), xgn (by decide), xg]; rfl
  · rw [xgn (by decide), xgn (by decide), xgn (by decide), xg]; rfl
  · rw [xgn (by decide), xg]; rfl
  · rw [xg]; rfl
  · rw [f.1 a (by omega) (by omega), xwI_ne (by omega), xwI_ne (by omega), xwI_ne (by omega), xwI_ne (by omega)]
  · rw [f.1 a h1 (by omega), xwI_ne h1, xwI_ne h1, xwI_ne h1, xwI_ne h1]
  · rw [f.2 4 (by decide), xgn (by decide), xgn (by decide), xgn (by decide), xgn (by decide)]
end RULEC3
