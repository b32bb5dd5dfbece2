/-! ===== hire ===== -/
section HIRE
variable {S : aS} {L d dr tl : Nat} {I I0 I1 I2 : Nat → Nat → Int32} {J : Nat → Nat → Int64} {a1 a2 a3 a4 a5 x : Int32} {r q p m n : Nat} {l : Int} {f c c' h : Nat → Int} {A : Int} {Q : Option Value → xMem → Prop}
theorem feas_tot (hc : hFeas f c) {g : Nat} (hg : g < 16) : f g ≤ hTot c := by
  have h1 := hc.2 g hg
  have p0 := hc.1 0 (by decide)
  have p1 := hc.1 1 (by decide)
  have p2 := hc.1 2 (by decide)
  have p3 := hc.1 3 (by decide)
  have b0 : (if g % 2 = 1 then c 0 else 0) ≤ c 0 := by split <;> omega
  have b1 : (if g / 2 % 2 = 1 then c 1 else 0) ≤ c 1 := by split <;> omega
  have b2 : (if g / 4 % 2 = 1 then c 2 else 0) ≤ c 2 := by split <;> omega
  have b3 : (if g / 8 % 2 = 1 then c 3 else 0) ≤ c 3 := by split <;> omega
  have e : hSum c g = (if g % 2 = 1 then c 0 else 0) + (if g / 2 % 2 = 1 then c 1 else 0) + (if g / 4 % 2 = 1 then c 2 else 0) + (if g / 8 % 2 = 1 then c 3 else 0) := rfl
  have t : hTot c = c 0 + c 1 + c 2 + c 3 := rfl
  omega
theorem zeros_best (hf : ∀ g : Nat, g < 16 → f g = 0) (hz : ∀ r : Nat, r < 4 → c r = 0) : hBest f c ∧ hTot c = 0 ∧ hPay f c = 0 := by
  have z0 := hz 0 (by decide)
  have z1 := hz 1 (by decide)
  have z2 := hz 2 (by decide)
  have z3 := hz 3 (by decide)
  have t0 : hTot c = 0 := by unfold hTot; omega
  have pz : ∀ c' : Nat → Int, c' 0 = 0 → c' 1 = 0 → c' 2 = 0 → c' 3 = 0 → hPay f c' = 0 := by
    intro c' y0 y1 y2 y3
    unfold hPay
    rw [y0, y1, y2, y3]; simp
  refine ⟨⟨⟨fun r hr => by rw [hz r hr]; exact Int.le_refl _, fun g hg => ?_⟩, fun c' hc => ?_⟩, t0, pz c z0 z1 z2 z3⟩
  · have e : hSum c g = (if g % 2 = 1 then c 0 else 0) + (if g / 2 % 2 = 1 then c 1 else 0) + (if g / 4 % 2 = 1 then c 2 else 0) + (if g / 8 % 2 = 1 then c 3 else 0) := rfl
    rw [hf g hg, e, z0, z1, z2, z3]; simp
  · have p0 := hc.1 0 (by decide)
    have p1 := hc.1 1 (by decide)
    have p2 := hc.1 2 (by decide)
    have p3 := hc.1 3 (by decide)
    have t : hTot c' = c' 0 + c' 1 + c' 2 + c' 3 := rfl
    by_cases y : hTot c' = 0
    · right
      refine ⟨by omega, Or.inr ⟨?_, ?_⟩⟩
      · rw [pz c z0 z1 z2 z3, pz c' (by omega) (by omega) (by omega) (by omega)]
      · unfold hLex; omega
    · left; omega
theorem fill119 (K : ∀ I1 : Nat → Nat → Int32, frN I I1 → (∀ j : Nat, j < 16 → I1 119 j = 0) → WP ((d + 4), 287, 27, [some (.ref 71), some (.int a1), none, some (.int a3), some (.int a2), none, none], [], (xSH L dr tl, I1, J)) Q) : ∀ (m k : Nat) (i : Int32) (I1 : Nat → Nat → Int32), k + m = 16 → i.toInt = k → frN I I1 → (∀ j : Nat, j < k → I1 119 j = 0) → WP ((d + 4), 287, 3, [some (.ref 71), some (.int a1), some (.int a2), some (.int a3), some (.int i), none, none], [], (xSH L dr tl, I1, J)) Q := by
  have e16 : (16 : Int32).toInt = 16 := rfl
  intro m
  induction m with
  | zero =>
    intro k i I1 hk hi fr1 hz
    exact w287_3 (sk (fun z => by rw [lt_ti] at z; omega) (K I1 fr1 (fun j hj => hz j (by omega))))
  | succ m ih =>
    intro k i I1 hk hi fr1 hz
    have i1 : (i + 1).toInt = ((k + 1 : Nat) : Int) := by rw [add1 (by omega) (by omega), hi]; rfl
    have xi : xIx i = k := by rw [xIx_ti, hi]; exact Int.toNat_natCast _
    refine w287_3 (hit (lt_ti.mpr (by omega)) ⟨by rw [xin_iff, hi]; omega, ih (k + 1) _ _ (by omega) i1 (fr1.tr (frN_w (by decide))) (fun j hj => ?_)⟩)
    rw [xi]
    by_cases e : j = k
    · rw [e, xg]
    · rw [xgn e]; exact hz j (by omega)
theorem m_fewest {R : Int32 → (Nat → Nat → Int32) → (Nat → Nat → Int64) → Prop} (q : MInv S I J) (h2 : isP S a1.toInt a2.toInt) (h3 : isP S a1.toInt a3.toInt) (le : a2.toInt ≤ a3.toInt) (hF : f = fullF S a1.toInt a2.toInt.toNat (a3.toInt - a2.toInt + 1).toNat) (K0 : 0 < f 0 → ∀ I1 : Nat → Nat → Int32, frN I I1 → R (-1) I1 J) (K1 : ¬ 0 < f 0 → ∀ (I1 : Nat → Nat → Int32) (v : Int32), frN I I1 → hBest f (bI4 I1) → (I1 71 71).toInt = hPay f (bI4 I1) → v.toInt = hTot (bI4 I1) → R v I1 J) : WP ((d + 4), 287, 0, [some (.ref 71), some (.int a1), some (.int a2), some (.int a3), none, none, none], [], (xSH L dr tl, I, J)) (fun v M => ∃ (r : Int32) (I2 : Nat → Nat → Int32) (J2 : Nat → Nat → Int64), v = some (.int r) ∧ M = (xSH L dr tl, I2, J2) ∧ R r I2 J2) := by
  have hw := q.mb.1
  have z2 := plc_isP.mp h2
  have z3 := plc_isP.mp h3
  have pb := plc_le hw a1.toInt
  have hN := hw.2.2.2.1
  obtain ⟨n, en⟩ : ∃ n : Nat, sNR S = n := ⟨(sNR S).toNat, by omega⟩
  have hn : n ≤ 4 := by omega
  have pw := pw16 hn
  obtain ⟨hf, hp⟩ := full_fok (l := a1.toInt) (p := a2.toInt.toNat) (N := (a3.toInt - a2.toInt + 1).toNat) hw en hn (fun i hi => plc_isP.mpr ⟨by omega, by omega⟩)
  rw [← hF] at hf hp
  have fa : ∀ g : Nat, g < 16 → f g = askF S a1.toInt a2.toInt.toNat (a3.toInt - a2.toInt + 1).toNat g := fun g hg => by rw [hF]; exact if_pos hg
  refine w287_0 (fill119 (I := I) (fun I1 fr1 hz => ?_) 16 0 0 I rfl rfl frN_refl (fun j hj => by omega))
  refine places_loop (I := I) (N := (a3.toInt - a2.toInt + 1).toNat) q en hn z2.1 z3.2 (by omega) (fun I2 fr2 nb0 => ?_) (a3.toInt - a2.toInt + 1).toNat 0 a2 I1 (by omega) (by omega) fr1 (fun j hj => ?_)
  · have nb : NB f n I2 := fun j hj => by
      rw [nb0 j hj]
      by_cases y : j < 2 ^ n
      · rw [if_pos y, if_pos y, fa _ (by omega)]
      · rw [if_neg y, if_neg y]
    refine most131 (fun v hv => ?_) 16 0 0 0 rfl rfl rfl
    have mx := maxI_le (g := fun j => (I2 119 j).toInt) 16
    rw [← hv] at mx
    have low : ∀ c' : Nat → Int, hFeas f c' → v.toInt ≤ hTot c' := by
      intro c' hc
      have p0 := tot_n hc
      have t : hTot c' = c' 0 + c' 1 + c' 2 + c' 3 := rfl
      rw [hv]
      refine maxI_ub (by omega) 16 (fun j hj => ?_)
      show (I2 119 j).toInt ≤ _
      rw [nb j hj]
      split
      · exact feas_tot hc (by omega)
      · omega
    refine zero173 (I := I2) (fun I3 fr3 e119 h121 => ?_) 4 0 0 I2 rfl rfl frN_refl rfl (fun r hr => by omega)
    have fr03 : frN I I3 := fr2.tr fr3
    have nb3 : NB f n I3 := NB_fr nb e119
    refine w287_173 (sk (by decide) (brz eq0 (fun y => ⟨0, _, J, rfl, rfl, ?_⟩) (fun y => ?_)))
    · have fz : ∀ g : Nat, g < 16 → f g = 0 := by
        intro g hg
        by_cases z : g < 2 ^ n
        · have a := nb (2 ^ n - 1 - g) (by omega)
          rw [if_pos (by omega), show 2 ^ n - 1 - (2 ^ n - 1 - g) = g by omega] at a
          have b : (I2 119 (2 ^ n - 1 - g)).toInt ≤ v.toInt := mx.2 (2 ^ n - 1 - g) (by omega)
          have := hf.1 g hg
          omega
        · exact hf.2.1 g (by omega) hg
      have f0 := fz 0 (by decide)
      have zb := zeros_best (c := bI4 (xwI I3 71 71 0)) fz (fun r hr => by unfold bI4; rw [xwI_ne (by decide), h121 r hr]; rfl)
      refine K1 (by omega) _ 0 (fr03.tr frN_p) zb.1 ?_ ?_
      · rw [xg, zb.2.2]; rfl
      · rw [zb.2.1]; rfl
    · have q3 : MInv S (xwI I3 71 71 0) J := q.frn (fr03.tr frN_p)
      refine (m_people q3.mb.2.1).u fun r3 g3 => ?_
      have er : r3 = Int32.ofNat n := eq_ti.mpr (by rw [g3, en, ofN16 n (by omega)])
      have sh := shl_n n (by omega)
      rw [er]
      have nb4 : NB f n (xwI I3 71 71 0) := NB_fr nb3 (xwI_ne (by decide))
      have xj : xIx (((1 : Int32) <<< (Int32.ofNat n &&& 31)) - 1) = 2 ^ n - 1 := by rw [xIx_ti, sh]; exact Int.toNat_natCast _
      have v0 : ((xwI I3 71 71 0) 119 (2 ^ n - 1)).toInt = f 0 := by
        rw [nb4 _ (by omega), if_pos (by omega)]
        congr 1
        omega
      refine ⟨by rw [xin_iff, sh]; omega, ?_⟩
      rw [xj]
      refine brz gt0 (fun w => ⟨-1, _, J, rfl, rfl, K0 (by rw [v0] at w; exact w) _ (fr03.tr frN_p)⟩) (fun w => ?_)
      rw [v0] at w
      have n1 : 1 ≤ n := by
        apply Classical.byContradiction
        intro nz
        have n0 : n = 0 := by omega
        subst n0
        apply y
        have : v.toInt ≤ 0 := by
          rw [hv]
          refine maxI_ub (Int.le_refl _) 16 (fun j hj => ?_)
          show (I2 119 j).toInt ≤ 0
          rw [nb j hj]
          split
          · rename_i z
            have : j = 0 := by have : (2 : Nat) ^ 0 = 1 := rfl; omega
            rw [this]; show f (1 - 1 - 0) ≤ 0; exact Int.not_lt.mp w
          · exact Int.le_refl _
        omega
      exact fewest_loop (I := I) en n1 hn hf hp (by omega) (fun I4 v4 fr4 b4 p4 t4 => ⟨v4, I4, J, rfl, rfl, K1 w I4 v4 fr4 b4 p4 t4⟩) 1000 v _ (by omega) mx.1 q3 (fr03.tr frN_p) nb4 low
  · rw [hz j hj]
    show (0 : Int) = _
    split
    · rfl
    · rfl
noncomputable def hireOK (S : aS) (l a b w : Int) : Prop := (isP S l a ∧ isP S l b ∧ a ≤ b) ∧ (0 ≤ w ∧ w < 2 + sNR S) ∧ ¬ 0 < fullF S l a.toNat (b - a + 1).toNat 0
def hireV (f c : Nat → Int) (w : Int) : Int := if w = 0 then hTot c else if w = 1 then hPay f c else c (w - 2).toNat
noncomputable def hireZ (S : aS) (l a b w : Int) (v : Option Value) : Prop := ∃ r : Int32, v = some (.int r) ∧ ((¬ hireOK S l a b w ∧ r.toInt = -1) ∨ (hireOK S l a b w ∧ ∃ c : Nat → Int, hBest (fullF S l a.toNat (b - a + 1).toNat) c ∧ r.toInt = hireV (fullF S l a.toNat (b - a + 1).toNat) c w))
theorem hireV_u {w : Int} (h : hBest f c) (h' : hBest f c') (hw : 0 ≤ w ∧ w < 6) : hireV f c w = hireV f c' w := by
  obtain ⟨e0, e1, e2, e3⟩ := best_u h h'
  unfold hireV hTot hPay
  rw [e0, e1, e2, e3]
  split
  · rfl
  · split
    · rfl
    · have : (w - 2).toNat = 0 ∨ (w - 2).toNat = 1 ∨ (w - 2).toNat = 2 ∨ (w - 2).toNat = 3 := by omega
      rcases this with y | y | y | y <;> rw [y] <;> assumption
theorem hireZ_no {w : Int32} {a b e : Int} (h : ¬ hireOK S l a b e) (hw : w.toInt = -1) : hireZ S l a b e (some (.int w)) := ⟨w, rfl, Or.inl ⟨h, hw⟩⟩
theorem Call.wf {cx cm : Nat} {ax am : List Value} (h : WF S → Call L d cx cm ax am S) : Call L d cx cm ax am S := fun dr tl I J h1 h2 => h h1.cb.1 dr tl I J h1 h2
theorem call_hire : Call L (d + 8) 182 288 [.int a1, .int a2, .int a3, .int a4] [.int a1, .int a2, .int a3, .int a4] S := by
  have em1 : (-1 : Int32).toInt = -1 := rfl
  have e2 : (2 : Int32).toInt = 2 := rfl
  refine Call.wf (fun hw => ?_)
  have hN := hw.2.2.2.1
  refine Call.stU S (hireZ S a1.toInt a2.toInt a3.toInt a4.toInt) (fun v v' h h' => ?_) (fun dr tl I J q => ?_) (fun dr tl I J q => ?_)
  · obtain ⟨r, rfl, e⟩ := h
    obtain ⟨r', rfl, e'⟩ := h'
    have : r'.toInt = r.toInt := by
      rcases e with ⟨e1, e2⟩ | ⟨e1, c, b, e2⟩
      · rcases e' with ⟨_, e3⟩ | ⟨e3, _⟩
        · rw [e2, e3]
        · exact absurd e3 e1
      · rcases e' with ⟨e3, _⟩ | ⟨_, c', b', e3⟩
        · exact absurd e1 e3
        · have wb := e1.2.1
          rw [e2, e3]; exact hireV_u b' b ⟨wb.1, by omega⟩
    rw [eq_ti.mpr this]
  · have hc := q.cb
    refine w182_0 hc.2.1 ((s_told hc.2.1).v ((s_hasSpan hc.1 hc.2.1 hc.2.2.1).u (fun sp => br1 (brz lt0 (fun z => ⟨hireZ_no (fun u => by have := u.2.1; omega) em1, I, J, rfl, keepM_refl, q⟩) (fun z => (s_size (sp7 hc.2.1) hc.2.2.1.1.2.2.1).u fun r5 g5 => ?_))) (fun sp => br0 ⟨hireZ_no (fun u => sp u.1) em1, I, J, rfl, keepM_refl, q⟩)))
    have e5 : (2 + r5).toInt = 2 + sNR S := by rw [addn (by decide) (by decide) (by omega) (by omega), g5]; rfl
    refine brz lt_ti (fun y => ?_) (fun y => ⟨hireZ_no (fun u => by have := u.2.1; omega) em1, I, J, rfl, keepM_refl, q⟩)
    have wok : 0 ≤ a4.toInt ∧ a4.toInt < 2 + sNR S := by omega
    refine s_plan (R := fun r7 I7 J7 => _) q sp.1 sp.2.1 sp.2.2 (fun f0 I7 km q7 => br0 ⟨hireZ_no (fun u => u.2.2 f0) em1, I7, J, rfl, km, q7⟩) (fun f0 I7 km q7 hb t5 t6 => br1 ?_)
    have ok : hireOK S a1.toInt a2.toInt a3.toInt a4.toInt := ⟨sp, wok, f0⟩
    have fin : ∀ r : Int32, r.toInt = hireV (fullF S a1.toInt a2.toInt.toNat (a3.toInt - a2.toInt + 1).toNat) (kI I7) a4.toInt → hireZ S a1.toInt a2.toInt a3.toInt a4.toInt (some (.int r)) := fun r hr => ⟨r, rfl, Or.inr ⟨ok, kI I7, hb, hr⟩⟩
    refine brz lt_ti (fun w => brz eq0 (fun u => w26_0 ⟨_, I7, J, rfl, rfl, fin _ ?_, I7, J, rfl, km, q7⟩) (fun u => w27_0 ⟨_, I7, J, rfl, rfl, fin _ ?_, I7, J, rfl, km, q7⟩)) (fun w => ?_)
    · unfold hireV; rw [if_pos u]; exact t5
    · unfold hireV; rw [if_neg u, if_pos (by omega)]; exact t6
    · have s2 : (a4 - 2).toInt = a4.toInt - 2 := by rw [sub_ti (by show _ ≤ a4.toInt - 2; omega) (by show a4.toInt - 2 < _; omega)]; rfl
      refine w28_0 (sk (fun u => by rw [lt0, s2] at u; omega) (hit (lt4.mpr (by rw [s2]; omega)) ⟨by rw [xin_iff, s2]; omega, _, I7, J, rfl, rfl, fin _ ?_, I7, J, rfl, km, q7⟩))
      unfold hireV
      rw [if_neg (by omega), if_neg (by omega), xIx_ti, s2]; rfl
  · have hm := q.mb
    refine w288_0 ((m_isSpan hm.1 hm.2.1).u (fun sp => br1 ((m_people hm.2.1).u fun r3 g3 => ?_)) (fun sp => br0 ⟨hireZ_no (fun u => sp u.1) em1, I, J, rfl, keepC_refl, q⟩))
    have e3 : (1 + r3).toInt = 1 + sNR S := by rw [addn (by decide) (by decide) (by omega) (by omega), g3]; rfl
    have z0 : (0 : Int64).toInt = 0 := rfl
    refine m_isIn.u (fun y => br1 ?_) (fun y => br0 ⟨hireZ_no (fun u => ?_) em1, I, J, rfl, keepC_refl, q⟩)
    · rw [t64, t64, e3, z0] at y
      have wok : 0 ≤ a4.toInt ∧ a4.toInt < 2 + sNR S := by omega
      refine m_fewest (f := fullF S a1.toInt a2.toInt.toNat (a3.toInt - a2.toInt + 1).toNat) q sp.1 sp.2.1 sp.2.2 rfl (fun f0 I6 fr6 => hit rfl ⟨hireZ_no (fun u => u.2.2 f0) em1, I6, J, rfl, fr6.kc, q.frn fr6⟩) (fun f0 I6 v fr6 hb hp ht => ?_)
      have ok : hireOK S a1.toInt a2.toInt a3.toInt a4.toInt := ⟨sp, wok, f0⟩
      have fin : ∀ r : Int32, r.toInt = hireV (fullF S a1.toInt a2.toInt.toNat (a3.toInt - a2.toInt + 1).toNat) (bI4 I6) a4.toInt → hireZ S a1.toInt a2.toInt a3.toInt a4.toInt (some (.int r)) := fun r hr => ⟨r, rfl, Or.inr ⟨ok, bI4 I6, hb, hr⟩⟩
      have tn := tot_n hb.1
      have tt : hTot (bI4 I6) = bI4 I6 0 + bI4 I6 1 + bI4 I6 2 + bI4 I6 3 := rfl
      refine sk (fun u => by rw [eqm] at u; omega) (brz eq0 (fun u => ⟨fin _ ?_, I6, J, rfl, fr6.kc, q.frn fr6⟩) (fun u => brz eq1 (fun w => ⟨fin _ ?_, I6, J, rfl, fr6.kc, q.frn fr6⟩) (fun w => ?_)))
      · unfold hireV; rw [if_pos u]; exact ht
      · unfold hireV; rw [if_neg u, if_pos w]; exact hp
      · have s2 : (a4 - 2).toInt = a4.toInt - 2 := by rw [sub_ti (by show _ ≤ a4.toInt - 2; omega) (by show a4.toInt - 2 < _; omega)]; rfl
        refine ⟨by rw [xin_iff, s2]; omega, fin _ ?_, I6, J, rfl, fr6.kc, q.frn fr6⟩
        unfold hireV
        rw [if_neg u, if_neg w, xIx_ti, s2]; rfl
    · rw [t64, t64, e3, z0] at y
      have := u.2.1
      omega
end HIRE
