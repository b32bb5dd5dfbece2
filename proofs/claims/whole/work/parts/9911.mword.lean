/-! ===== book: the reference's words, signs and numbers ===== -/
def MN (t : Tp) (x : RX (Lx × Int)) (r : Int32) (I : Nat → Nat → Int32) : Prop := match x with
  | .ok y => MR t y.1 I ∧ r.toInt = y.2
  | .error e => MZ e I
/-- a sign that is neither blank nor letter nor digit -/
def mkc (c : Int) : Prop := 0 ≤ c ∧ c ≠ 10 ∧ c ≠ 32 ∧ ¬ (97 ≤ c ∧ c ≤ 122) ∧ ¬ (48 ≤ c ∧ c ≤ 57)
section MWORD
variable {t : Tp} {L d dr tl : Nat} {I I0 I1 I2 : Nat → Nat → Int32} {J : Nat → Nat → Int64} {a0 a1 a2 a3 a4 : Int32} {s : Lx} {l v lo hi c : Int} {R : (Nat → Nat → Int32) → (Nat → Nat → Int64) → Prop} {Q : Option Value → xMem → Prop} {x : RX Lx} {k : Nat}
theorem kd_of2 (h : kA t (qq t s) = 2) (n : ¬ (s.2 = true ∧ qq t s = s.1)) : kd t s = 2 := by
  unfold kd
  rw [if_neg (fun z => n z.2), h]
theorem kd_of3 (h : kA t (qq t s) = 3) (n : ¬ (s.2 = true ∧ qq t s = s.1)) : kd t s = 3 := by
  unfold kd
  rw [if_neg (fun z => n z.2), h]
theorem m_isHere {R : Int32 → (Nat → Nat → Int32) → (Nat → Nat → Int64) → Prop} (hk : k < 19) (mt : MT t I) (wa : WA I) (h : MR t s I) (K1 : ow t s = k → ∀ I1 : Nat → Nat → Int32, frX I I1 → MQx t s I1 → R 1 I1 J) (K0 : ow t s ≠ k → ∀ I1 : Nat → Nat → Int32, frX I I1 → MQx t s I1 → R 0 I1 J) : WP ((d + 2), 203, 0, [some (.ref 71), some (.ref (73 + k)), none, none], [], (xSH L dr tl, I, J)) (fun v M => ∃ (r : Int32) (I2 : Nat → Nat → Int32) (J2 : Nat → Nat → Int64), v = some (.int r) ∧ M = (xSH L dr tl, I2, J2) ∧ R r I2 J2) := by
  have n1600 := mt.1.1
  have wl := wLen k hk
  refine w203_0 (wCell k hk) (hit (eq0.mpr h.2.2.2) (m_look mt h fun r2 I2 f2 g2 e2 => m_isLet.u (fun y => br1 (brz g2.near (fun z => ⟨0, I2, J, rfl, rfl, K0 (fun u => ?_) I2 f2 g2⟩) (fun z => ?_))) (fun y => br0 ⟨0, I2, J, rfl, rfl, K0 (fun u => y ?_) I2 f2 g2⟩)))
  · exact (kd_2 ((ow_iff hk).mp u).1).2.2 z
  · rw [e2, tb_k2] at y
    have k2 := kd_of2 y z
    have mt2 := mt.f f2
    have wa2 := wa.f f2
    have hps := (kd_2 k2).2.1
    have hqp := ps_lt (t := t) (s := s) (kd_lt (by omega))
    have hpn := ps_n (t := t) (s := s) h.1
    have en : (Int32.ofNat (clen (73 + k))).toInt = (OW.getD k []).length := by rw [wl.1]; exact ofN94 _ (by omega)
    -- the letters
    have cmp : ∀ (m j : Nat) (a3 : Int32), j + m = (OW.getD k []).length → a3.toInt = j → ps t s = qq t s + (OW.getD k []).length → (∀ i : Nat, i < j → t.1 (qq t s + i) = (OW.getD k []).getD i 0) → WP ((d + 2), 203, 76, [some (.ref 71), some (.ref (73 + k)), none, some (.int a3)], [], (xSH L dr tl, I2, J)) (fun v M => ∃ (r : Int32) (I2 : Nat → Nat → Int32) (J2 : Nat → Nat → Int64), v = some (.int r) ∧ M = (xSH L dr tl, I2, J2) ∧ R r I2 J2) := by
      intro m
      induction m with
      | zero =>
        intro j a3 hj h3 hp hi
        exact w203_76 (wCell k hk) (sk (fun z => by rw [lt_ti, en] at z; omega) ⟨1, I2, J, rfl, rfl, K1 ((ow_iff hk).mpr ⟨k2, hp, fun i _ h2 => hi i (by omega)⟩) I2 f2 g2⟩)
      | succ m ih =>
        intro j a3 hj h3 hp hi
        have ea : (I2 71 2 + a3).toInt = ((qq t s + j : Nat) : Int) := by rw [add_ti (by rw [g2.2.1]; omega) (by rw [g2.2.1]; omega), g2.2.1]; omega
        have xa : xIx (I2 71 2 + a3) = qq t s + j := by rw [xIx_ti, ea]; exact Int.toNat_natCast _
        have x3 : xIx a3 = j := by rw [xIx_ti, h3]; exact Int.toNat_natCast _
        have e72 : (I2 72 (xIx (I2 71 2 + a3))).toInt = t.1 (qq t s + j) := by rw [xa]; exact mt2.2.2 _ (by omega)
        have ew : (I2 (73 + k) (xIx a3)).toInt = (OW.getD k []).getD j 0 := by rw [x3]; exact wa2 k hk j (by omega)
        refine w203_76 (wCell k hk) (hit (lt_ti.mpr (by rw [en]; omega)) ⟨by rw [xin_iff, ea]; omega, by rw [xin_iff, wl.1]; omega, brz eq_ti (fun z => ih (j + 1) (a3 + 1) (by omega) (by rw [add1 (by omega) (by omega), h3]; rfl) hp (fun i hi' => ?_)) (fun z => ⟨0, I2, J, rfl, rfl, K0 (fun u => z ?_) I2 f2 g2⟩)⟩)
        · by_cases e : i = j
          · rw [e, ← e72, z, ew]
          · exact hi i (by omega)
        · rw [e72, ew]
          exact ((ow_iff hk).mp u).2.2 j (Nat.zero_le _) (by omega)
    have fin : ∀ a2 : Int32, a2.toInt = ps t s → ((a2 - I2 71 2 = Int32.ofNat (clen (73 + k)) → WP ((d + 2), 203, 76, [some (.ref 71), some (.ref (73 + k)), none, some (.int 0)], [], (xSH L dr tl, I2, J)) (fun v M => ∃ (r : Int32) (I2 : Nat → Nat → Int32) (J2 : Nat → Nat → Int64), v = some (.int r) ∧ M = (xSH L dr tl, I2, J2) ∧ R r I2 J2)) ∧ (¬ a2 - I2 71 2 = Int32.ofNat (clen (73 + k)) → ∃ (r : Int32) (I3 : Nat → Nat → Int32) (J2 : Nat → Nat → Int64), some (Value.int 0) = some (Value.int r) ∧ (xSH L dr tl, I2, J) = (xSH L dr tl, I3, J2) ∧ R r I3 J2)) := by
      intro a2 h2
      have es : (a2 - I2 71 2).toInt = (ps t s : Int) - qq t s := by rw [sub_ti (by rw [g2.2.1]; omega) (by rw [g2.2.1]; omega), g2.2.1, h2]
      refine brz eq_ti (fun z => cmp _ 0 0 (Nat.zero_add _) rfl (by rw [es, en] at z; omega) (fun i hi => absurd hi (Nat.not_lt_zero _))) (fun z => ⟨0, I2, J, rfl, rfl, K0 (fun u => z ?_) I2 f2 g2⟩)
      have := ((ow_iff hk).mp u).2.1
      rw [es, en]; omega
    -- the word's end
    have walk : ∀ (m i : Nat) (a2 : Int32), t.2 - i ≤ m → a2.toInt = i → rE t 2 i = ps t s → WP ((d + 2), 203, 35, [some (.ref 71), some (.ref (73 + k)), some (.int a2), none], [], (xSH L dr tl, I2, J)) (fun v M => ∃ (r : Int32) (I2 : Nat → Nat → Int32) (J2 : Nat → Nat → Int64), v = some (.int r) ∧ M = (xSH L dr tl, I2, J2) ∧ R r I2 J2) := by
      intro m
      induction m with
      | zero =>
        intro i a2 hm h2 hr
        have k0 := kA_end (t := t) (q := i) (by omega)
        rw [rE_e (by omega)] at hr
        exact w203_35 (wCell k hk) (sk (fun z => by rw [lt_ti, mt2.2.1] at z; omega) (fin a2 (by rw [h2, hr])))
      | succ m ih =>
        intro i a2 hm h2 hr
        by_cases lt : i < t.2
        · have x2 : xIx a2 = i := by rw [xIx_ti, h2]; exact Int.toNat_natCast _
          have e72 : (I2 72 (xIx a2)).toInt = t.1 i := by rw [x2]; exact mt2.2.2 i lt
          refine w203_35 (wCell k hk) (hit (lt_ti.mpr (by rw [mt2.2.1]; omega)) ⟨by rw [xin_iff]; omega, m_isLet.u (fun z => br1 ?_) (fun z => br0 (fin a2 ?_))⟩)
          · rw [e72] at z
            exact ih (i + 1) (a2 + 1) (by omega) (by rw [add1 (by omega) (by omega), h2]; rfl) (by rw [← rE_s (kA_2i lt z) (by decide)]; exact hr)
          · rw [e72] at z
            rw [rE_e (fun u => z (kA_2 u))] at hr
            rw [h2, hr]
        · have k0 := kA_end (t := t) (q := i) (by omega)
          rw [rE_e (by omega)] at hr
          exact w203_35 (wCell k hk) (sk (fun z => by rw [lt_ti, mt2.2.1] at z; omega) (fin a2 (by rw [h2, hr])))
    exact walk (t.2 - qq t s) (qq t s) _ (Nat.le_refl _) g2.2.1 hps.symm
  · rw [e2, tb_k2]
    exact (kd_2 ((ow_iff hk).mp u).1).1
theorem m_takes {R : Int32 → (Nat → Nat → Int32) → (Nat → Nat → Int64) → Prop} (hk : k < 19) (mt : MT t I) (wa : WA I) (h : MR t s I) (K1 : ow t s = k → ∀ I1 : Nat → Nat → Int32, frX I I1 → MR t (adv t s) I1 → R 1 I1 J) (K0 : ow t s ≠ k → ∀ I1 : Nat → Nat → Int32, frX I I1 → MQx t s I1 → R 0 I1 J) : WP ((d + 3), 204, 0, [some (.ref 71), some (.ref (73 + k))], [], (xSH L dr tl, I, J)) (fun v M => ∃ (r : Int32) (I2 : Nat → Nat → Int32) (J2 : Nat → Nat → Int64), v = some (.int r) ∧ M = (xSH L dr tl, I2, J2) ∧ R r I2 J2) := by
  have n1600 := mt.1.1
  have wl := wLen k hk
  have hpn := ps_n (t := t) (s := s) h.1
  refine w204_0 (wCell k hk) (m_isHere hk mt wa h (fun e I1 f1 g1 => br1 ⟨1, _, J, rfl, rfl, K1 e _ (f1.tr ((frX_w (by decide)).tr (frX_w (by decide)))) ?_⟩) (fun e I1 f1 g1 => br0 ⟨0, I1, J, rfl, rfl, K0 e I1 f1 g1⟩))
  obtain ⟨k2, hm, -⟩ := (ow_iff hk).mp e
  have en : (Int32.ofNat (clen (73 + k))).toInt = (OW.getD k []).length := by rw [wl.1]; exact ofN94 _ (by omega)
  have ea : (I1 71 2 + Int32.ofNat (clen (73 + k))).toInt = ps t s := by rw [add_ti (by rw [g1.2.1, en]; omega) (by rw [g1.2.1, en]; omega), g1.2.1, en]; omega
  exact g1.adv (by omega) ⟨rfl, rfl⟩ ea (fun _ => ea) (fun z => absurd (Or.inl k2) z)
theorem m_asks (hk : k < 19) (mt : MT t I) (wa : WA I) (h : MX t x I) (K : ∀ I1 : Nat → Nat → Int32, frX I I1 → MX t (bnd x (owF t k)) I1 → R I1 J) : WP ((d + 4), 205, 0, [some (.ref 71), some (.ref (73 + k))], [], (xSH L dr tl, I, J)) (fun v M => ∃ (I2 : Nat → Nat → Int32) (J2 : Nat → Nat → Int64), v = none ∧ M = (xSH L dr tl, I2, J2) ∧ R I2 J2) := by
  cases x with
  | error e => exact w205_0 (wCell k hk) (sk (MZ.n0 (e := e) h) ⟨I, J, rfl, rfl, K I frX_refl h⟩)
  | ok s =>
    have h' : MR t s I := h
    refine w205_0 (wCell k hk) (hit (eq0.mpr h'.2.2.2) (m_takes hk mt wa h' (fun e I1 f1 g1 => br1 ⟨I1, J, rfl, rfl, K I1 f1 ?_⟩) (fun e I1 f1 g1 => br0 (m_fail0 (k := 1) g1.2.2.2 rfl (by decide) g1.2.1 fun I2 f2 g2 => ⟨I2, J, rfl, rfl, K I2 (f1.tr f2) ?_⟩))))
    · have E : bnd (.ok s) (owF t k) = .ok (adv t s) := if_pos e
      rw [E]; exact g1
    · have E : bnd (.ok s) (owF t k) = .error (1, (qq t s : Int)) := if_neg e
      rw [E]; exact g2
theorem tb_mk (hc : mkc c) : tb t (qq t s : Int) = c ↔ isMk t c s := by
  obtain ⟨c0, c1, c2, c3, c4⟩ := hc
  constructor
  · intro h
    have lt : qq t s < t.2 := by
      apply Classical.byContradiction
      intro z
      unfold tb at h
      rw [if_neg (by omega)] at h; omega
    rw [tb_in lt] at h
    have k4 : kA t (qq t s) = 4 := by
      unfold kA
      rw [if_neg (by omega), if_neg (by omega), if_neg (by omega), if_neg (by omega)]
    refine ⟨?_, h⟩
    unfold kd
    rw [if_neg (by omega), k4]
  · intro h
    rw [tb_in (kd_lt (isMk_0 h))]; exact h.2
theorem m_takesS {R : Int32 → (Nat → Nat → Int32) → (Nat → Nat → Int64) → Prop} (hc : mkc c) (ec : a1.toInt = c) (mt : MT t I) (h : MR t s I) (K1 : isMk t c s → ∀ I1 : Nat → Nat → Int32, frX I I1 → MR t (adv t s) I1 → (I1 71 2).toInt = ((qq t s + 1 : Nat) : Int) → R 1 I1 J) (K0 : ¬ isMk t c s → ∀ I1 : Nat → Nat → Int32, frX I I1 → MQx t s I1 → R 0 I1 J) : WP ((d + 2), 206, 0, [some (.ref 71), some (.int a1)], [], (xSH L dr tl, I, J)) (fun v M => ∃ (r : Int32) (I2 : Nat → Nat → Int32) (J2 : Nat → Nat → Int64), v = some (.int r) ∧ M = (xSH L dr tl, I2, J2) ∧ R r I2 J2) := by
  have n1600 := mt.1.1
  have hqn := qq_n (t := t) (s := s) h.1
  refine w206_0 (hit (eq0.mpr h.2.2.2) (m_look mt h fun r2 I2 f2 g2 e2 => brz eq_ti (fun y => ⟨1, _, J, rfl, rfl, K1 ?_ _ (f2.tr (frX_w (by decide))) ?_ ?_⟩) (fun y => ⟨0, I2, J, rfl, rfl, K0 (fun z => y ?_) I2 f2 g2⟩)))
  · exact (tb_mk hc).mp (by rw [← e2, y, ec])
  · have mk : isMk t c s := (tb_mk hc).mp (by rw [← e2, y, ec])
    have p1 := (kd_4 mk.1).2
    refine g2.adv (isMk_0 mk) ⟨rfl, rfl⟩ ?_ (fun z => ?_) (fun _ => rfl)
    · rw [xg, add1 (by rw [g2.2.1]; omega) (by rw [g2.2.1]; omega), g2.2.1, p1]; rfl
    · have := mk.1; omega
  · rw [xg, add1 (by rw [g2.2.1]; omega) (by rw [g2.2.1]; omega), g2.2.1]; rfl
  · rw [e2, ec]; exact (tb_mk hc).mpr z
theorem m_asksS (hc : mkc c) (ec : a1.toInt = c) (mt : MT t I) (h : MX t x I) (K : ∀ I1 : Nat → Nat → Int32, frX I I1 → MX t (bnd x (mkF t c)) I1 → R I1 J) : WP ((d + 3), 207, 0, [some (.ref 71), some (.int a1)], [], (xSH L dr tl, I, J)) (fun v M => ∃ (I2 : Nat → Nat → Int32) (J2 : Nat → Nat → Int64), v = none ∧ M = (xSH L dr tl, I2, J2) ∧ R I2 J2) := by
  cases x with
  | error e => exact w207_0 (sk (MZ.n0 (e := e) h) ⟨I, J, rfl, rfl, K I frX_refl h⟩)
  | ok s =>
    have h' : MR t s I := h
    refine w207_0 (hit (eq0.mpr h'.2.2.2) (m_takesS hc ec mt h' (fun e I1 f1 g1 _ => br1 ⟨I1, J, rfl, rfl, K I1 f1 ?_⟩) (fun e I1 f1 g1 => br0 (m_fail0 (k := 1) g1.2.2.2 rfl (by decide) g1.2.1 fun I2 f2 g2 => ⟨I2, J, rfl, rfl, K I2 (f1.tr f2) ?_⟩))))
    · have E : bnd (.ok s) (mkF t c) = .ok (adv t s) := if_pos e
      rw [E]; exact g1
    · have E : bnd (.ok s) (mkF t c) = .error (1, (qq t s : Int)) := if_neg e
      rw [E]; exact g2
theorem m_number {R : Int32 → (Nat → Nat → Int32) → (Nat → Nat → Int64) → Prop} (mt : MT t I) (h : MX t x I) (hl : a1.toInt = lo) (hh : ∀ s : Lx, x = .ok s → a2.toInt = hi) (K : ∀ (r : Int32) (I1 : Nat → Nat → Int32), frX I I1 → MN t (bnd x (numF t lo hi)) r I1 → (∀ (s : Lx) (y : Lx × Int), x = .ok s → numF t lo hi s = .ok y → (I1 71 9).toInt = qq t s) → R r I1 J) : WP ((d + 2), 208, 0, [some (.ref 71), some (.int a1), some (.int a2), none], [], (xSH L dr tl, I, J)) (fun v M => ∃ (r : Int32) (I2 : Nat → Nat → Int32) (J2 : Nat → Nat → Int64), v = some (.int r) ∧ M = (xSH L dr tl, I2, J2) ∧ R r I2 J2) := by
  cases x with
  | error e => exact w208_0 (sk (MZ.n0 (e := e) h) ⟨0, I, J, rfl, rfl, K 0 I frX_refl h (fun s y z => by cases z)⟩)
  | ok s =>
    have h' : MR t s I := h
    have hh' := hh s rfl
    have n1600 := mt.1.1
    have hqn := qq_n (t := t) (s := s) h'.1
    have hpn := ps_n (t := t) (s := s) h'.1
    have E0 : bnd (.ok s) (numF t lo hi) = numF t lo hi s := rfl
    rw [E0] at K
    -- what isn't a number
    have bad : kd t s ≠ 3 → ∀ I2 : Nat → Nat → Int32, frX I I2 → MQx t s I2 → WP ((d + 1), 199, 0, [some (.ref 71), some (.int 1), some (.int (I2 71 2))], [], (xSH L dr tl, I2, J)) (fun v M => ∃ (I5 : Nat → Nat → Int32) (J5 : Nat → Nat → Int64), v = none ∧ M = (xSH L dr tl, I5, J5) ∧ ∃ (r : Int32) (I6 : Nat → Nat → Int32) (J6 : Nat → Nat → Int64), some (Value.int 0) = some (Value.int r) ∧ (xSH L dr tl, I5, J5) = (xSH L dr tl, I6, J6) ∧ R r I6 J6) := by
      intro k3 I2 f2 g2
      have E : numF t lo hi s = .error (1, (qq t s : Int)) := if_pos k3
      refine m_fail0 (k := 1) g2.2.2.2 rfl (by decide) g2.2.1 fun I5 f5 g5 => ⟨0, I5, J, rfl, rfl, K 0 I5 (f2.tr f5) (by rw [E]; exact g5) (fun s' y z e => ?_)⟩
      cases z
      rw [E] at e; cases e
    refine w208_0 (hit (eq0.mpr h'.2.2.2) (m_look mt h' fun r2 I2 f2 g2 e2 => m_isDig.u (fun y => br1 (brz g2.near (fun z => bad (fun u => (kd_3 u).2.2 z) I2 f2 g2) (fun z => ?_))) (fun y => br0 (bad (fun u => y ?_) I2 f2 g2))))
    · rw [e2, tb_k3] at y
      have k3 := kd_of3 y z
      have hps := (kd_3 k3).2.1
      have hqp := ps_lt (t := t) (s := s) (kd_lt (by omega))
      have dig := num_dig k3
      have NE : numF t lo hi s = if qq t s + 4 < ps t s then .error (1, ((qq t s + 4 : Nat) : Int)) else if dvF t (qq t s) (ps t s - qq t s) < lo ∨ hi < dvF t (qq t s) (ps t s - qq t s) then .error (2, (qq t s : Int)) else .ok (adv t s, dvF t (qq t s) (ps t s - qq t s)) := if_neg (fun u => u k3)
      have t4 : (4 : Int32).toInt = 4 := rfl
      have e48 : (48 : Int32).toInt = 48 := rfl
      have e10 : (10 : Int32).toInt = 10 := rfl
      -- the number's end
      have fin : ∀ (j : Nat) (a3 : Int32) (I5 : Nat → Nat → Int32), frX I I5 → MT t I5 → I5 71 4 = I2 71 4 → (I5 71 5 = I2 71 5 ∧ I5 71 6 = I2 71 6) → (I5 71 9).toInt = qq t s → (I5 71 2).toInt = ((qq t s + j : Nat) : Int) → ps t s = qq t s + j → j ≤ 4 → a3.toInt = dvF t (qq t s) j → WP ((d + 1), 196, 0, [some (.long (Int32.toInt64 a3)), none, some (.long (Int32.toInt64 a1)), none, some (.long (Int32.toInt64 a2)), none], [], (xSH L dr tl, xwI I5 71 4 (I5 71 2), J)) (fun v M => ∃ (r7 : Int32) (I7 : Nat → Nat → Int32) (J7 : Nat → Nat → Int64), v = some (.int r7) ∧ M = (xSH L dr tl, I7, J7) ∧ ((r7 = 0 → WP ((d + 1), 199, 0, [some (.ref 71), some (.int 2), some (.int (I7 71 9))], [], (xSH L dr tl, I7, J7)) (fun v M => ∃ (I9 : Nat → Nat → Int32) (J9 : Nat → Nat → Int64), v = none ∧ M = (xSH L dr tl, I9, J9) ∧ ∃ (r : Int32) (I6 : Nat → Nat → Int32) (J6 : Nat → Nat → Int64), some (Value.int a3) = some (Value.int r) ∧ (xSH L dr tl, I9, J9) = (xSH L dr tl, I6, J6) ∧ R r I6 J6)) ∧ (¬ r7 = 0 → ∃ (r : Int32) (I6 : Nat → Nat → Int32) (J6 : Nat → Nat → Int64), some (Value.int a3) = some (Value.int r) ∧ (xSH L dr tl, I7, J7) = (xSH L dr tl, I6, J6) ∧ R r I6 J6))) := by
        intro j a3 I5 f5 mt5 q4 q5 q9 q2 hp hj h3
        have ej : ps t s - qq t s = j := by omega
        rw [ej, if_neg (by omega)] at NE
        have F5 : frX I (xwI I5 71 4 (I5 71 2)) := f5.tr (frX_w (by decide))
        refine m_isIn.u (fun u => br1 ⟨a3, _, J, rfl, rfl, K a3 _ F5 ?_ (fun s' y' z' e' => by cases z'; exact q9)⟩) (fun u => br0 (m_fail0 (k := 2) (by show (I5 71 5).toInt = 0; rw [q5.1]; exact g2.2.2.2) rfl (by decide) (l := (qq t s : Int)) q9 fun I9 f9 g9 => ⟨a3, I9, J, rfl, rfl, K a3 I9 (F5.tr f9) ?_ (fun s' y' z' e' => ?_)⟩))
        · rw [t64, t64, t64, h3, hl, hh'] at u
          rw [NE, if_neg (by omega)]
          refine ⟨g2.adv (by omega) (by show I5 71 5 = _ ∧ I5 71 6 = _; exact q5) ?_ (fun _ => ?_) (fun w => absurd (Or.inr k3) w), h3⟩
          · show (I5 71 2).toInt = _; rw [q2, hp]
          · show (I5 71 2).toInt = _; rw [q2, hp]
        · rw [t64, t64, t64, h3, hl, hh'] at u
          rw [NE, if_pos (by omega)]
          exact g9
        · rw [t64, t64, t64, h3, hl, hh'] at u
          cases z'
          rw [NE, if_pos (by omega)] at e'
          cases e'
      -- the digits
      have loop : ∀ (m j : Nat) (a3 : Int32) (I5 : Nat → Nat → Int32), t.2 - (qq t s + j) ≤ m → j ≤ 4 → frX I I5 → I5 71 4 = I2 71 4 → (I5 71 5 = I2 71 5 ∧ I5 71 6 = I2 71 6) → (I5 71 9).toInt = qq t s → (I5 71 2).toInt = ((qq t s + j : Nat) : Int) → rE t 3 (qq t s + j) = ps t s → a3.toInt = dvF t (qq t s) j → WP ((d + 2), 208, 51, [some (.ref 71), some (.int a1), some (.int a2), some (.int a3)], [], (xSH L dr tl, I5, J)) (fun v M => ∃ (r : Int32) (I2 : Nat → Nat → Int32) (J2 : Nat → Nat → Int64), v = some (.int r) ∧ M = (xSH L dr tl, I2, J2) ∧ R r I2 J2) := by
        intro m
        induction m with
        | zero =>
          intro j a3 I5 hm hj f5 q4 q5 q9 q2 hr h3
          have mt5 := mt.f f5
          have k0 := kA_end (t := t) (q := qq t s + j) (by omega)
          rw [rE_e (by omega)] at hr
          exact w208_51 (sk (fun u => by rw [lt_ti, q2, mt5.2.1] at u; omega) (fin j a3 I5 f5 mt5 q4 q5 q9 q2 hr.symm hj h3))
        | succ m ih =>
          intro j a3 I5 hm hj f5 q4 q5 q9 q2 hr h3
          have mt5 := mt.f f5
          by_cases lt : qq t s + j < t.2
          · have xi : xIx (I5 71 2) = qq t s + j := by rw [xIx_ti, q2]; exact Int.toNat_natCast _
            have e72 : (I5 72 (xIx (I5 71 2))).toInt = t.1 (qq t s + j) := by rw [xi]; exact mt5.2.2 _ lt
            have ix : xin (I5 71 2) 1600 = true := by rw [xin_iff, q2]; omega
            refine w208_51 (hit (lt_ti.mpr (by rw [q2, mt5.2.1]; omega)) ⟨ix, m_isDig.u (fun u => br1 ?_) (fun u => br0 ?_)⟩)
            · rw [e72] at u
              have k3' := kA_3i lt u
              have hr' : rE t 3 (qq t s + (j + 1)) = ps t s := by rw [← hr, rE_s k3' (by decide)]; rfl
              have gt := rE_le (t := t) (c := 3) (q := qq t s + (j + 1)) (by decide)
              have es : (I5 71 2 - I5 71 9).toInt = j := by rw [sub_ti (by rw [q2, q9]; omega) (by rw [q2, q9]; omega), q2, q9]; omega
              refine brz eq_ti (fun u4 => ?_) (fun u4 => ⟨ix, ?_⟩)
              · rw [es, t4] at u4
                have e4 : j = 4 := by omega
                subst e4
                rw [if_pos (by omega)] at NE
                refine m_fail0 (k := 1) (by rw [q5.1]; exact g2.2.2.2) rfl (by decide) q2 fun I9 f9 g9 => ⟨0, I9, J, rfl, rfl, K 0 I9 (f5.tr f9) (by rw [NE]; exact g9) (fun s' y' z' e' => ?_)⟩
                cases z'
                rw [NE] at e'; cases e'
              · rw [es, t4] at u4
                have dvb := dv_b (t := t) (q := qq t s) (m := j + 1) (fun i hi' => if w : i < j + 1 then Or.inl (dig i (by omega)) else Or.inr (by omega)) (by omega) j (by omega)
                have m1 : (10 * a3).toInt = 10 * a3.toInt := mul_ti (by show _ ≤ 10 * a3.toInt; omega) (by show 10 * a3.toInt < _; omega)
                have m2 : (10 * a3 + I5 72 (xIx (I5 71 2))).toInt = 10 * a3.toInt + t.1 (qq t s + j) := by rw [add_ti (by rw [m1, e72]; omega) (by rw [m1, e72]; omega), m1, e72]
                refine ih (j + 1) _ _ (by omega) (by omega) (f5.tr (frX_w (by decide))) q4 q5 q9 ?_ hr' ?_
                · rw [xg, add1 (by rw [q2]; omega) (by rw [q2]; omega), q2]; rfl
                · rw [sub_ti (by rw [m2, e48]; omega) (by rw [m2, e48]; omega), m2, e48, h3]
                  show _ = 10 * dvF t (qq t s) j + (t.1 (qq t s + j) - 48)
                  omega
            · rw [e72] at u
              rw [rE_e (fun w => u (kA_3 w))] at hr
              exact fin j a3 I5 f5 mt5 q4 q5 q9 q2 hr.symm hj h3
          · have k0 := kA_end (t := t) (q := qq t s + j) (by omega)
            rw [rE_e (by omega)] at hr
            exact w208_51 (sk (fun u => by rw [lt_ti, q2, mt5.2.1] at u; omega) (fin j a3 I5 f5 mt5 q4 q5 q9 q2 hr.symm hj h3))
      exact loop (t.2 - qq t s) 0 0 _ (by omega) (by omega) (f2.tr (frX_w (by decide))) rfl ⟨rfl, rfl⟩ (by rw [xg]; exact g2.2.1) g2.2.1 hps.symm rfl
    · rw [e2, tb_k3]
      exact (kd_3 u).1
end MWORD
