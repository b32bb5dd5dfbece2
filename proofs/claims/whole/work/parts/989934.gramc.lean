/-! ===== book: the class reads sums and tests: the smaller deeds ===== -/
def frQ (dr : Nat) (I I1 : Nat → Nat → Int32) : Prop := (∀ a : Nat, a ≠ 7 → a ≠ dr + 13 → a ≠ dr + 14 → I1 a = I a) ∧ (∀ j : Nat, j < 2 ∨ 7 < j → I1 7 j = I 7 j) ∧ ∀ j : Nat, j ≠ 3 → I1 (dr + 13) j = I (dr + 13) j
/-- the steps that the draft holds, for these codes -/
def CC (dr : Nat) (c : List Int) (I : Nat → Nat → Int32) : Prop := (I (dr + 13) 3).toInt = c.length ∧ ∀ j : Nat, j < c.length → (I (dr + 14) j).toInt = stepOf (c.getD j 0)
def PG (dr : Nat) (t : Tp) (s : Lx) (c : List Int) (I : Nat → Nat → Int32) : Prop := PS t s I ∧ CC dr c I ∧ c.length ≤ s.1
def PH (dr : Nat) (t : Tp) (k l : Int) (I : Nat → Nat → Int32) : Prop := PF t k l I ∧ 0 ≤ (I (dr + 13) 3).toInt ∧ (I (dr + 13) 3).toInt ≤ 1600
def PGE (dr : Nat) (t : Tp) (x : RL) (c : List Int) (I : Nat → Nat → Int32) : Prop := match x with
  | .ok y => PG dr t y.1 (c ++ y.2) I
  | .error e => PH dr t e.1 e.2 I
def PGM (dr : Nat) (t : Tp) (x : RX Lx) (c : List Int) (I : Nat → Nat → Int32) : Prop := match x with
  | .ok s => PG dr t s c I
  | .error e => PH dr t e.1 e.2 I
def PGN (dr : Nat) (t : Tp) (x : RX (Lx × Int)) (c : List Int) (r : Int32) (I : Nat → Nat → Int32) : Prop := match x with
  | .ok y => PG dr t y.1 c I ∧ r.toInt = y.2
  | .error e => PH dr t e.1 e.2 I
section GRAMC
variable {t : Tp} {L d dr tl : Nat} {I I0 I1 : Nat → Nat → Int32} {J : Nat → Nat → Int64} {a0 a1 a2 a3 a4 x : Int32} {q r m p : Nat} {s : Lx} {b : Bool} {Q : Option Value → xMem → Prop} {k l v lo hi : Int} {R : (Nat → Nat → Int32) → (Nat → Nat → Int64) → Prop} {c : List Int}
theorem frQ_refl : frQ dr I I := ⟨fun _ _ _ _ => rfl, fun _ _ => rfl, fun _ _ => rfl⟩
theorem frQ.tr {I2 : Nat → Nat → Int32} (h : frQ dr I I1) (h' : frQ dr I1 I2) : frQ dr I I2 := ⟨fun a g1 g2 g3 => (h'.1 a g1 g2 g3).trans (h.1 a g1 g2 g3), fun j g => (h'.2.1 j g).trans (h.2.1 j g), fun j g => (h'.2.2 j g).trans (h.2.2 j g)⟩
theorem fr7.fq (hd : dr = 8 ∨ dr = 31) (h : fr7 I I1) : frQ dr I I1 := ⟨fun a g _ _ => h.1 a g, h.2, fun j _ => by rw [h.1 (dr + 13) (by omega)]⟩
theorem TP.fq (hd : dr = 8 ∨ dr = 31) (h : TP t I) (e : frQ dr I I1) : TP t I1 := by
  unfold TP at *
  rw [e.1 3 (by decide) (by omega) (by omega), e.1 4 (by decide) (by omega) (by omega)]; exact h
theorem CC.f (hd : dr = 8 ∨ dr = 31) (h : CC dr c I) (e : fr7 I I1) : CC dr c I1 := by
  unfold CC at *
  rw [e.1 (dr + 13) (by omega), e.1 (dr + 14) (by omega)]; exact h
theorem PG.bad (hd : dr = 8 ∨ dr = 31) (tp : TP t I) (h : PG dr t s c I) (e : fr7 I I1) (f : PF t k l I1) : PH dr t k l I1 := by
  obtain ⟨h1, h2, h3⟩ := h
  have n1 := tp.1.1
  have n2 := h1.1
  refine ⟨f, ?_, ?_⟩
  · rw [e.1 (dr + 13) (by omega), h2.1]; omega
  · rw [e.1 (dr + 13) (by omega), h2.1]; omega
theorem PH.f (hd : dr = 8 ∨ dr = 31) (h : PH dr t k l I) (e : fr7 I I1) (f : PF t k l I1) : PH dr t k l I1 := by
  refine ⟨f, ?_⟩
  rw [e.1 (dr + 13) (by omega)]
  exact h.2
theorem PG.f (hd : dr = 8 ∨ dr = 31) {s' : Lx} (h : PG dr t s c I) (e : fr7 I I1) (f : PS t s' I1) (le : s.1 ≤ s'.1) : PG dr t s' c I1 := ⟨f, h.2.1.f hd e, Nat.le_trans h.2.2 le⟩
theorem g_adv (hd : dr = 8 ∨ dr = 31) (tp : TP t I) (h : PG dr t s c I) (K : ∀ I1 : Nat → Nat → Int32, frQ dr I I1 → PG dr t (adv t s) c I1 → R I1 J) : WP ((d + 5), 74, 0, [some (.ref 7), none, none], [], (xSH L dr tl, I, J)) (fun v M => ∃ (I2 : Nat → Nat → Int32) (J2 : Nat → Nat → Int64), v = none ∧ M = (xSH L dr tl, I2, J2) ∧ R I2 J2) := s_adv tp h.1 fun I1 f1 g1 => K I1 (f1.fq hd) (h.f hd f1 g1 (adv_ge h.1.1))
theorem g_advF (hd : dr = 8 ∨ dr = 31) (tp : TP t I) (h : PH dr t k l I) (K : ∀ I1 : Nat → Nat → Int32, frQ dr I I1 → PH dr t k l I1 → R I1 J) : WP ((d + 5), 74, 0, [some (.ref 7), none, none], [], (xSH L dr tl, I, J)) (fun v M => ∃ (I2 : Nat → Nat → Int32) (J2 : Nat → Nat → Int64), v = none ∧ M = (xSH L dr tl, I2, J2) ∧ R I2 J2) := s_advF tp h.1 fun I1 f1 g1 => K I1 (f1.fq hd) (h.f hd f1 g1)
theorem g_fail (hd : dr = 8 ∨ dr = 31) (tp : TP t I) (h : PG dr t s c I) (hk : a1.toInt = k) (hk0 : k ≠ 0) (hl : a2.toInt = l) (K : ∀ I1 : Nat → Nat → Int32, frQ dr I I1 → PH dr t k l I1 → R I1 J) : WP ((d + 2), 73, 0, [some (.ref 7), some (.int a1), some (.int a2)], [], (xSH L dr tl, I, J)) (fun v M => ∃ (I2 : Nat → Nat → Int32) (J2 : Nat → Nat → Int64), v = none ∧ M = (xSH L dr tl, I2, J2) ∧ R I2 J2) := s_fail tp h.1 hk hk0 hl fun I1 f1 g1 => K I1 (f1.fq hd) (h.bad hd tp f1 g1)
theorem g_failF (hd : dr = 8 ∨ dr = 31) (tp : TP t I) (h : PH dr t k l I) (K : ∀ I1 : Nat → Nat → Int32, frQ dr I I1 → PH dr t k l I1 → R I1 J) : WP ((d + 2), 73, 0, [some (.ref 7), some (.int a1), some (.int a2)], [], (xSH L dr tl, I, J)) (fun v M => ∃ (I2 : Nat → Nat → Int32) (J2 : Nat → Nat → Int64), v = none ∧ M = (xSH L dr tl, I2, J2) ∧ R I2 J2) := s_failF tp h.1 fun I1 f1 g1 => K I1 (f1.fq hd) (h.f hd f1 g1)
theorem g_takeMark (hd : dr = 8 ∨ dr = 31) (tp : TP t I) (h : PG dr t s c I) (hk : a1.toInt = k) (K : ∀ I1 : Nat → Nat → Int32, frQ dr I I1 → PGM dr t (mkF t k s) c I1 → R I1 J) : WP ((d + 6), 63, 0, [some (.ref 7), some (.int a1)], [], (xSH L dr tl, I, J)) (fun v M => ∃ (I2 : Nat → Nat → Int32) (J2 : Nat → Nat → Int64), v = none ∧ M = (xSH L dr tl, I2, J2) ∧ R I2 J2) := by
  refine w63_0 ((s_isMark tp h.1 hk).u (fun y => br1 (g_adv hd tp h fun I1 f1 g1 => ⟨I1, J, rfl, rfl, K I1 f1 ?_⟩)) (fun y => br0 (g_fail (k := 1) hd tp h rfl (by decide) h.1.2.1 fun I1 f1 g1 => g_advF hd (tp.fq hd f1) g1 fun I2 f2 g2 => ⟨I2, J, rfl, rfl, K I2 (f1.tr f2) ?_⟩)))
  · have e : mkF t k s = .ok (adv t s) := if_pos y
    rw [e]; exact g1
  · have e : mkF t k s = .error (1, (qq t s : Int)) := if_neg y
    rw [e]; exact g2
theorem g_takeMarkF (hd : dr = 8 ∨ dr = 31) (tp : TP t I) (h : PH dr t k l I) (K : ∀ I1 : Nat → Nat → Int32, frQ dr I I1 → PH dr t k l I1 → R I1 J) : WP ((d + 6), 63, 0, [some (.ref 7), some (.int a1)], [], (xSH L dr tl, I, J)) (fun v M => ∃ (I2 : Nat → Nat → Int32) (J2 : Nat → Nat → Int64), v = none ∧ M = (xSH L dr tl, I2, J2) ∧ R I2 J2) :=
  w63_0 ((s_isMarkF h.1).u (fun y => y.elim) (fun _ => br0 (g_failF hd tp h fun I1 f1 g1 => g_advF hd (tp.fq hd f1) g1 fun I2 f2 g2 => ⟨I2, J, rfl, rfl, K I2 (f1.tr f2) g2⟩)))
theorem g_takeOwn (hd : dr = 8 ∨ dr = 31) (tp : TP t I) (h : PG dr t s c I) (hk : a1.toInt = k) (K : ∀ I1 : Nat → Nat → Int32, frQ dr I I1 → PGM dr t (owF t k s) c I1 → R I1 J) : WP ((d + 6), 62, 0, [some (.ref 7), some (.int a1)], [], (xSH L dr tl, I, J)) (fun v M => ∃ (I2 : Nat → Nat → Int32) (J2 : Nat → Nat → Int64), v = none ∧ M = (xSH L dr tl, I2, J2) ∧ R I2 J2) := by
  refine w62_0 (brz eq_ti (fun y => g_adv hd tp h fun I1 f1 g1 => ⟨I1, J, rfl, rfl, K I1 f1 ?_⟩) (fun y => g_fail (k := 1) hd tp h rfl (by decide) h.1.2.1 fun I1 f1 g1 => g_advF hd (tp.fq hd f1) g1 fun I2 f2 g2 => ⟨I2, J, rfl, rfl, K I2 (f1.tr f2) ?_⟩))
  · have e : owF t k s = .ok (adv t s) := if_pos (by rw [← h.1.2.2.2.2.1, y, hk])
    rw [e]; exact g1
  · have e : owF t k s = .error (1, (qq t s : Int)) := if_neg (fun z => y (by rw [h.1.2.2.2.2.1, z, hk]))
    rw [e]; exact g2
theorem g_takeOwnF (hd : dr = 8 ∨ dr = 31) (tp : TP t I) (h : PH dr t k l I) (ha : 0 ≤ a1.toInt) (K : ∀ I1 : Nat → Nat → Int32, frQ dr I I1 → PH dr t k l I1 → R I1 J) : WP ((d + 6), 62, 0, [some (.ref 7), some (.int a1)], [], (xSH L dr tl, I, J)) (fun v M => ∃ (I2 : Nat → Nat → Int32) (J2 : Nat → Nat → Int64), v = none ∧ M = (xSH L dr tl, I2, J2) ∧ R I2 J2) :=
  w62_0 (sk (fun z => by rw [eq_ti, h.1.2.2.2.1] at z; omega) (g_failF hd tp h fun I1 f1 g1 => g_advF hd (tp.fq hd f1) g1 fun I2 f2 g2 => ⟨I2, J, rfl, rfl, K I2 (f1.tr f2) g2⟩))
theorem g_canOpen {R : Int32 → (Nat → Nat → Int32) → (Nat → Nat → Int64) → Prop} (hd : dr = 8 ∨ dr = 31) (tp : TP t I) (h : PG dr t s c I) (K1 : a1.toInt < 6 → ∀ I1 : Nat → Nat → Int32, frQ dr I I1 → PG dr t (adv t s) c I1 → R 1 I1 J) (K0 : ¬ a1.toInt < 6 → ∀ I1 : Nat → Nat → Int32, frQ dr I I1 → PH dr t 4 (qq t s) I1 → R 0 I1 J) : WP ((d + 6), 68, 0, [some (.ref 7), some (.int a1)], [], (xSH L dr tl, I, J)) (fun v M => ∃ (r : Int32) (I2 : Nat → Nat → Int32) (J2 : Nat → Nat → Int64), v = some (.int r) ∧ M = (xSH L dr tl, I2, J2) ∧ R r I2 J2) :=
  w68_0 (brz lt_ti (fun y => g_adv hd tp h fun I1 f1 g1 => ⟨1, I1, J, rfl, rfl, K1 y I1 f1 g1⟩) (fun y => g_fail (k := 4) hd tp h rfl (by decide) h.1.2.1 fun I1 f1 g1 => ⟨0, I1, J, rfl, rfl, K0 y I1 f1 g1⟩))
theorem dv_b (h : ∀ j : Nat, j < 4 → 48 ≤ t.1 (q + j) ∧ t.1 (q + j) ≤ 57 ∨ m ≤ j) (hm : m ≤ 4) : ∀ j : Nat, j ≤ m → 0 ≤ dvF t q j ∧ dvF t q j ≤ 9999 ∧ (j ≤ 3 → dvF t q j ≤ 999) ∧ (j ≤ 2 → dvF t q j ≤ 99) ∧ (j ≤ 1 → dvF t q j ≤ 9) ∧ (j = 0 → dvF t q j = 0) := by
  intro j
  induction j with
  | zero => intro _; show (0 : Int) ≤ 0 ∧ (0 : Int) ≤ 9999 ∧ _ ∧ _ ∧ _ ∧ _; exact ⟨by decide, by decide, fun _ => (by decide : (0 : Int) ≤ 999), fun _ => (by decide : (0 : Int) ≤ 99), fun _ => (by decide : (0 : Int) ≤ 9), fun _ => rfl⟩
  | succ j ih =>
    intro hj
    have i := ih (by omega)
    have g := (h j (by omega)).resolve_right (by omega)
    have e : dvF t q (j + 1) = 10 * dvF t q j + (t.1 (q + j) - 48) := rfl
    rw [e]
    obtain ⟨i1, i2, i3, i4, i5, i6⟩ := i
    have jj : j = 0 ∨ j = 1 ∨ j = 2 ∨ j = 3 := by omega
    rcases jj with rfl | rfl | rfl | rfl <;> omega
theorem kA_3 (h : kA t q = 3) : 48 ≤ t.1 q ∧ t.1 q ≤ 57 := by
  unfold kA at h
  split at h
  · omega
  · split at h
    · omega
    · split at h
      · omega
      · split at h
        · assumption
        · omega
theorem kA_2 (h : kA t q = 2) : 97 ≤ t.1 q ∧ t.1 q ≤ 122 := by
  unfold kA at h
  split at h
  · omega
  · split at h
    · omega
    · split at h
      · assumption
      · split at h <;> omega
theorem kA_2i (lt : q < t.2) (h : 97 ≤ t.1 q ∧ t.1 q ≤ 122) : kA t q = 2 := by
  unfold kA
  rw [if_neg (by omega), if_neg (by omega), if_pos h]
theorem kA_3i (lt : q < t.2) (h : 48 ≤ t.1 q ∧ t.1 q ≤ 57) : kA t q = 3 := by
  unfold kA
  rw [if_neg (by omega), if_neg (by omega), if_neg (by omega), if_pos h]
theorem num_dig (h : kd t s = 3) : ∀ j : Nat, qq t s + j < ps t s → 48 ≤ t.1 (qq t s + j) ∧ t.1 (qq t s + j) ≤ 57 := by
  intro j hj
  rw [(kd_3 h).2.1] at hj
  exact kA_3 (rE_in (by decide) _ (by omega) hj)
theorem g_number {R : Int32 → (Nat → Nat → Int32) → (Nat → Nat → Int64) → Prop} (hd : dr = 8 ∨ dr = 31) (tp : TP t I) (h : PG dr t s c I) (hl : a1.toInt = lo) (hh : a2.toInt = hi) (K : ∀ (r : Int32) (I1 : Nat → Nat → Int32), frQ dr I I1 → PGN dr t (numF t lo hi s) c r I1 → R r I1 J) : WP ((d + 6), 61, 0, [some (.ref 7), some (.int a1), some (.int a2), none, none], [], (xSH L dr tl, I, J)) (fun v M => ∃ (r : Int32) (I2 : Nat → Nat → Int32) (J2 : Nat → Nat → Int64), v = some (.int r) ∧ M = (xSH L dr tl, I2, J2) ∧ R r I2 J2) := by
  have t3 : (3 : Int32).toInt = 3 := rfl
  have t4 : (4 : Int32).toInt = 4 := rfl
  have n1600 := tp.1.1
  have hq := h.1.2.1
  have hp := h.1.2.2.1
  have hk := h.1.2.2.2.1
  have h6 := h.1.2.2.2.2.2.1
  have hle := ps_le (t := t) (s := s) h.1.1
  have hpn := ps_n (t := t) (s := s) h.1.1
  have sb : (I 7 3 - I 7 2).toInt = ps t s - qq t s := by rw [sub_ti (by omega) (by omega), hq, hp]
  refine w61_0 (brz eq_ti (fun y => brz lt_ti (fun z => ?_) (fun z => hit (eq0.mpr h6) ?_)) (fun y => g_fail (k := 1) hd tp h rfl (by decide) hq fun I1 f1 g1 => sk (fun z => g1.1.1 (by rw [← g1.1.2.2.2.2.1]; exact eq0.mp z)) ⟨0, I1, J, rfl, rfl, K 0 I1 f1 ?_⟩))
  · have k3 : kd t s = 3 := hk.symm.trans y
    have e : numF t lo hi s = .error (1, ((qq t s + 4 : Nat) : Int)) := by
      unfold numF
      rw [if_neg (fun u => u k3), if_pos (by rw [t4, sb] at z; omega)]
    refine g_fail (k := 1) hd tp h rfl (by decide) (l := ((qq t s + 4 : Nat) : Int)) (by rw [addn (by omega) (by omega) (by decide) (by decide), hq]; show (qq t s : Int) + 4 = _; omega) fun I1 f1 g1 => sk (fun z => g1.1.1 (by rw [← g1.1.2.2.2.2.1]; exact eq0.mp z)) ⟨0, I1, J, rfl, rfl, K 0 I1 f1 ?_⟩
    rw [e]; exact g1
  · have k3 : kd t s = 3 := hk.symm.trans y
    rw [t4, sb] at z
    have dig := num_dig k3
    have dvb := dv_b (t := t) (q := qq t s) (m := ps t s - qq t s) (fun j hj => if u : j < ps t s - qq t s then Or.inl (dig j (by omega)) else Or.inr (by omega)) (by omega)
    -- the loop over the digits
    have loop : ∀ (m j : Nat) (v i : Int32), j + m = ps t s - qq t s → i.toInt = qq t s + j → v.toInt = dvF t (qq t s) j → WP ((d + 6), 61, 61, [some (.ref 7), some (.int a1), some (.int a2), some (.int v), some (.int i)], [], (xSH L dr tl, I, J)) (fun v M => ∃ (r : Int32) (I2 : Nat → Nat → Int32) (J2 : Nat → Nat → Int64), v = some (.int r) ∧ M = (xSH L dr tl, I2, J2) ∧ R r I2 J2) := by
      intro m
      induction m with
      | zero =>
        intro j v i hj hi' hv
        have ej : j = ps t s - qq t s := by omega
        subst ej
        have bd := dvb _ (Nat.le_refl _)
        have e0 : numF t lo hi s = if dvF t (qq t s) (ps t s - qq t s) < lo ∨ hi < dvF t (qq t s) (ps t s - qq t s) then .error (2, (qq t s : Int)) else .ok (adv t s, dvF t (qq t s) (ps t s - qq t s)) := by
          unfold numF
          rw [if_neg (fun u => u k3), if_neg (by omega)]
        have bad : (dvF t (qq t s) (ps t s - qq t s) < lo ∨ hi < dvF t (qq t s) (ps t s - qq t s)) → ∀ I2 : Nat → Nat → Int32, PH dr t 2 (qq t s) I2 → PGN dr t (numF t lo hi s) c v I2 := by
          intro u I2 g2
          rw [e0, if_pos u]; exact g2
        refine w61_61 (sk (fun u => by rw [lt_ti, hi', hp] at u; omega) (brz lt_ti (fun u => g_fail (k := 2) hd tp h rfl (by decide) hq fun I1 f1 g1 => g_advF hd (tp.fq hd f1) g1 fun I2 f2 g2 => ⟨v, I2, J, rfl, rfl, K v I2 (f1.tr f2) (bad (Or.inl (by omega)) I2 g2)⟩) (fun u => brz lt_ti (fun w => g_fail (k := 2) hd tp h rfl (by decide) hq fun I1 f1 g1 => g_advF hd (tp.fq hd f1) g1 fun I2 f2 g2 => ⟨v, I2, J, rfl, rfl, K v I2 (f1.tr f2) (bad (Or.inr (by omega)) I2 g2)⟩) (fun w => g_adv hd tp h fun I1 f1 g1 => ⟨v, I1, J, rfl, rfl, K v I1 f1 ?_⟩))))
        rw [e0, if_neg (by omega)]
        exact ⟨g1, hv⟩
      | succ m ih =>
        intro j v i hj hi' hv
        have bd := dvb j (by omega)
        have dg := dig j (by omega)
        refine w61_61 (hit (lt_ti.mpr (by rw [hi', hp]; omega)) ((s_tbyte tp).u fun r9 g9 => ih (j + 1) _ _ (by omega) ?_ ?_))
        · rw [add1 (by omega) (by omega), hi']; omega
        · rw [hi', if_pos (by omega)] at g9
          have g9' : r9.toInt = t.1 (qq t s + j) := by rw [g9]; congr 1
          have e10 : (10 * v).toInt = 10 * v.toInt := mul_ti (by show _ ≤ 10 * v.toInt; omega) (by show 10 * v.toInt < _; omega)
          have e11 : (10 * v + r9).toInt = 10 * v.toInt + r9.toInt := by rw [addn (by omega) (by omega) (by omega) (by omega), e10]
          have e48 : (48 : Int32).toInt = 48 := rfl
          rw [sub_ti (by rw [e11, e48]; omega) (by rw [e11, e48]; omega), e11, e48, hv, g9']
          show _ = 10 * dvF t (qq t s) j + (t.1 (qq t s + j) - 48)
          omega
    exact loop (ps t s - qq t s) 0 0 _ (by omega) (by rw [hq]; omega) rfl
  · have e : numF t lo hi s = .error (1, (qq t s : Int)) := by
      have y' : kd t s ≠ 3 := fun u => y (hk.trans u)
      unfold numF
      rw [if_pos y']
    rw [e]; exact g1
theorem g_numberF {R : Int32 → (Nat → Nat → Int32) → (Nat → Nat → Int64) → Prop} (hd : dr = 8 ∨ dr = 31) (tp : TP t I) (h : PH dr t k l I) (K : ∀ I1 : Nat → Nat → Int32, frQ dr I I1 → PH dr t k l I1 → R 0 I1 J) : WP ((d + 6), 61, 0, [some (.ref 7), some (.int a1), some (.int a2), none, none], [], (xSH L dr tl, I, J)) (fun v M => ∃ (r : Int32) (I2 : Nat → Nat → Int32) (J2 : Nat → Nat → Int64), v = some (.int r) ∧ M = (xSH L dr tl, I2, J2) ∧ R r I2 J2) := by
  have t3 : (3 : Int32).toInt = 3 := rfl
  exact w61_0 (sk (fun z => by rw [eq_ti, h.1.2.2.1] at z; omega) (g_failF hd tp h fun I1 f1 g1 => sk (fun z => g1.1.1 (by rw [← g1.1.2.2.2.2.1]; exact eq0.mp z)) ⟨0, I1, J, rfl, rfl, K I1 f1 g1⟩))
end GRAMC
