/-! ===== book: the reference's tests ===== -/
noncomputable def ftF (t : Tp) (k : Nat) (s : Lx) : RL := if ow t s = 13 then .ok (adv t s, [17]) else cmpX t k s
def dnN : List Int → List Int
  | [] => []
  | v :: w => if v = 16 then 16 :: dnN w else []
def dnR : List Int → List Int
  | [] => []
  | v :: w => if v = 16 then dnR w else v :: w
section MTEST
variable {t : Tp} {L d dr tl : Nat} {I I0 I1 I2 Ib : Nat → Nat → Int32} {J : Nat → Nat → Int64} {a0 a1 a2 a3 a4 rw : Int32} {s s1 : Lx} {v o B : Int} {R : (Nat → Nat → Int32) → (Nat → Nat → Int64) → Prop} {Q : Option Value → xMem → Prop} {c w w0 l p a W r0 : List Int} {e : Int × Int} {k : Nat} {r5 : Int32}
theorem mk60 : mkc 60 := by unfold mkc; omega
theorem mk61 : mkc 61 := by unfold mkc; omega
theorem mk62 : mkc 62 := by unfold mkc; omega
theorem mk91 : mkc 91 := by unfold mkc; omega
theorem mk93 : mkc 93 := by unfold mkc; omega
theorem mqx_step {m : Int} (mt : MT t I) (g : MQx t s I) (mk : isMk t m s) : MR t (adv t s) (xwI I 71 2 (I 71 2 + 1)) := by
  have n1600 := mt.1.1
  have hqn := qq_n (t := t) (s := s) g.1
  have p1 := (kd_4 mk.1).2
  refine g.adv (isMk_0 mk) ⟨rfl, rfl⟩ ?_ (fun u => ?_) (fun _ => rfl)
  · rw [xg, add1 (by rw [g.2.1]; omega) (by rw [g.2.1]; omega), g.2.1, p1]; rfl
  · have := mk.1; omega
theorem mqx_zstep {m : Int} (mt : MT t I) (g : MQx t s I) (mk : isMk t m s) (f : ∀ j : Nat, j = 2 ∨ j = 4 ∨ j = 5 ∨ j = 6 → I1 71 j = I 71 j) : MR t (adv t s) (xwI I1 71 2 (I1 71 2 + 1)) := by
  have n1600 := mt.1.1
  have hqn := qq_n (t := t) (s := s) g.1
  have p1 := (kd_4 mk.1).2
  refine g.adv (isMk_0 mk) ⟨f 5 (by omega), f 6 (by omega)⟩ ?_ (fun u => ?_) (fun _ => f 4 (by omega))
  · rw [xg, f 2 (by omega), add1 (by rw [g.2.1]; omega) (by rw [g.2.1]; omega), g.2.1, p1]; rfl
  · have := mk.1; omega
/-- behind a sign of comparing -/
theorem cmpT {x : Lx × List Int} {m : Int} (mt : MT t I) (wa : WA I) (h : MG t x.1 (c ++ x.2) w o I) (hat : (I 71 2).toInt = qq t x.1) (mk : isMk t m x.1) (hk : o + k = 6) (h0 : hdN (fun v => ¬ (1 ≤ v ∧ v ≤ 4)) w) (rm : (r5 = 60 ∧ v = 11) ∨ (¬ r5 = 60 ∧ r5 = 62 ∧ v = 12) ∨ (¬ r5 = 60 ∧ ¬ r5 = 62 ∧ v = 13)) (K : ∀ I1 : Nat → Nat → Int32, frS I I1 → MGE t (cmpF t (sumO t k) x v) c w o 1599 I1 → Q none (xSH L dr tl, I1, J)) : WP ((d + 6), 233, 0, [some (.ref 71), none, none], [], (xSH L dr tl, (xwI I 71 2 ((I 71 2) + 1)), J)) (fun v M => ∃ (I7 : Nat → Nat → Int32) (J7 : Nat → Nat → Int64), v = none ∧ M = (xSH L dr tl, I7, J7) ∧ ((r5 = 60 → WP ((d + 6), 224, 0, [some (.ref 71), some (.int 11)], [], (xSH L dr tl, I7, J7)) (fun v M => ∃ (I12 : Nat → Nat → Int32) (J12 : Nat → Nat → Int64), v = none ∧ M = (xSH L dr tl, I12, J12) ∧ Q (none) (xSH L dr tl, I12, J12))) ∧ (¬ r5 = 60 → ((r5 = 62 → WP ((d + 6), 224, 0, [some (.ref 71), some (.int 12)], [], (xSH L dr tl, I7, J7)) (fun v M => ∃ (I11 : Nat → Nat → Int32) (J11 : Nat → Nat → Int64), v = none ∧ M = (xSH L dr tl, I11, J11) ∧ Q (none) (xSH L dr tl, I11, J11))) ∧ (¬ r5 = 62 → WP ((d + 6), 224, 0, [some (.ref 71), some (.int 13)], [], (xSH L dr tl, I7, J7)) (fun v M => ∃ (I10 : Nat → Nat → Int32) (J10 : Nat → Nat → Int64), v = none ∧ M = (xSH L dr tl, I10, J10) ∧ Q (none) (xSH L dr tl, I10, J10))))))) := by
  have hs := h.1.1
  have h5 := h.2.2.2.2
  have gt := adv_gt (isMk_0 mk)
  have fx : frX I (xwI I 71 2 (I 71 2 + 1)) := frX_w (by decide)
  have h1 : MG t (adv t x.1) (c ++ x.2) w o (xwI I 71 2 (I 71 2 + 1)) := h.fx fx (mqx_step mt (h.q hat) mk) (by omega)
  refine m_sums (mt.f fx) (wa.f fx) h1 hk h0 fun I1 f1 g1 => ?_
  have E : cmpF t (sumO t k) x v = bnd (sumO t k (adv t x.1)) fun y => .ok (y.1, x.2 ++ y.2 ++ [v]) := rfl
  have F := fx.toS.tr f1
  have mt1 := (mt.f fx).fs f1
  have fin : ∀ a : Int32, a.toInt = v → WP ((d + 6), 224, 0, [some (.ref 71), some (.int a)], [], (xSH L dr tl, I1, J)) (fun v M => ∃ (I12 : Nat → Nat → Int32) (J12 : Nat → Nat → Int64), v = none ∧ M = (xSH L dr tl, I12, J12) ∧ Q none (xSH L dr tl, I12, J12)) := by
    intro a ha
    cases hx : sumO t k (adv t x.1) with
    | error e =>
      rw [hx] at g1 E
      have z1 : ME 1598 e I1 := g1
      refine m_codeE z1 (by decide) fun I2 f2 z2 => K I2 (F.tr f2) ?_
      rw [E]; exact z2
    | ok y =>
      rw [hx] at g1 E
      have g1' : MG t y.1 (c ++ x.2 ++ y.2) w o I1 := g1
      have l := len_sumO k _ y.1 y.2 (adv_n hs) hx
      have l2 : (c ++ x.2 ++ y.2).length = (c ++ x.2).length + y.2.length := List.length_append
      refine m_code mt1 g1' (by omega) ha fun I2 f2 g2 _ => K I2 (F.tr f2) ?_
      rw [E]
      have q : c ++ (x.2 ++ y.2 ++ [v]) = c ++ x.2 ++ y.2 ++ [v] := by simp only [List.append_assoc]
      show MG t y.1 (c ++ (x.2 ++ y.2 ++ [v])) w o I2
      rw [q]; exact g2
  rcases rm with ⟨q1, q2⟩ | ⟨q1, q2, q3⟩ | ⟨q1, q2, q3⟩
  · exact hit q1 (fin 11 (by rw [q2]; rfl))
  · exact sk q1 (hit q2 (fin 12 (by rw [q3]; rfl)))
  · exact sk q1 (sk q2 (fin 13 (by rw [q3]; rfl)))
theorem m_fact (mt : MT t I) (wa : WA I) (h : MG t s c w o I) (hk : o + k = 6) (h0 : hdN (fun v => ¬ (1 ≤ v ∧ v ≤ 4)) w) (K : ∀ I1 : Nat → Nat → Int32, frS I I1 → MGE t (ftF t k s) c w o 1599 I1 → R I1 J) : WP ((d + 7), 234, 0, [some (.ref 71), none], [], (xSH L dr tl, I, J)) (fun v M => ∃ (I2 : Nat → Nat → Int32) (J2 : Nat → Nat → Int64), v = none ∧ M = (xSH L dr tl, I2, J2) ∧ R I2 J2) := by
  have hs := h.1.1
  have h5 := h.2.2.2.2
  have t60 : (60 : Int32).toInt = 60 := rfl
  have t61 : (61 : Int32).toInt = 61 := rfl
  have t62 : (62 : Int32).toInt = 62 := rfl
  refine w234_0 (m_takes (k := 13) (by decide) mt wa h.1 (fun e I1 f1 r1 => br1 ?_) (fun e I1 f1 g1 => br0 ?_))
  · have gt := adv_gt (ow_0 (t := t) (s := s) (by omega))
    have E : ftF t k s = .ok (adv t s, [17]) := if_pos e
    rw [E] at K
    exact m_code (mt.f f1) (h.fx f1 r1 (adv_ge hs)) (by omega) (v := 17) rfl fun I2 f2 g2 _ => ⟨I2, J, rfl, rfl, K I2 (f1.toS.tr f2) g2⟩
  · have E : ftF t k s = bnd (sumO t k s) fun x => cmpA t (sumO t k) x := if_neg e
    have h1 := h.fx f1 g1.toR (Nat.le_refl _)
    refine m_sums (mt.f f1) (wa.f f1) h1 hk h0 fun I2 f2 g2 => ?_
    have F2 := f1.toS.tr f2
    have mt2 := mt.fs F2
    have wa2 := wa.fs F2
    cases hx : sumO t k s with
    | error e =>
      rw [hx] at g2 E
      have z2 : ME 1598 e I2 := g2
      refine sk z2.1.n0 ⟨I2, J, rfl, rfl, K I2 F2 ?_⟩
      rw [E]; exact z2.up (by decide)
    | ok x =>
      rw [hx] at g2 E
      have E' : ftF t k s = cmpA t (sumO t k) x := E
      have g2' : MG t x.1 (c ++ x.2) w o I2 := g2
      refine hit (eq0.mpr g2'.1.2.2.2) (m_look mt2 g2'.1 fun r5 I3 f3 g3 e3 => ?_)
      have h3 := g2'.fx f3 g3.toR (Nat.le_refl _)
      have F3 := F2.tr f3.toS
      have mt3 := mt.fs F3
      have wa3 := wa.fs F3
      refine brz (p := r5 = 60) Iff.rfl (fun y => ?_) (fun y => brz (p := r5 = 62) Iff.rfl (fun y2 => ?_) (fun y2 => brz (p := r5 = 61) Iff.rfl (fun y3 => ?_) (fun y3 => ?_)))
      · have mk : isMk t 60 x.1 := (tb_mk mk60).mp (by rw [← e3, y]; rfl)
        exact cmpT (v := 11) (Q := fun v M => ∃ (I2 : Nat → Nat → Int32) (J2 : Nat → Nat → Int64), v = none ∧ M = (xSH L dr tl, I2, J2) ∧ R I2 J2) mt3 wa3 h3 g3.2.1 mk hk h0 (Or.inl ⟨y, rfl⟩) (fun I4 f4 g4 => ⟨I4, J, rfl, rfl, K I4 (F3.tr f4) (by rw [E', show cmpA t (sumO t k) x = cmpF t (sumO t k) x 11 from if_pos mk]; exact g4)⟩)
      · have mk : isMk t 62 x.1 := (tb_mk mk62).mp (by rw [← e3, y2]; rfl)
        have n1 : ¬ isMk t 60 x.1 := isMk_x mk (by decide)
        exact cmpT (v := 12) (Q := fun v M => ∃ (I2 : Nat → Nat → Int32) (J2 : Nat → Nat → Int64), v = none ∧ M = (xSH L dr tl, I2, J2) ∧ R I2 J2) mt3 wa3 h3 g3.2.1 mk hk h0 (Or.inr (Or.inl ⟨y, y2, rfl⟩)) (fun I4 f4 g4 => ⟨I4, J, rfl, rfl, K I4 (F3.tr f4) (by rw [E', show cmpA t (sumO t k) x = cmpF t (sumO t k) x 12 by unfold cmpA; rw [if_neg n1, if_pos mk]]; exact g4)⟩)
      · have mk : isMk t 61 x.1 := (tb_mk mk61).mp (by rw [← e3, y3]; rfl)
        have n1 : ¬ isMk t 60 x.1 := isMk_x mk (by decide)
        have n2 : ¬ isMk t 62 x.1 := isMk_x mk (by decide)
        exact cmpT (v := 13) (Q := fun v M => ∃ (I2 : Nat → Nat → Int32) (J2 : Nat → Nat → Int64), v = none ∧ M = (xSH L dr tl, I2, J2) ∧ R I2 J2) mt3 wa3 h3 g3.2.1 mk hk h0 (Or.inr (Or.inr ⟨y, y2, rfl⟩)) (fun I4 f4 g4 => ⟨I4, J, rfl, rfl, K I4 (F3.tr f4) (by rw [E', show cmpA t (sumO t k) x = cmpF t (sumO t k) x 13 by unfold cmpA; rw [if_neg n1, if_neg n2, if_pos mk]]; exact g4)⟩)
      · have n1 : ¬ isMk t 60 x.1 := fun z => y (eq_ti.mpr (by rw [e3, (tb_mk mk60).mpr z]; rfl))
        have n2 : ¬ isMk t 62 x.1 := fun z => y2 (eq_ti.mpr (by rw [e3, (tb_mk mk62).mpr z]; rfl))
        have n3 : ¬ isMk t 61 x.1 := fun z => y3 (eq_ti.mpr (by rw [e3, (tb_mk mk61).mpr z]; rfl))
        refine m_fail0 (k := 1) g3.2.2.2 rfl (by decide) g3.2.1 fun I4 f4 g4 => ⟨I4, J, rfl, rfl, K I4 (F3.tr f4.toS) ?_⟩
        rw [E', show cmpA t (sumO t k) x = .error (1, (qq t x.1 : Int)) by unfold cmpA; rw [if_neg n1, if_neg n2, if_neg n3]]
        exact (h3.err mt3 f4 g4).up (by decide)
/-- something opened is closed and dropped -/
theorem m_dropO (mt : MT t I) (h : MG t s c (v :: w) o I) (K : ∀ I1 : Nat → Nat → Int32, frS I I1 → MG t s (c ++ [v]) w (o - 1) I1 → R I1 J) : WP ((d + 2), 227, 0, [some (.ref 71)], [], (xSH L dr tl, xwI I 71 47 (I 71 47 - 1), J)) (fun v M => ∃ (I2 : Nat → Nat → Int32) (J2 : Nat → Nat → Int64), v = none ∧ M = (xSH L dr tl, I2, J2) ∧ R I2 J2) := by
  obtain ⟨h1, h2, h3, h4, h5⟩ := h
  have n := mt.1.1
  have hs := h1.1
  have h5' : c.length + (w.length + 1) + 3 ≤ s.1 := h5
  have hl : (I 71 46).toInt = ((w.length + 1 : Nat) : Int) := h3.1
  have e1 : (I 71 46 - 1).toInt = w.length := by rw [sub1 (by omega), hl]; omega
  have xi : xIx (I 71 46 - 1) = w.length := by rw [xIx_ti, e1]; exact Int.toNat_natCast _
  have ez : (0 + I 71 44).toInt = c.length := by rw [z0add, h2.1]
  have xz : xIx (0 + I 71 44) = c.length := by rw [xIx_ti, ez]; exact Int.toNat_natCast _
  have ev : (I 104 (xIx (I 71 46 - 1))).toInt = v := by rw [xi]; exact h3.2.1
  have e47 : (I 71 47 - 1).toInt = o - 1 := by rw [sub1 (by rw [h4.1]; omega), h4.1]
  refine w227_0 ⟨by show xin (I 71 46 - 1) 1700 = true; rw [xin_iff, e1]; omega, w224_0 ⟨by show xin (0 + I 71 44) 3200 = true; rw [xin_iff, ez]; omega, ⟨_, J, rfl, rfl, _, J, rfl, rfl, K _ ?_ ⟨h1, ⟨?_, fun j hj => ?_⟩, ⟨e1, h3.2.2⟩, ⟨e47, ?_, by omega⟩, ?_⟩⟩⟩⟩
  · refine ((frS_w (by decide)).tr (frS_w (by decide))).tr ((frS_103 ?_).tr (frS_w (by decide)))
    show xIx (0 + I 71 44) < 1600
    rw [xz]; omega
  · show (I 71 44 + 1).toInt = _
    rw [add1 (by rw [h2.1]; omega) (by rw [h2.1]; omega), h2.1, List.length_append]; rfl
  · rw [List.length_append] at hj
    have hj' : j < c.length + 1 := hj
    show ((xwI (xwI (xwI I 71 47 (I 71 47 - 1)) 71 46 (I 71 46 - 1)) 103 (xIx (0 + I 71 44)) (I 104 (xIx (I 71 46 - 1)))) 103 j).toInt = _
    rw [xz]
    by_cases e : j = c.length
    · rw [e, xg, ev, gd_r]
    · rw [xgn e, gd_l (by omega)]; exact h2.2 j (by omega)
  · rw [List.length_append]
    show (0 : Int) ≤ o - 1 + s.1 + ((c.length + 1 : Nat) : Int)
    have := h4.2.1
    omega
  · rw [List.length_append]
    show c.length + 1 + w.length + 3 ≤ s.1
    omega
theorem m_dropsN : ∀ (w c : List Int) (o : Int) (I : Nat → Nat → Int32), MT t I → MG t s c w o I → (∀ I1 : Nat → Nat → Int32, frS I I1 → MG t s (c ++ dnN w) (dnR w) (o - (dnN w).length) I1 → R I1 J) → WP ((d + 3), 236, 0, [some (.ref 71)], [], (xSH L dr tl, I, J)) (fun v M => ∃ (I2 : Nat → Nat → Int32) (J2 : Nat → Nat → Int64), v = none ∧ M = (xSH L dr tl, I2, J2) ∧ R I2 J2) := by
  intro w
  induction w with
  | nil =>
    intro c o I mt h K
    refine w236_0 (hit (eq0.mpr h.1.2.2.2) ((m_isOn (v := 16) h.2.2.1 (h.len mt) rfl).u (fun z => ?_) (fun _ => br0 ⟨I, J, rfl, rfl, K I frS_refl ?_⟩)))
    · obtain ⟨r, e⟩ := z; cases e
    · show MG t s (c ++ []) [] (o - ((0 : Nat) : Int)) I
      rw [List.append_nil, show o - ((0 : Nat) : Int) = o by omega]; exact h
  | cons u w ih =>
    intro c o I mt h K
    by_cases e : u = 16
    · subst e
      have E1 : dnN (16 :: w) = 16 :: dnN w := if_pos rfl
      have E2 : dnR (16 :: w) = dnR w := if_pos rfl
      rw [E1, E2] at K
      refine w236_0 (hit (eq0.mpr h.1.2.2.2) ((m_isOn (v := 16) h.2.2.1 (h.len mt) rfl).u (fun _ => br1 (m_dropO mt h fun I1 f1 g1 => ih (c ++ [16]) (o - 1) I1 (mt.fs f1) g1 fun I2 f2 g2 => K I2 (f1.tr f2) ?_)) (fun z => absurd ⟨w, rfl⟩ z)))
      have q : c ++ 16 :: dnN w = c ++ [16] ++ dnN w := by simp
      have q2 : o - ((16 :: dnN w).length : Int) = o - 1 - ((dnN w).length : Int) := by
        have : ((16 :: dnN w).length : Int) = (dnN w).length + 1 := rfl
        omega
      rw [q, q2]; exact g2
    · have E1 : dnN (u :: w) = [] := if_neg e
      have E2 : dnR (u :: w) = u :: w := if_neg e
      rw [E1, E2] at K
      refine w236_0 (hit (eq0.mpr h.1.2.2.2) ((m_isOn (v := 16) h.2.2.1 (h.len mt) rfl).u (fun z => ?_) (fun _ => br0 ⟨I, J, rfl, rfl, K I frS_refl ?_⟩)))
      · obtain ⟨r, e'⟩ := z; cases e'; exact absurd rfl e
      · show MG t s (c ++ []) (u :: w) (o - ((0 : Nat) : Int)) I
        rw [List.append_nil, show o - ((0 : Nat) : Int) = o by omega]; exact h
theorem gt_87 (room : (c ++ a).length + r0.length + 4 ≤ s.1) (hr : hdN (fun v => v ≠ 14) r0) (K : ∀ I1 : Nat → Nat → Int32, frS I0 I1 → MG t s (c ++ a) (14 :: r0) o I1 → Q (some (.int 1)) (xSH L dr tl, I1, J)) : ∀ (a' c' : List Int) (I : Nat → Nat → Int32), c' ++ a' = c ++ a → op4 a' → MT t I → frS I0 I → MG t s c' (a' ++ r0) o I → WP ((d + 8), 238, 87, [some (.ref 71)], [], (xSH L dr tl, I, J)) Q := by
  intro a'
  induction a' with
  | nil =>
    intro c' I hc ha mt f0 h
    rw [List.append_nil] at hc
    have h' : MG t s c' r0 o I := h
    refine w238_87 ((m_isOn (v := 14) h'.2.2.1 (h'.len mt) rfl).u (fun z => ?_) (fun _ => br0 ?_))
    · obtain ⟨r, e⟩ := z
      rcases hr with z | ⟨v, r', z1, z2⟩
      · rw [z] at e; cases e
      · rw [z1] at e; cases e; exact absurd rfl z2
    · obtain ⟨p1, p2, p3⟩ := m_push (a1 := 14) (v := 14) mt h' (by rw [hc]; exact room) rfl
      refine ⟨p1, K _ (f0.tr p3) ?_⟩
      rw [← hc]; exact p2
  | cons u a' ih =>
    intro c' I hc ha mt f0 h
    have hu := ha u (by simp)
    subst hu
    have h' : MG t s c' (14 :: (a' ++ r0)) o I := h
    exact w238_87 ((m_isOn (v := 14) h'.2.2.1 (h'.len mt) rfl).u (fun _ => br1 (m_drops mt h' fun I1 f1 g1 _ => ih (c' ++ [14]) I1 (by rw [← hc, List.append_assoc]; rfl) (fun x hx => ha x (by simp [hx])) (mt.fs f1) (f0.tr f1) g1)) (fun z => absurd ⟨_, rfl⟩ z))
theorem gt_137 (room : (c ++ a).length + r0.length + 4 ≤ s.1) (hr : hdN (fun v => v = 25) r0) (K : ∀ I1 : Nat → Nat → Int32, frS I0 I1 → MG t s (c ++ a) (15 :: r0) o I1 → Q (some (.int 1)) (xSH L dr tl, I1, J)) : ∀ (a' c' : List Int) (I : Nat → Nat → Int32), c' ++ a' = c ++ a → opT a' → MT t I → frS I0 I → MG t s c' (a' ++ r0) o I → WP ((d + 8), 238, 137, [some (.ref 71)], [], (xSH L dr tl, I, J)) Q := by
  intro a'
  induction a' with
  | nil =>
    intro c' I hc ha mt f0 h
    rw [List.append_nil] at hc
    have h' : MG t s c' r0 o I := h
    have no : ∀ k : Int, k = 14 ∨ k = 15 → ¬ ∃ r : List Int, r0 = k :: r := by
      rintro k hk ⟨r, e⟩
      rcases hr with z | ⟨v, r', z1, z2⟩
      · rw [z] at e; cases e
      · rw [z1] at e; cases e; omega
    refine w238_137 ((m_isOn (v := 14) h'.2.2.1 (h'.len mt) rfl).u (fun z => absurd z (no 14 (by omega))) (fun _ => br0 ((m_isOn (v := 15) h'.2.2.1 (h'.len mt) rfl).u (fun z => absurd z (no 15 (by omega))) (fun _ => br0 ?_))))
    obtain ⟨p1, p2, p3⟩ := m_push (a1 := 15) (v := 15) mt h' (by rw [hc]; exact room) rfl
    refine ⟨p1, K _ (f0.tr p3) ?_⟩
    rw [← hc]; exact p2
  | cons u a' ih =>
    intro c' I hc ha mt f0 h
    have hu := ha u (by simp)
    have h' : MG t s c' (u :: (a' ++ r0)) o I := h
    have nx : ∀ I1 : Nat → Nat → Int32, frS I I1 → MG t s (c' ++ [u]) (a' ++ r0) o I1 → I1 71 2 = I 71 2 → WP ((d + 8), 238, 137, [some (.ref 71)], [], (xSH L dr tl, I1, J)) Q := fun I1 f1 g1 _ => ih (c' ++ [u]) I1 (by rw [← hc, List.append_assoc]; rfl) (fun x hx => ha x (by simp [hx])) (mt.fs f1) (f0.tr f1) g1
    refine w238_137 ((m_isOn (v := 14) h'.2.2.1 (h'.len mt) rfl).u (fun z => br1 (m_drops mt h' nx)) (fun z => br0 ((m_isOn (v := 15) h'.2.2.1 (h'.len mt) rfl).u (fun z => br1 (m_drops mt h' nx)) (fun z4 => ?_))))
    exfalso
    rcases hu with rfl | rfl
    · exact z ⟨_, rfl⟩
    · exact z4 ⟨_, rfl⟩
/-- ']': what waits is dropped down to the square -/
theorem gt_33 (K : ∀ I1 : Nat → Nat → Int32, frS I0 I1 → MG t s (c ++ p ++ dnN W) (dnR W) (o - (dnN W).length) I1 → WP ((d + 8), 238, 0, [some (.ref 71)], [], (xSH L dr tl, I1, J)) Q) (hb : 0 ≤ o + s.1 + c.length) : ∀ (p' c' : List Int) (I : Nat → Nat → Int32), c' ++ p' = c ++ p → opT p' → MT t I → frS I0 I → MG t s c' (p' ++ 25 :: W) (o + 1) I → WP ((d + 8), 238, 33, [some (.ref 71)], [], (xSH L dr tl, I, J)) Q := by
  intro p'
  induction p' with
  | nil =>
    intro c' I hc hp mt f0 h
    rw [List.append_nil] at hc
    have h' : MG t s c' (25 :: W) (o + 1) I := h
    obtain ⟨h1, h2, h3, h4, h5⟩ := id h'
    have n := mt.1.1
    have hs := h1.1
    have h5' : c'.length + (W.length + 1) + 3 ≤ s.1 := h5
    have hl : (I 71 46).toInt = ((W.length + 1 : Nat) : Int) := h3.1
    have e1 : (I 71 46 - 1).toInt = W.length := by rw [sub1 (by omega), hl]; omega
    have lc : c.length ≤ c'.length := by rw [hc, List.length_append]; omega
    have e47 : (I 71 47 - 1).toInt = o := by rw [sub1 (by rw [h4.1]; omega), h4.1]; omega
    have F : frS I (xwI (xwI I 71 46 (I 71 46 - 1)) 71 47 ((xwI I 71 46 (I 71 46 - 1)) 71 47 - 1)) := (frS_w (by decide)).tr (frS_w (by decide))
    have g : MG t s c' W o (xwI (xwI I 71 46 (I 71 46 - 1)) 71 47 ((xwI I 71 46 (I 71 46 - 1)) 71 47 - 1)) := ⟨h1, h2, ⟨e1, h3.2.2⟩, ⟨e47, by omega, by omega⟩, by omega⟩
    refine w238_33 ((m_isOn (v := 25) h3 (h'.len mt) rfl).u (fun _ => br1 (m_dropsN W c' o _ (mt.fs F) g fun I1 f1 g1 => K I1 ((f0.tr F).tr f1) ?_)) (fun z => absurd ⟨W, rfl⟩ z))
    rw [← hc]; exact g1
  | cons u p' ih =>
    intro c' I hc hp mt f0 h
    have hu := hp u (by simp)
    have h' : MG t s c' (u :: (p' ++ 25 :: W)) (o + 1) I := h
    refine w238_33 ((m_isOn (v := 25) h'.2.2.1 (h'.len mt) rfl).u (fun z => ?_) (fun _ => br0 (m_drops mt h' fun I1 f1 g1 _ => ih (c' ++ [u]) I1 (by rw [← hc, List.append_assoc]; rfl) (fun x hx => hp x (by simp [hx])) (mt.fs f1) (f0.tr f1) g1)))
    obtain ⟨r, e⟩ := z
    cases e
    omega
theorem gt_chain (mt : MT t I) (wa : WA I) (h : MG t s c w o I) (KA : ow t s = 11 → ∀ I1 : Nat → Nat → Int32, frS I I1 → MG t (adv t s) c w o I1 → WP ((d + 8), 238, 87, [some (.ref 71)], [], (xSH L dr tl, I1, J)) Q) (KO : ow t s = 10 → ∀ I1 : Nat → Nat → Int32, frS I I1 → MG t (adv t s) c w o I1 → WP ((d + 8), 238, 137, [some (.ref 71)], [], (xSH L dr tl, I1, J)) Q) (KS : noAO t s → 25 ∈ w → ∀ I1 : Nat → Nat → Int32, frS I I1 → ME 1597 (1, (qq t s : Int)) I1 → Q (some (.int 0)) (xSH L dr tl, I1, J)) (KF : noAO t s → ¬ 25 ∈ w → ∀ I1 : Nat → Nat → Int32, frS I I1 → MG t s c w o I1 → Q (some (.int 0)) (xSH L dr tl, I1, J)) : WP ((d + 7), 204, 0, [some (.ref 71), some (.ref 84)], [], (xSH L dr tl, I, J)) (fun v M => ∃ (r12 : Int32) (I12 : Nat → Nat → Int32) (J12 : Nat → Nat → Int64), v = some (.int r12) ∧ M = (xSH L dr tl, I12, J12) ∧ ((r12 = 0 → WP ((d + 7), 204, 0, [some (.ref 71), some (.ref 83)], [], (xSH L dr tl, I12, J12)) (fun v M => ∃ (r14 : Int32) (I14 : Nat → Nat → Int32) (J14 : Nat → Nat → Int64), v = some (.int r14) ∧ M = (xSH L dr tl, I14, J14) ∧ ((r14 = 0 → (((I14 71 5) = 0 → WP ((d + 7), 235, 0, [some (.ref 71), none], [], (xSH L dr tl, I14, J14)) (fun v M => ∃ (r17 : Int32) (I17 : Nat → Nat → Int32) (J17 : Nat → Nat → Int64), v = some (.int r17) ∧ M = (xSH L dr tl, I17, J17) ∧ ((r17 = 0 → Q (some (.int 0)) (xSH L dr tl, I17, J17)) ∧ (¬ r17 = 0 → WP ((d + 7), 199, 0, [some (.ref 71), some (.int 1), some (.int (I17 71 2))], [], (xSH L dr tl, I17, J17)) (fun v M => ∃ (I19 : Nat → Nat → Int32) (J19 : Nat → Nat → Int64), v = none ∧ M = (xSH L dr tl, I19, J19) ∧ Q (some (.int 0)) (xSH L dr tl, I19, J19)))))) ∧ (¬ (I14 71 5) = 0 → Q (some (.int 0)) (xSH L dr tl, I14, J14)))) ∧ (¬ r14 = 0 → WP ((d + 8), 238, 137, [some (.ref 71)], [], (xSH L dr tl, I14, J14)) Q)))) ∧ (¬ r12 = 0 → WP ((d + 8), 238, 87, [some (.ref 71)], [], (xSH L dr tl, I12, J12)) Q))) := by
  have hs := h.1.1
  refine m_takes (k := 11) (by decide) mt wa h.1 (fun e I1 f1 r1 => br1 (KA e I1 f1.toS (h.fx f1 r1 (adv_ge hs)))) (fun e I1 f1 g1 => br0 ?_)
  have h1 := h.fx f1 g1.toR (Nat.le_refl _)
  refine m_takes (k := 10) (by decide) (mt.f f1) (wa.f f1) g1.toR (fun e2 I2 f2 r2 => br1 (KO e2 I2 (f1.tr f2).toS (h1.fx f2 r2 (adv_ge hs)))) (fun e2 I2 f2 g2 => br0 ?_)
  have h2 := h1.fx f2 g2.toR (Nat.le_refl _)
  have f12 := f1.tr f2
  have no : noAO t s := ⟨e, e2⟩
  refine hit (eq0.mpr g2.2.2.2) ((m_hasSq h2.2.2.1 (h2.len (mt.f f12))).u (fun z => br1 (m_fail0 (k := 1) g2.2.2.2 rfl (by decide) g2.2.1 fun I3 f3 g3 => KS no z I3 (f12.tr f3).toS (h2.err (mt.f f12) f3 g3))) (fun z => br0 (KF no z I2 f12.toS h2)))
end MTEST
