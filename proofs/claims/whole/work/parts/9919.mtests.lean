/-! ===== book: the reference's tests, whole ===== -/
section MTEST2
variable {t : Tp} {L d dr tl : Nat} {I I0 I1 I2 Ib : Nat → Nat → Int32} {J : Nat → Nat → Int64} {a0 a1 a2 a3 a4 : Int32} {s s1 : Lx} {v o B : Int} {R : (Nat → Nat → Int32) → (Nat → Nat → Int64) → Prop} {Q : Option Value → xMem → Prop} {c w w0 l p a W r0 : List Int} {e : Int × Int} {k : Nat}
theorem dn_no (h : hdN (fun v => v ≠ 16) w) : dnN w = [] ∧ dnR w = w := by
  rcases h with rfl | ⟨v, r, rfl, hv⟩
  · exact ⟨rfl, rfl⟩
  · exact ⟨if_neg hv, if_neg hv⟩
theorem hd_app {P : Int → Prop} {a R : List Int} (h : ∀ v, v ∈ a → P v) (hR : hdN P R) : hdN P (a ++ R) := by
  cases a with
  | nil => exact hR
  | cons u a => exact Or.inr ⟨u, a ++ R, rfl, h u (by simp)⟩
theorem Za_no (hd : hdN (fun v => v ≠ 16) w) (h : MG t s (c ++ dnN w) (dnR w) (o - (dnN w).length) I) : MG t s c w o I := by
  obtain ⟨e1, e2⟩ := dn_no hd
  rw [e1, e2, List.append_nil] at h
  have e : o - ((([] : List Int).length : Nat) : Int) = o := by show o - ((0 : Nat) : Int) = o; omega
  rw [e] at h
  exact h
theorem test_drop (K : ∀ I1 : Nat → Nat → Int32, frS I0 I1 → MG t s (c ++ p) [] o I1 → Q none (xSH L dr tl, I1, J)) : ∀ (p' c' : List Int) (I : Nat → Nat → Int32), c' ++ p' = c ++ p → MT t I → frS I0 I → MG t s c' p' o I → WP ((d + 9), 237, 110, [some (.ref 71), none, none], [], (xSH L dr tl, I, J)) Q := by
  intro p'
  induction p' with
  | nil =>
    intro c' I hc mt f0 h
    rw [List.append_nil] at hc
    have hw : (I 71 46).toInt = 0 := h.2.2.1.1
    refine w237_110 (hit (eq0.mpr h.1.2.2.2) (sk (fun z => by rw [gt0] at z; omega) (K I f0 ?_)))
    rw [← hc]; exact h
  | cons u p' ih =>
    intro c' I hc mt f0 h
    have hw : (I 71 46).toInt = ((p'.length + 1 : Nat) : Int) := h.2.2.1.1
    exact w237_110 (hit (eq0.mpr h.1.2.2.2) (hit (gt0.mpr (by omega)) (m_drops mt h fun I1 f1 g1 _ => ih (c' ++ [u]) I1 (by rw [← hc, List.append_assoc]; rfl) (mt.fs f1) (f0.tr f1) g1)))
theorem m_test (mt0 : MT t I0) (wa0 : WA I0) (h0 : MG t s c [] 0 I0) (K : ∀ I1 : Nat → Nat → Int32, frS I0 I1 → MGE t (testF t (factO t 6) s) c [] 0 1599 I1 → R I1 J) : WP ((d + 9), 237, 0, [some (.ref 71), none, none], [], (xSH L dr tl, I0, J)) (fun v M => ∃ (I2 : Nat → Nat → Int32) (J2 : Nat → Nat → Int64), v = none ∧ M = (xSH L dr tl, I2, J2) ∧ R I2 J2) := by
  have n1600 := mt0.1.1
  have t91 : (91 : Int32).toInt = 91 := rfl
  have t93 : (93 : Int32).toInt = 93 := rfl
  let QF : Option Value → xMem → Prop := fun v M => ∃ (I2 : Nat → Nat → Int32) (J2 : Nat → Nat → Int64), v = none ∧ M = (xSH L dr tl, I2, J2) ∧ R I2 J2
  let Q10 : Option Value → xMem → Prop := fun v M => ∃ (r10 : Int32) (I10 : Nat → Nat → Int32) (J10 : Nat → Nat → Int64), v = some (.int r10) ∧ M = (xSH L dr tl, I10, J10) ∧ ((r10 = 0 → WP ((d + 9), 237, 2, [some (.ref 71), some (.int 0), none], [], (xSH L dr tl, I10, J10)) QF) ∧ (¬ r10 = 0 → WP ((d + 9), 237, 2, [some (.ref 71), some (.int 1), none], [], (xSH L dr tl, I10, J10)) QF))
  let Zw : ZT := fun s c w o => (∀ v, v ∈ w → 14 ≤ v) → ∀ I : Nat → Nat → Int32, frS I0 I → MG t s c w o I → WP ((d + 9), 237, 2, [some (.ref 71), some (.int 1), none], [], (xSH L dr tl, I, J)) QF
  let Za : ZT := fun s c w o => (∀ v, v ∈ w → 14 ≤ v) → ∀ I : Nat → Nat → Int32, frS I0 I → MG t s (c ++ dnN w) (dnR w) (o - (dnN w).length) I → WP ((d + 8), 238, 0, [some (.ref 71)], [], (xSH L dr tl, I, J)) Q10
  let E : Int × Int → Prop := fun e => ∀ I : Nat → Nat → Int32, frS I0 I → ME 1599 e I → R I J
  have bad : ∀ e : Int × Int, E e → ∀ I : Nat → Nat → Int32, frS I0 I → ME 1599 e I → WP ((d + 9), 237, 2, [some (.ref 71), some (.int 0), none], [], (xSH L dr tl, I, J)) QF := fun e he I f z => w237_2 (hit rfl (w237_110 (sk z.1.n0 ⟨I, J, rfl, rfl, he I f z⟩)))
  have bad1 : ∀ e : Int × Int, E e → ∀ I : Nat → Nat → Int32, frS I0 I → ME 1599 e I → WP ((d + 9), 237, 2, [some (.ref 71), some (.int 1), none], [], (xSH L dr tl, I, J)) QF := fun e he I f z => w237_2 (sk (by decide) (sk z.1.n0 (w237_110 (sk z.1.n0 ⟨I, J, rfl, rfl, he I f z⟩))))
  -- a fact without 'not' and '['
  have plain : ∀ (s : Lx) (c w : List Int) (o : Int) (k : Nat), o + k = 6 → ¬ isMk t 91 s → ow t s ≠ 12 → OKR (ftF t k s) (fun s' y => Za s' (c ++ y) w o) E → Zw s c w o := by
    intro s c w o k hk nm n12 hK al I f h
    have mt := mt0.fs f
    have wa := wa0.fs f
    have hw : hdN (fun v => ¬ (1 ≤ v ∧ v ≤ 4)) w := by
      cases w with
      | nil => exact Or.inl rfl
      | cons u r => exact Or.inr ⟨u, r, rfl, by have := al u (by simp); omega⟩
    refine w237_2 (sk (by decide) (hit (eq0.mpr h.1.2.2.2) (m_look mt h.1 fun r I1 f1 g1 e1 => sk (fun y => nm ((tb_mk mk91).mp (by rw [← e1, y]; rfl))) (m_isHere (k := 12) (by decide) (mt.f f1) (wa.f f1) g1.toR (fun e => absurd e n12) (fun _ I2 f2 g2 => br0 ?_)))))
    have F2 := f1.tr f2
    refine m_fact (d := d + 1) (k := k) (mt.f F2) (wa.f F2) (h.fx F2 g2.toR (Nat.le_refl _)) hk hw fun I3 f3 g3 => ?_
    have F3 := (f.tr F2.toS).tr f3
    cases hx : ftF t k s with
    | error e =>
      rw [hx] at g3 hK
      have z3 : ME 1599 e I3 := g3
      exact w236_0 (sk z3.1.n0 ⟨I3, J, rfl, rfl, sk z3.1.n0 (bad e hK I3 F3 z3)⟩)
    | ok y =>
      rw [hx] at g3 hK
      have g3' : MG t y.1 (c ++ y.2) w o I3 := g3
      exact m_dropsN (d := d + 5) w (c ++ y.2) o I3 (mt0.fs F3) g3' fun I4 f4 g4 => hit (eq0.mpr g4.1.2.2.2) (hK al I4 (F3.tr f4) g4)
  have yt : SYt t Zw Za E := by
    refine ⟨fun s c w o hs mk k1 k0 al I f h => ?_, fun s c w o hs ew k1 k0 al I f h => ?_, fun s c w o hs ew hz al I f h => ?_, fun s c w o k hs hk nm n12 n13 hz => ?_⟩
    · have mt := mt0.fs f
      have h5 := h.2.2.2.2
      have gt := adv_gt (isMk_0 mk)
      refine w237_2 (sk (by decide) (hit (eq0.mpr h.1.2.2.2) (m_look mt h.1 fun r I1 f1 g1 e1 => hit (eq_ti.mpr (by rw [e1, (tb_mk mk91).mpr mk]; rfl)) (m_opens (s' := adv t s) (mt.f f1) (h.fx f1 g1.toR (Nat.le_refl _)) (by omega) (by omega) (v := 25) rfl g1.2.1 (fun lt I2 f2 r2 c2 w2 o2 z2 => ?_) (fun lt I2 f2 z2 => ?_)))))
      · refine k1 lt (fun v hv => ?_) _ ((f.tr f1.toS).tr (f2.tr (frS_w (by decide)))) ⟨mqx_zstep (mt.f f1) g1 mk (fun j hj => z2 j (by omega) (by omega)), c2, w2, ?_, by show c.length + (w.length + 1) + 3 ≤ _; omega⟩
        · rcases List.mem_cons.mp hv with u | u
          · omega
          · exact al v u
        · have := h.2.2.2.1
          exact ⟨o2, by omega, by omega⟩
      · have z3 : ME 1597 (4, (qq t s : Int)) (xwI I2 71 2 (I2 71 2 + 1)) := z2
        exact bad1 _ (k0 lt) _ ((f.tr f1.toS).tr (f2.toS.tr (frS_w (by decide)))) (z3.up (by decide))
    · have mt := mt0.fs f
      have wa := wa0.fs f
      have h5 := h.2.2.2.2
      have k2 := ow_2 (t := t) (s := s) (by omega)
      have gt := adv_gt (ow_0 (t := t) (s := s) (by omega))
      have nm : ¬ isMk t 91 s := fun z => by have := z.1; omega
      refine w237_2 (sk (by decide) (hit (eq0.mpr h.1.2.2.2) (m_look mt h.1 fun r I1 f1 g1 e1 => sk (fun y => nm ((tb_mk mk91).mp (by rw [← e1, y]; rfl))) (m_isHere (k := 12) (by decide) (mt.f f1) (wa.f f1) g1.toR (fun _ I2 f2 g2 => br1 ?_) (fun e => absurd ew e)))))
      have F2 := f1.tr f2
      have E12 : bnd (.ok s) (owF t 12) = .ok (adv t s) := if_pos ew
      refine m_opens (s' := adv t s) (mt.f F2) (h.fx F2 g2.toR (Nat.le_refl _)) (by omega) (by omega) (v := 16) rfl g2.2.1 (fun lt I3 f3 r3 c3 w3 o3 z3 => ?_) (fun lt I3 f3 z3 => ?_)
      · refine m_asks (k := 12) (x := .ok s) (by decide) ((mt.f F2).fs f3) ((wa.f F2).fs f3) r3 fun I4 f4 g4 => ?_
        have g4' : MX t (bnd (.ok s) (owF t 12)) I4 := g4
        rw [E12] at g4'
        refine k1 lt (fun v hv => ?_) I4 (((f.tr F2.toS).tr f3).tr f4.toS) ⟨g4', ?_, ?_, ?_, by show c.length + (w.length + 1) + 3 ≤ _; omega⟩
        · rcases List.mem_cons.mp hv with u | u
          · omega
          · exact al v u
        · unfold MC at *; rw [f4.1 103 (by decide), f4.2 44 (by decide) (by decide) (by decide) (by decide) (by decide)]; exact c3
        · unfold MWt at *; rw [f4.1 104 (by decide), f4.2 46 (by decide) (by decide) (by decide) (by decide) (by decide)]; exact w3
        · rw [f4.2 47 (by decide) (by decide) (by decide) (by decide) (by decide)]
          have := h.2.2.2.1
          exact ⟨o3, by omega, by omega⟩
      · refine m_asks (k := 12) (x := .error (4, (qq t s : Int))) (by decide) ((mt.f F2).f f3) ((wa.f F2).f f3) z3.1 fun I4 f4 g4 => ?_
        have z4 : ME 1597 (4, (qq t s : Int)) I4 := z3.fx f4 g4
        exact bad1 _ (k0 lt) I4 (((f.tr F2.toS).tr f3.toS).tr f4.toS) (z4.up (by decide))
    · have k2 := ow_2 (t := t) (s := s) (by omega)
      have nm : ¬ isMk t 91 s := fun z => by have := z.1; omega
      have ho := h.2.2.2.1.2.2
      refine plain s c w o (6 - o).toNat (by omega) nm (by omega) ?_ al I f h
      have e : ftF t (6 - o).toNat s = .ok (adv t s, [17]) := if_pos ew
      rw [e]; exact hz
    · refine plain s c w o k hk nm n12 ?_
      have e : ftF t k s = cmpX t k s := if_neg n13
      rw [e]; exact hz
  have back : ∀ (s : Lx) (c w : List Int) (o : Int), Zw s c w o → (∀ v, v ∈ w → 14 ≤ v) → ∀ I : Nat → Nat → Int32, frS I0 I → MG t s c w o I → Q10 (some (.int 1)) (xSH L dr tl, I, J) := fun s c w o hz al I f g => ⟨1, I, J, rfl, rfl, br1 (hz al I f g)⟩
  have yb : SYb t Zw Za E := by
    refine ⟨fun s c w o hs hz al I f h => ?_, fun s c p W o hs mk hp hz al I f h => ?_, fun s c a R o hs ew ha hR hz al I f h => ?_, fun s c a R o hs ew ha hR hz al I f h => ?_, fun s c p W o hs no nm hp he al I f h => ?_⟩
    · have E1 : dnN (16 :: w) = 16 :: dnN w := if_pos rfl
      have E2 : dnR (16 :: w) = dnR w := if_pos rfl
      rw [E1, E2] at h
      refine hz (fun v hv => al v (by simp [hv])) I f ?_
      have q : c ++ 16 :: dnN w = c ++ [16] ++ dnN w := by simp
      have q2 : o + 1 - ((16 :: dnN w).length : Int) = o - ((dnN w).length : Int) := by
        have : ((16 :: dnN w).length : Int) = (dnN w).length + 1 := rfl
        omega
      rw [q, q2] at h; exact h
    · have h' := Za_no (hd_app (fun v hv => by have := hp v hv; omega) (Or.inr ⟨25, W, rfl, by decide⟩)) h
      have mt := mt0.fs f
      have gt := adv_gt (isMk_0 mk)
      have hb := h'.2.2.2.1.2.1
      refine w238_0 (hit (eq0.mpr h'.1.2.2.2) (m_look mt h'.1 fun r I1 f1 g1 e1 => hit (eq_ti.mpr (by rw [e1, (tb_mk mk93).mpr mk]; rfl)) ?_))
      have h1 := h'.fx f1 g1.toR (Nat.le_refl _)
      have fx : frX I1 (xwI I1 71 2 (I1 71 2 + 1)) := frX_w (by decide)
      have h2 := h1.fx fx (mqx_step (mt.f f1) g1 mk) (by omega)
      refine (m_hasSq h1.2.2.1 (h1.len (mt.f f1))).u (fun _ => br1 ?_) (fun z => absurd (by simp) z)
      have F := (f.tr f1.toS).tr fx.toS
      exact gt_33 (I0 := xwI I1 71 2 (I1 71 2 + 1)) (c := c) (p := p) (W := W) (fun I3 f3 g3 => hz (fun v hv => al v (by simp [hv])) I3 (F.tr f3) g3) (by omega) p c _ rfl hp ((mt.f f1).f fx) frS_refl h2
    · have h' := Za_no (hd_app (fun v hv => by have := ha v hv; omega) (by rcases hR with z | ⟨v, r, z1, z2⟩; exact Or.inl z; exact Or.inr ⟨v, r, z1, by omega⟩)) h
      have mt := mt0.fs f
      have wa := wa0.fs f
      have k2 := ow_2 (t := t) (s := s) (by omega)
      have gt := adv_gt (ow_0 (t := t) (s := s) (by omega))
      have nm : ¬ isMk t 93 s := fun z => by have := z.1; omega
      have len : (a ++ R).length = a.length + R.length := List.length_append
      have len2 : (c ++ a).length = c.length + a.length := List.length_append
      refine w238_0 (hit (eq0.mpr h'.1.2.2.2) (m_look mt h'.1 fun r I1 f1 g1 e1 => sk (fun y => nm ((tb_mk mk93).mp (by rw [← e1, y]; rfl))) ?_))
      have h1 := h'.fx f1 g1.toR (Nat.le_refl _)
      have F := f.tr f1.toS
      have l5 := h1.2.2.2.2
      refine gt_chain (mt.f f1) (wa.f f1) h1 (fun _ I2 f2 g2 => gt_87 (I0 := I2) (c := c) (a := a) (r0 := R) (by rw [len2]; omega) (by rcases hR with z | ⟨v, r, z1, z2⟩; exact Or.inl z; exact Or.inr ⟨v, r, z1, by omega⟩) (fun I3 f3 g3 => back _ _ _ _ hz (fun v hv => ?_) I3 ((F.tr f2).tr f3) g3) a c I2 rfl ha ((mt.f f1).fs f2) frS_refl g2) (fun e => absurd (e.symm.trans ew) (by decide)) (fun no => absurd ew no.1) (fun no => absurd ew no.1)
      rcases List.mem_cons.mp hv with u | u
      · omega
      · exact al v (by simp [u])
    · have h' := Za_no (hd_app (fun v hv => by have := ha v hv; omega) (by rcases hR with z | ⟨v, r, z1, z2⟩; exact Or.inl z; exact Or.inr ⟨v, r, z1, by omega⟩)) h
      have mt := mt0.fs f
      have wa := wa0.fs f
      have k2 := ow_2 (t := t) (s := s) (by omega)
      have gt := adv_gt (ow_0 (t := t) (s := s) (by omega))
      have nm : ¬ isMk t 93 s := fun z => by have := z.1; omega
      have len : (a ++ R).length = a.length + R.length := List.length_append
      have len2 : (c ++ a).length = c.length + a.length := List.length_append
      refine w238_0 (hit (eq0.mpr h'.1.2.2.2) (m_look mt h'.1 fun r I1 f1 g1 e1 => sk (fun y => nm ((tb_mk mk93).mp (by rw [← e1, y]; rfl))) ?_))
      have h1 := h'.fx f1 g1.toR (Nat.le_refl _)
      have F := f.tr f1.toS
      have l5 := h1.2.2.2.2
      refine gt_chain (mt.f f1) (wa.f f1) h1 (fun e => absurd (e.symm.trans ew) (by decide)) (fun _ I2 f2 g2 => gt_137 (I0 := I2) (c := c) (a := a) (r0 := R) (by rw [len2]; omega) hR (fun I3 f3 g3 => back _ _ _ _ hz (fun v hv => ?_) I3 ((F.tr f2).tr f3) g3) a c I2 rfl ha ((mt.f f1).fs f2) frS_refl g2) (fun no => absurd ew no.2) (fun no => absurd ew no.2)
      rcases List.mem_cons.mp hv with u | u
      · omega
      · exact al v (by simp [u])
    · have h' := Za_no (hd_app (fun v hv => by have := hp v hv; omega) (Or.inr ⟨25, W, rfl, by decide⟩)) h
      have mt := mt0.fs f
      have wa := wa0.fs f
      refine w238_0 (hit (eq0.mpr h'.1.2.2.2) (m_look mt h'.1 fun r I1 f1 g1 e1 => sk (fun y => nm ((tb_mk mk93).mp (by rw [← e1, y]; rfl))) ?_))
      have h1 := h'.fx f1 g1.toR (Nat.le_refl _)
      have F := f.tr f1.toS
      exact gt_chain (mt.f f1) (wa.f f1) h1 (fun e => absurd e no.1) (fun e => absurd e no.2) (fun _ _ I2 f2 z2 => ⟨0, I2, J, rfl, rfl, br0 (bad _ he I2 (F.tr f2) (z2.up (by decide)))⟩) (fun _ n => absurd (by simp) n)
  refine w237_0 (testO_sy n1600 yt yb s c [] (Or.inl rfl) h0.1.1 ?_ (fun v hv => absurd hv (by simp)) I0 frS_refl h0)
  cases hx : testF t (factO t 6) s with
  | error e =>
    rw [hx] at K
    exact fun I f z => K I f z
  | ok y =>
    rw [hx] at K
    intro hs' no y' p hp ey al I f g
    rw [List.append_nil] at g
    have h' := Za_no (by have := hd_app (R := []) (fun v hv => (by have := hp v hv; omega : v ≠ 16)) (Or.inl rfl); rw [List.append_nil] at this; exact this) g
    have mt := mt0.fs f
    have wa := wa0.fs f
    have n25 : ¬ 25 ∈ p := fun z => by have := hp 25 z; omega
    have fin : ∀ I1 : Nat → Nat → Int32, frS I0 I1 → MG t y.1 (c ++ y') p 0 I1 → Q10 (some (.int 0)) (xSH L dr tl, I1, J) := by
      intro I1 F1 h1
      refine ⟨0, I1, J, rfl, rfl, br0 (w237_2 (hit rfl (test_drop (I0 := I1) (c := c ++ y') (p := p) (fun I2 f2 g2 => ⟨I2, J, rfl, rfl, K I2 (F1.tr f2) ?_⟩) p (c ++ y') I1 rfl (mt0.fs F1) frS_refl h1)))⟩
      have g2' : MG t y.1 (c ++ y.2) [] 0 I2 := by rw [ey, ← List.append_assoc]; exact g2
      exact g2'
    refine w238_0 (hit (eq0.mpr h'.1.2.2.2) (m_look mt h'.1 fun r I1 f1 g1 e1 => ?_))
    have h1 := h'.fx f1 g1.toR (Nat.le_refl _)
    have F := f.tr f1.toS
    refine brz (p := r = 93) Iff.rfl (fun _ => (m_hasSq h1.2.2.1 (h1.len (mt.f f1))).u (fun z => absurd z n25) (fun _ => br0 ?_)) (fun _ => ?_)
    · exact gt_chain (mt.f f1) (wa.f f1) h1 (fun e => absurd e no.1) (fun e => absurd e no.2) (fun _ z => absurd z n25) (fun _ _ I2 f2 g2 => fin I2 (F.tr f2) g2)
    · exact gt_chain (mt.f f1) (wa.f f1) h1 (fun e => absurd e no.1) (fun e => absurd e no.2) (fun _ z => absurd z n25) (fun _ _ I2 f2 g2 => fin I2 (F.tr f2) g2)
end MTEST2
