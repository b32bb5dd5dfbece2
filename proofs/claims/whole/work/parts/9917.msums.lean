/-! ===== book: the reference's sums ===== -/
/-- what a sum's or a test's reading leaves -/
def MGE (t : Tp) (x : RL) (c w : List Int) (o B : Int) (I : Nat → Nat → Int32) : Prop := match x with
  | .ok y => MG t y.1 (c ++ y.2) w o I
  | .error e => ME B e I
section MSUM3
variable {t : Tp} {L d dr tl : Nat} {I I0 I1 I2 Ib : Nat → Nat → Int32} {J : Nat → Nat → Int64} {a0 a1 a2 a3 a4 rw : Int32} {s s1 : Lx} {v o B : Int} {R : (Nat → Nat → Int32) → (Nat → Nat → Int64) → Prop} {Q : Option Value → xMem → Prop} {c w w0 l p a W r0 : List Int} {e : Int × Int} {k : Nat}
theorem hdN_app {P P' : Int → Prop} {R w0 : List Int} (h : hdN P R) (h0 : hdN P' w0) (k : ∀ v, P' v → P v) : hdN P (R ++ w0) := by
  rcases h with rfl | ⟨v, r, rfl, hv⟩
  · rcases h0 with rfl | ⟨v, r, rfl, hv⟩
    · exact Or.inl rfl
    · exact Or.inr ⟨v, r, rfl, k v hv⟩
  · exact Or.inr ⟨v, r ++ w0, rfl, hv⟩
/-- what goesOn does -/
theorem go_sy {Zw0 : ZT} {E : Int × Int → Prop} (mtb : MT t Ib) (hbb : (Ib 71 51).toInt = w0.length) (h0 : hdN (fun v => ¬ (1 ≤ v ∧ v ≤ 4)) w0) (hW : ∀ (s : Lx) (c w : List Int) (o : Int), Zw0 s c w o → ∀ I : Nat → Nat → Int32, frS Ib I → MG t s c (w ++ w0) o I → Q (some (.int 1)) (xSH L dr tl, I, J)) (hE : ∀ e : Int × Int, E e → ∀ I : Nat → Nat → Int32, frS Ib I → ME 1598 e I → Q (some (.int 0)) (xSH L dr tl, I, J)) :
    SYa t Zw0 (fun s c w o => ∀ I : Nat → Nat → Int32, frS Ib I → MG t s c (w ++ w0) o I → WP ((d + 5), 232, 0, [some (.ref 71), none], [], (xSH L dr tl, I, J)) Q) E ∧
    (∀ (s : Lx) (c p : List Int) (o : Int), s.1 ≤ t.2 → noOp t s → op14 p → (∀ I : Nat → Nat → Int32, frS Ib I → MG t s c (p ++ w0) o I → Q (some (.int 0)) (xSH L dr tl, I, J)) → ∀ I : Nat → Nat → Int32, frS Ib I → MG t s c (p ++ w0) o I → WP ((d + 5), 232, 0, [some (.ref 71), none], [], (xSH L dr tl, I, J)) Q) := by
  have t41 : (41 : Int32).toInt = 41 := rfl
  have t20 : (20 : Int32).toInt = 20 := rfl
  have t23 : (23 : Int32).toInt = 23 := rfl
  have t24 : (24 : Int32).toInt = 24 := rfl
  have hb : ∀ I : Nat → Nat → Int32, frS Ib I → (I 71 51).toInt = w0.length := fun I f => by rw [f.2.2 51 (by decide) (by decide) (by decide) (by decide) (by decide) (by decide) (by decide) (by decide)]; exact hbb
  have n41 : ∀ {I1 : Nat → Nat → Int32} {r : Int32} {s : Lx} {m : Int}, isMk t m s → m ≠ 41 → r.toInt = tb t (qq t s : Int) → ¬ r = 41 := by
    intro I1 r s m mk hm e z
    have := (tb_mk (t := t) (s := s) mk41).mp (by rw [← e, z]; rfl)
    exact isMk_x mk hm this
  refine ⟨⟨?_, ?_, ?_, ?_, ?_⟩, ?_⟩
  · intro s c p W o v hs mk hp hv hk I f h
    have mt := mtb.fs f
    have h' : MG t s c (p ++ ((v :: W) ++ w0)) (o + 1) I := by
      have e : p ++ v :: W ++ w0 = p ++ ((v :: W) ++ w0) := List.append_assoc _ _ _
      rw [← e]; exact h
    have hm : mkW (p ++ v :: W) = v := mkW_p hp (by omega)
    refine w232_0 (hit (eq0.mpr h.1.2.2.2) (m_look mt h.1 fun r I1 f1 g1 e1 => hit (eq_ti.mpr (by rw [e1, (tb_mk mk41).mpr mk]; rfl)) ?_))
    have mt1 := mt.f f1
    have h1 := h'.fx f1 g1.toR (Nat.le_refl _)
    have F1 := f.tr f1.toS
    have hb1 := hb I1 F1
    have mw : MWt ((p ++ v :: W) ++ w0) I1 := by rw [List.append_assoc]; exact h1.2.2.1
    have hlen : ((p ++ v :: W) ++ w0).length ≤ 1600 := by rw [List.append_assoc]; exact h1.len mt1
    have K : ∀ I2 : Nat → Nat → Int32, frS I1 I2 → MG t (adv t s) (c ++ p ++ exM v) (W ++ w0) o I2 → WP ((d + 5), 232, 0, [some (.ref 71), none], [], (xSH L dr tl, I2, J)) Q := fun I2 f2 g2 => hk I2 (F1.tr f2) g2
    refine (m_markW mw hb1 hlen).u fun r1 q1 => ?_
    rw [hm] at q1
    refine brz eq_ti (fun y => popT mt1 g1.2.1 mk hb1 h1 hp hv K) (fun y => ?_)
    refine (m_markW mw hb1 hlen).u fun r2 q2 => ?_
    rw [hm] at q2
    refine brz eq_ti (fun y => popT mt1 g1.2.1 mk hb1 h1 hp hv K) (fun y2 => ?_)
    refine (m_markW mw hb1 hlen).u fun r3 q3 => ?_
    rw [hm] at q3
    refine brz eq_ti (fun y => popT mt1 g1.2.1 mk hb1 h1 hp hv K) (fun y3 => ?_)
    exfalso
    omega
  · intro s c a R o v hs hv ha hR hk I f h
    have mt := mtb.fs f
    have h' : MG t s c (a ++ (R ++ w0)) o I := by rw [← List.append_assoc]; exact h
    have k0 : kd t s ≠ 0 := by rcases hv with z | z <;> exact isMk_0 z.1
    have gt := adv_gt k0
    have hr : hdN (fun v => v ≠ 3 ∧ v ≠ 4) (R ++ w0) := hdN_app hR h0 (fun v hv => by omega)
    have nmk : ∀ {r : Int32}, r.toInt = tb t (qq t s : Int) → ¬ r = 41 := fun e => by rcases hv with z | z; exact n41 (I1 := I) z.1 (by decide) e; exact n41 (I1 := I) z.1 (by decide) e
    refine w232_0 (hit (eq0.mpr h.1.2.2.2) (m_look mt h.1 fun r I1 f1 g1 e1 => sk (nmk e1) ?_))
    have mt1 := mt.f f1
    have h1 := h'.fx f1 g1.toR (Nat.le_refl _)
    have F1 := f.tr f1.toS
    have l5 := h1.2.2.2.2
    have len : (a ++ (R ++ w0)).length = a.length + (R ++ w0).length := List.length_append
    have len2 : (c ++ a).length = c.length + a.length := List.length_append
    have fin : ∀ (x : Int32), x.toInt = v → ∀ I2 : Nat → Nat → Int32, frS I1 I2 → MG t (adv t s) c (a ++ (R ++ w0)) o I2 → WP ((d + 5), 232, 158, [some (.ref 71), some (.int x)], [], (xSH L dr tl, I2, J)) Q := fun x ex I2 f2 g2 => go_158 (I0 := I2) (c := c) (a := a) (r0 := R ++ w0) (by rw [len2]; omega) hr ex (fun I3 f3 g3 => hW _ _ _ _ hk I3 ((F1.tr f2).tr f3) g3) a c I2 rfl ha (mt1.fs f2) frS_refl g2
    refine go_chain mt1 h1 (fun mk I2 f2 g2 => fin 3 ?_ I2 f2 g2) (fun mk I2 f2 g2 => fin 4 ?_ I2 f2 g2) (fun mk => ?_) (fun mk => ?_) (fun no => ?_)
    · rcases hv with z | z
      · rw [z.2]; rfl
      · exact absurd mk (isMk_x z.1 (by decide))
    · rcases hv with z | z
      · exact absurd mk (isMk_x z.1 (by decide))
      · rw [z.2]; rfl
    · rcases hv with z | z <;> exact absurd mk (isMk_x z.1 (by decide))
    · rcases hv with z | z <;> exact absurd mk (isMk_x z.1 (by decide))
    · rcases hv with z | z
      · exact absurd z.1 no.1
      · exact absurd z.1 no.2.1
  · intro s c a R o v hs hv ha hR hk I f h
    have mt := mtb.fs f
    have h' : MG t s c (a ++ (R ++ w0)) o I := by rw [← List.append_assoc]; exact h
    have k0 : kd t s ≠ 0 := by rcases hv with z | z <;> exact isMk_0 z.1
    have gt := adv_gt k0
    have hr : hdN (fun v => ¬ (1 ≤ v ∧ v ≤ 4)) (R ++ w0) := hdN_app hR h0 (fun v hv => hv)
    have nmk : ∀ {r : Int32}, r.toInt = tb t (qq t s : Int) → ¬ r = 41 := fun e => by rcases hv with z | z; exact n41 (I1 := I) z.1 (by decide) e; exact n41 (I1 := I) z.1 (by decide) e
    refine w232_0 (hit (eq0.mpr h.1.2.2.2) (m_look mt h.1 fun r I1 f1 g1 e1 => sk (nmk e1) ?_))
    have mt1 := mt.f f1
    have h1 := h'.fx f1 g1.toR (Nat.le_refl _)
    have F1 := f.tr f1.toS
    have l5 := h1.2.2.2.2
    have len : (a ++ (R ++ w0)).length = a.length + (R ++ w0).length := List.length_append
    have len2 : (c ++ a).length = c.length + a.length := List.length_append
    have fin : ∀ (x : Int32), x.toInt = v → ∀ I2 : Nat → Nat → Int32, frS I1 I2 → MG t (adv t s) c (a ++ (R ++ w0)) o I2 → WP ((d + 5), 232, 243, [some (.ref 71), some (.int x)], [], (xSH L dr tl, I2, J)) Q := fun x ex I2 f2 g2 => go_243 (I0 := I2) (c := c) (a := a) (r0 := R ++ w0) (by rw [len2]; omega) hr ex (fun I3 f3 g3 => hW _ _ _ _ hk I3 ((F1.tr f2).tr f3) g3) a c I2 rfl ha (mt1.fs f2) frS_refl g2
    refine go_chain mt1 h1 (fun mk => ?_) (fun mk => ?_) (fun mk I2 f2 g2 => fin 1 ?_ I2 f2 g2) (fun mk I2 f2 g2 => fin 2 ?_ I2 f2 g2) (fun no => ?_)
    · rcases hv with z | z <;> exact absurd mk (isMk_x z.1 (by decide))
    · rcases hv with z | z <;> exact absurd mk (isMk_x z.1 (by decide))
    · rcases hv with z | z
      · rw [z.2]; rfl
      · exact absurd mk (isMk_x z.1 (by decide))
    · rcases hv with z | z
      · exact absurd mk (isMk_x z.1 (by decide))
      · rw [z.2]; rfl
    · rcases hv with z | z
      · exact absurd z.1 no.2.2.1
      · exact absurd z.1 no.2.2.2
  · intro s c p W o v hs no hp hv kc ke I f h
    have mt := mtb.fs f
    have h' : MG t s c (p ++ ((v :: W) ++ w0)) o I := by
      have e : p ++ v :: W ++ w0 = p ++ ((v :: W) ++ w0) := List.append_assoc _ _ _
      rw [← e]; exact h
    have hm : mkW (p ++ v :: W) = v := mkW_p hp (by omega)
    have tail : ∀ I1 : Nat → Nat → Int32, frS Ib I1 → MT t I1 → MG t s c (p ++ ((v :: W) ++ w0)) o I1 → _ := fun I1 F1 mt1 h1 => go_chain (d := d) (L := L) (dr := dr) (tl := tl) (J := J) (Q := Q) mt1 h1 (fun mk => absurd mk no.1) (fun mk => absurd mk no.2.1) (fun mk => absurd mk no.2.2.1) (fun mk => absurd mk no.2.2.2) (fun _ I2 f2 h2 at2 => go_end5 (mt1.f f2) h2 (hb I2 (F1.tr f2.toS)) hp hv (fun mk I3 f3 g3 => hW _ _ _ _ (kc mk) I3 ((F1.tr f2.toS).tr f3) g3) (fun mk I3 f3 z3 => hE _ (ke mk) I3 ((F1.tr f2.toS).tr f3) z3))
    refine w232_0 (hit (eq0.mpr h.1.2.2.2) (m_look mt h.1 fun r I1 f1 g1 e1 => ?_))
    have mt1 := mt.f f1
    have h1 := h'.fx f1 g1.toR (Nat.le_refl _)
    have F1 := f.tr f1.toS
    have hb1 := hb I1 F1
    have mw : MWt ((p ++ v :: W) ++ w0) I1 := by rw [List.append_assoc]; exact h1.2.2.1
    have hlen : ((p ++ v :: W) ++ w0).length ≤ 1600 := by rw [List.append_assoc]; exact h1.len mt1
    refine brz (p := r = 41) Iff.rfl (fun _ => (m_markW mw hb1 hlen).u fun r1 q1 => sk (fun z => ?_) ((m_markW mw hb1 hlen).u fun r2 q2 => sk (fun z => ?_) ((m_markW mw hb1 hlen).u fun r3 q3 => sk (fun z => ?_) (tail I1 F1 mt1 h1)))) (fun _ => tail I1 F1 mt1 h1)
    · rw [eq_ti, q1, hm] at z; omega
    · rw [eq_ti, q2, hm] at z; omega
    · rw [eq_ti, q3, hm] at z; omega
  · intro s c p W o v hs no nm hp hv ke I f h
    have mt := mtb.fs f
    have h' : MG t s c (p ++ ((v :: W) ++ w0)) o I := by
      have e : p ++ v :: W ++ w0 = p ++ ((v :: W) ++ w0) := List.append_assoc _ _ _
      rw [← e]; exact h
    refine w232_0 (hit (eq0.mpr h.1.2.2.2) (m_look mt h.1 fun r I1 f1 g1 e1 => sk (fun z => nm ((tb_mk mk41).mp (by rw [← e1, z]; rfl))) ?_))
    have mt1 := mt.f f1
    have h1 := h'.fx f1 g1.toR (Nat.le_refl _)
    have F1 := f.tr f1.toS
    exact go_chain mt1 h1 (fun mk => absurd mk no.1) (fun mk => absurd mk no.2.1) (fun mk => absurd mk no.2.2.1) (fun mk => absurd mk no.2.2.2) (fun _ I2 f2 h2 at2 => go_end6 (mt1.f f2) h2 at2 (hb I2 (F1.tr f2.toS)) hp hv (fun I3 f3 z3 => hE _ ke I3 ((F1.tr f2.toS).tr f3) z3))
  · intro s c p o hs no hp hk I f h
    have mt := mtb.fs f
    have hm : mkW p = -1 := mkW_n hp
    have tail : ∀ I1 : Nat → Nat → Int32, frS Ib I1 → MT t I1 → MG t s c (p ++ w0) o I1 → _ := fun I1 F1 mt1 h1 => go_chain (d := d) (L := L) (dr := dr) (tl := tl) (J := J) (Q := Q) mt1 h1 (fun mk => absurd mk no.1) (fun mk => absurd mk no.2.1) (fun mk => absurd mk no.2.2.1) (fun mk => absurd mk no.2.2.2) (fun _ I2 f2 h2 at2 => go_end7 (mt1.f f2) h2 (hb I2 (F1.tr f2.toS)) hp (hk I2 (F1.tr f2.toS) h2))
    refine w232_0 (hit (eq0.mpr h.1.2.2.2) (m_look mt h.1 fun r I1 f1 g1 e1 => ?_))
    have mt1 := mt.f f1
    have h1 := h.fx f1 g1.toR (Nat.le_refl _)
    have F1 := f.tr f1.toS
    have hb1 := hb I1 F1
    refine brz (p := r = 41) Iff.rfl (fun _ => (m_markW h1.2.2.1 hb1 (h1.len mt1)).u fun r1 q1 => sk (fun z => ?_) ((m_markW h1.2.2.1 hb1 (h1.len mt1)).u fun r2 q2 => sk (fun z => ?_) ((m_markW h1.2.2.1 hb1 (h1.len mt1)).u fun r3 q3 => sk (fun z => ?_) (tail I1 F1 mt1 h1)))) (fun _ => tail I1 F1 mt1 h1)
    · rw [eq_ti, q1, hm] at z; omega
    · rw [eq_ti, q2, hm] at z; omega
    · rw [eq_ti, q3, hm] at z; omega
/-- what waits of a sum is dropped at its end -/
theorem sum_drop (hb : (I0 71 51).toInt = w0.length) (K : ∀ I1 : Nat → Nat → Int32, frS I0 I1 → MG t s (c ++ p) w0 o I1 → Q none (xSH L dr tl, xwI I1 71 51 a1, J)) : ∀ (p' c' : List Int) (I : Nat → Nat → Int32), c' ++ p' = c ++ p → MT t I → frS I0 I → MG t s c' (p' ++ w0) o I → WP ((d + 6), 233, 53, [some (.ref 71), some (.int a1), none], [], (xSH L dr tl, I, J)) Q := by
  intro p'
  induction p' with
  | nil =>
    intro c' I hc mt f0 h
    rw [List.append_nil] at hc
    have hb' : (I 71 51).toInt = w0.length := by rw [f0.2.2 51 (by decide) (by decide) (by decide) (by decide) (by decide) (by decide) (by decide) (by decide)]; exact hb
    have hw : (I 71 46).toInt = w0.length := h.2.2.1.1
    refine w233_53 (hit (eq0.mpr h.1.2.2.2) (sk (fun z => by rw [lt_ti, hb', hw] at z; omega) (K I f0 ?_)))
    rw [← hc]; exact h
  | cons u p' ih =>
    intro c' I hc mt f0 h
    have hb' : (I 71 51).toInt = w0.length := by rw [f0.2.2 51 (by decide) (by decide) (by decide) (by decide) (by decide) (by decide) (by decide) (by decide)]; exact hb
    have hw : (I 71 46).toInt = (((p' ++ w0).length + 1 : Nat) : Int) := h.2.2.1.1
    have hl : (p' ++ w0).length = p'.length + w0.length := List.length_append
    have h' : MG t s c' (u :: (p' ++ w0)) o I := h
    exact w233_53 (hit (eq0.mpr h.1.2.2.2) (hit (lt_ti.mpr (by rw [hb', hw]; omega)) (m_drops mt h' fun I1 f1 g1 _ => ih (c' ++ [u]) I1 (by rw [← hc, List.append_assoc]; rfl) (mt.fs f1) (f0.tr f1) g1)))
theorem m_sums (mt : MT t I0) (wa : WA I0) (h : MG t s c w0 o I0) (hk : o + k = 6) (h0 : hdN (fun v => ¬ (1 ≤ v ∧ v ≤ 4)) w0) (K : ∀ I1 : Nat → Nat → Int32, frS I0 I1 → MGE t (sumO t k s) c w0 o 1598 I1 → R I1 J) : WP ((d + 6), 233, 0, [some (.ref 71), none, none], [], (xSH L dr tl, I0, J)) (fun v M => ∃ (I2 : Nat → Nat → Int32) (J2 : Nat → Nat → Int64), v = none ∧ M = (xSH L dr tl, I2, J2) ∧ R I2 J2) := by
  have n1600 := mt.1.1
  -- the frame behind the base's change
  have mtb : MT t (xwI I0 71 51 (I0 71 46)) := mt
  have wab : WA (xwI I0 71 51 (I0 71 46)) := fun k hk j hj => by rw [xwI_ne (by omega)]; exact wa k hk j hj
  have hbb : ((xwI I0 71 51 (I0 71 46)) 71 51).toInt = w0.length := by rw [xg]; exact h.2.2.1.1
  have fin : ∀ I1 : Nat → Nat → Int32, frS (xwI I0 71 51 (I0 71 46)) I1 → frS I0 (xwI I1 71 51 (I0 71 51)) := by
    intro I1 f1
    refine ⟨fun a g1 g2 g3 => by rw [xwI_ne g1, f1.1 a g1 g2 g3, xwI_ne g1], fun j hj => by rw [xwI_ne (by decide), f1.2.1 j hj, xwI_ne (by decide)], fun j g1 g2 g3 g4 g5 g6 g7 g8 => ?_⟩
    by_cases e : j = 51
    · rw [e, xg]
    · rw [xgn e, f1.2.2 j g1 g2 g3 g4 g5 g6 g7 g8, xgn e]
  -- the three ways on
  let QF : Option Value → xMem → Prop := fun v M => ∃ (I2 : Nat → Nat → Int32) (J2 : Nat → Nat → Int64), v = none ∧ M = (xSH L dr tl, I2, J2) ∧ R I2 J2
  let Q2 : Option Value → xMem → Prop := fun v M => ∃ (r5 : Int32) (I5 : Nat → Nat → Int32) (J5 : Nat → Nat → Int64), v = some (.int r5) ∧ M = (xSH L dr tl, I5, J5) ∧ ((r5 = 0 → WP ((d + 6), 233, 15, [some (.ref 71), some (.int (I0 71 51)), some (.int 0)], [], (xSH L dr tl, I5, J5)) QF) ∧ (¬ r5 = 0 → WP ((d + 6), 233, 15, [some (.ref 71), some (.int (I0 71 51)), some (.int 1)], [], (xSH L dr tl, I5, J5)) QF))
  let Q1 : Option Value → xMem → Prop := fun v M => ∃ (I3 : Nat → Nat → Int32) (J3 : Nat → Nat → Int64), v = none ∧ M = (xSH L dr tl, I3, J3) ∧ (((I3 71 5) = 0 → WP ((d + 5), 232, 0, [some (.ref 71), none], [], (xSH L dr tl, I3, J3)) Q2) ∧ (¬ (I3 71 5) = 0 → WP ((d + 6), 233, 15, [some (.ref 71), some (.int (I0 71 51)), some (.int 0)], [], (xSH L dr tl, I3, J3)) QF))
  let Zw : ZT := fun s c w o => ∀ I : Nat → Nat → Int32, frS (xwI I0 71 51 (I0 71 46)) I → MG t s c (w ++ w0) o I → WP ((d + 5), 231, 2, [some (.ref 71), some (.int 1), none, none, none], [], (xSH L dr tl, I, J)) Q1
  let Za : ZT := fun s c w o => ∀ I : Nat → Nat → Int32, frS (xwI I0 71 51 (I0 71 46)) I → MG t s c (w ++ w0) o I → WP ((d + 5), 232, 0, [some (.ref 71), none], [], (xSH L dr tl, I, J)) Q2
  let E : Int × Int → Prop := fun e => ∀ I : Nat → Nat → Int32, frS (xwI I0 71 51 (I0 71 46)) I → ME 1598 e I → R (xwI I 71 51 (I0 71 51)) J
  have bad : ∀ e : Int × Int, E e → ∀ I : Nat → Nat → Int32, frS (xwI I0 71 51 (I0 71 46)) I → ME 1598 e I → WP ((d + 6), 233, 15, [some (.ref 71), some (.int (I0 71 51)), some (.int 0)], [], (xSH L dr tl, I, J)) QF := fun e he I f z => w233_15 (hit rfl (w233_53 (sk z.1.n0 ⟨_, J, rfl, rfl, he I f z⟩)))
  have yw : SYw t Zw Za E := one_sy (d := d) mtb wab (fun s c w o hz I f g => ⟨I, J, rfl, rfl, hit (eq0.mpr g.1.2.2.2) (hz I f g)⟩) (fun e he I f z => ⟨I, J, rfl, rfl, sk z.1.n0 (bad e he I f z)⟩)
  have back : ∀ (s : Lx) (c w : List Int) (o : Int), Zw s c w o → ∀ I : Nat → Nat → Int32, frS (xwI I0 71 51 (I0 71 46)) I → MG t s c (w ++ w0) o I → WP ((d + 6), 233, 15, [some (.ref 71), some (.int (I0 71 51)), some (.int 1)], [], (xSH L dr tl, I, J)) QF := fun s c w o hz I f g => w233_15 (sk (by decide) (hit (eq0.mpr g.1.2.2.2) (w231_0 (hz I f g))))
  obtain ⟨ya, y7⟩ := go_sy (d := d) (L := L) (dr := dr) (tl := tl) (J := J) (Q := Q2) (Zw0 := Zw) (E := E) mtb hbb h0 (fun s c w o hz I f g => ⟨1, I, J, rfl, rfl, br1 (back s c w o hz I f g)⟩) (fun e he I f z => ⟨0, I, J, rfl, rfl, br0 (bad e he I f z)⟩)
  have ya' : SYa t Zw Za E := ya
  refine w233_0 (back s c [] o ?_ _ frS_refl h)
  refine sumO_sy n1600 yw ya' k o hk s c [] (Or.inl rfl) h.1.1 ?_
  cases hx : sumO t k s with
  | error e =>
    rw [hx] at K
    exact fun I f z => K _ (fin I f) z
  | ok y =>
    rw [hx] at K
    intro hs' no y' p hp ey I f g
    rw [List.append_nil] at g
    refine y7 y.1 (c ++ y') p o hs' no hp (fun I1 f1 g1 => ⟨0, I1, J, rfl, rfl, br0 (w233_15 (hit rfl ?_))⟩) I f g
    refine sum_drop (I0 := I1) (c := c ++ y') (p := p) (by rw [f1.2.2 51 (by decide) (by decide) (by decide) (by decide) (by decide) (by decide) (by decide) (by decide)]; exact hbb) (fun I2 f2 g2 => ⟨_, J, rfl, rfl, K _ (fin I2 (f1.tr f2)) ?_⟩) p (c ++ y') I1 rfl (mtb.fs f1) frS_refl g1
    have g2' : MG t y.1 (c ++ y.2) w0 o I2 := by rw [ey, ← List.append_assoc]; exact g2
    exact g2'
end MSUM3
