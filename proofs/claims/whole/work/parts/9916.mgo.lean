/-! ===== book: the reference goes on behind a part; sums ===== -/
section MSUM2
variable {t : Tp} {L d dr tl : Nat} {I I0 I1 I2 Ib : Nat → Nat → Int32} {J : Nat → Nat → Int64} {a0 a1 a2 a3 a4 rw : Int32} {s s1 : Lx} {v o B : Int} {R : (Nat → Nat → Int32) → (Nat → Nat → Int64) → Prop} {Q : Option Value → xMem → Prop} {c w w0 l p a W r0 : List Int} {e : Int × Int}
def exM (v : Int) : List Int := if v = 20 then [] else if v = 23 then [5] else [6]
theorem popT (mt : MT t I) (hat : (I 71 2).toInt = qq t s) (mk : isMk t 41 s) (hb : (I 71 51).toInt = w0.length) (h : MG t s c (p ++ ((v :: W) ++ w0)) (o + 1) I) (hp : op14 p) (hv : v = 20 ∨ v = 23 ∨ v = 24) (K : ∀ I1 : Nat → Nat → Int32, frS I I1 → MG t (adv t s) (c ++ p ++ exM v) (W ++ w0) o I1 → WP ((d + 5), 232, 0, [some (.ref 71), none], [], (xSH L dr tl, I1, J)) Q) : WP ((d + 4), 230, 0, [some (.ref 71)], [], (xSH L dr tl, (xwI I 71 2 ((I 71 2) + 1)), J)) (fun v M => ∃ (I58 : Nat → Nat → Int32) (J58 : Nat → Nat → Int64), v = none ∧ M = (xSH L dr tl, I58, J58) ∧ (xin ((xwI (xwI I58 71 46 ((I58 71 46) - 1)) 71 47 (((xwI I58 71 46 ((I58 71 46) - 1)) 71 47) - 1)) 71 46) 1700 = true ∧ ((((xwI (xwI I58 71 46 ((I58 71 46) - 1)) 71 47 (((xwI I58 71 46 ((I58 71 46) - 1)) 71 47) - 1)) 104 (xIx ((xwI (xwI I58 71 46 ((I58 71 46) - 1)) 71 47 (((xwI I58 71 46 ((I58 71 46) - 1)) 71 47) - 1)) 71 46))) = 20 → WP ((d + 5), 232, 0, [some (.ref 71), none], [], (xSH L dr tl, (xwI (xwI I58 71 46 ((I58 71 46) - 1)) 71 47 (((xwI I58 71 46 ((I58 71 46) - 1)) 71 47) - 1)), J58)) Q) ∧ (¬ ((xwI (xwI I58 71 46 ((I58 71 46) - 1)) 71 47 (((xwI I58 71 46 ((I58 71 46) - 1)) 71 47) - 1)) 104 (xIx ((xwI (xwI I58 71 46 ((I58 71 46) - 1)) 71 47 (((xwI I58 71 46 ((I58 71 46) - 1)) 71 47) - 1)) 71 46))) = 20 → (xin ((xwI (xwI I58 71 46 ((I58 71 46) - 1)) 71 47 (((xwI I58 71 46 ((I58 71 46) - 1)) 71 47) - 1)) 71 46) 1700 = true ∧ ((((xwI (xwI I58 71 46 ((I58 71 46) - 1)) 71 47 (((xwI I58 71 46 ((I58 71 46) - 1)) 71 47) - 1)) 104 (xIx ((xwI (xwI I58 71 46 ((I58 71 46) - 1)) 71 47 (((xwI I58 71 46 ((I58 71 46) - 1)) 71 47) - 1)) 71 46))) = 23 → WP ((d + 4), 224, 0, [some (.ref 71), some (.int 5)], [], (xSH L dr tl, (xwI (xwI I58 71 46 ((I58 71 46) - 1)) 71 47 (((xwI I58 71 46 ((I58 71 46) - 1)) 71 47) - 1)), J58)) (fun v M => ∃ (I62 : Nat → Nat → Int32) (J62 : Nat → Nat → Int64), v = none ∧ M = (xSH L dr tl, I62, J62) ∧ WP ((d + 5), 232, 0, [some (.ref 71), none], [], (xSH L dr tl, I62, J62)) Q)) ∧ (¬ ((xwI (xwI I58 71 46 ((I58 71 46) - 1)) 71 47 (((xwI I58 71 46 ((I58 71 46) - 1)) 71 47) - 1)) 104 (xIx ((xwI (xwI I58 71 46 ((I58 71 46) - 1)) 71 47 (((xwI I58 71 46 ((I58 71 46) - 1)) 71 47) - 1)) 71 46))) = 23 → WP ((d + 4), 224, 0, [some (.ref 71), some (.int 6)], [], (xSH L dr tl, (xwI (xwI I58 71 46 ((I58 71 46) - 1)) 71 47 (((xwI I58 71 46 ((I58 71 46) - 1)) 71 47) - 1)), J58)) (fun v M => ∃ (I61 : Nat → Nat → Int32) (J61 : Nat → Nat → Int64), v = none ∧ M = (xSH L dr tl, I61, J61) ∧ WP ((d + 5), 232, 0, [some (.ref 71), none], [], (xSH L dr tl, I61, J61)) Q)))))))) := by
  have n1600 := mt.1.1
  have hs := h.1.1
  have hqn := qq_n (t := t) (s := s) hs
  have g := h.q hat
  have p1 := (kd_4 mk.1).2
  have fx : frX I (xwI I 71 2 (I 71 2 + 1)) := frX_w (by decide)
  have r' : MR t (adv t s) (xwI I 71 2 (I 71 2 + 1)) := by
    refine g.adv (isMk_0 mk) ⟨rfl, rfl⟩ ?_ (fun u => ?_) (fun _ => rfl)
    · rw [xg, add1 (by rw [hat]; omega) (by rw [hat]; omega), hat, p1]; rfl
    · have := mk.1; omega
  have h' := h.fx fx r' (adv_ge hs)
  refine m_dropsTo (I0 := xwI I 71 2 (I 71 2 + 1)) (c := c) (p := p) (l := v :: W) hb (fun I1 f1 g1 z1 => ?_) (Or.inr ⟨v, W, rfl, by omega⟩) p c _ rfl hp (mt.f fx) frS_refl rfl h'
  have gl : (I1 71 46).toInt = (((W ++ w0).length + 1 : Nat) : Int) := g1.2.2.1.1
  have g5 : (c ++ p).length + ((W ++ w0).length + 1) + 3 ≤ (adv t s).1 := g1.2.2.2.2
  have han := adv_n (t := t) (s := s) hs
  have e46 : (I1 71 46 - 1).toInt = (W ++ w0).length := by rw [sub1 (by omega), gl]; omega
  have xi : xIx (I1 71 46 - 1) = (W ++ w0).length := by rw [xIx_ti, e46]; exact Int.toNat_natCast _
  have ev : (I1 104 (xIx (I1 71 46 - 1))).toInt = v := by rw [xi]; exact g1.2.2.1.2.1
  have go := g1.2.2.2.1
  have e47 : (I1 71 47 - 1).toInt = o := by rw [sub1 (by rw [go.1]; omega), go.1]; omega
  have F3 : frS I1 (xwI (xwI I1 71 46 (I1 71 46 - 1)) 71 47 (I1 71 47 - 1)) := (frS_w (by decide)).tr (frS_w (by decide))
  have g3 : MG t (adv t s) (c ++ p) (W ++ w0) o (xwI (xwI I1 71 46 (I1 71 46 - 1)) 71 47 (I1 71 47 - 1)) := ⟨g1.1, g1.2.1, ⟨e46, g1.2.2.1.2.2⟩, ⟨e47, by have := adv_gt (isMk_0 mk); have := go.2.1; have := h.2.2.2.1.2.1; have lcp : (c ++ p).length = c.length + p.length := List.length_append; omega, by omega⟩, by omega⟩
  have mt1 : MT t I1 := (mt.f fx).fs f1
  have F := (fx.toS.tr f1).tr F3
  have t20 : (20 : Int32).toInt = 20 := rfl
  have t23 : (23 : Int32).toInt = 23 := rfl
  have ix : xin (I1 71 46 - 1) 1700 = true := by rw [xin_iff, e46]; omega
  refine ⟨ix, brz (p := I1 104 (xIx (I1 71 46 - 1)) = 20) eq_ti (fun y => K _ F ?_) (fun y => ⟨ix, brz (p := I1 104 (xIx (I1 71 46 - 1)) = 23) eq_ti (fun z => m_code (mt1.fs F3) g3 (by omega) (v := 5) rfl fun I4 f4 g4 _ => K I4 (F.tr f4) ?_) (fun z => m_code (mt1.fs F3) g3 (by omega) (v := 6) rfl fun I4 f4 g4 _ => K I4 (F.tr f4) ?_)⟩)⟩
  · have e : exM v = [] := if_pos (by omega)
    rw [e, List.append_nil]; exact g3
  · have e : exM v = [5] := by unfold exM; rw [if_neg (by omega), if_pos (by omega)]
    rw [e]; exact g4
  · have e : exM v = [6] := by unfold exM; rw [if_neg (by omega), if_neg (by omega)]
    rw [e]; exact g4
theorem m_push (mt : MT t I) (h : MG t s c w o I) (room : c.length + w.length + 4 ≤ s.1) (ea : a1.toInt = v) : xin (I 71 46) 1700 = true ∧ MG t s c (v :: w) o (xwI (xwI I 104 (xIx (I 71 46)) a1) 71 46 ((xwI I 104 (xIx (I 71 46)) a1) 71 46 + 1)) ∧ frS I (xwI (xwI I 104 (xIx (I 71 46)) a1) 71 46 ((xwI I 104 (xIx (I 71 46)) a1) 71 46 + 1)) := by
  obtain ⟨h1, h2, h3, h4, h5⟩ := h
  have n := mt.1.1
  have hs := h1.1
  have xi : xIx (I 71 46) = w.length := by rw [xIx_ti, h3.1]; exact Int.toNat_natCast _
  refine ⟨by rw [xin_iff, h3.1]; omega, ⟨h1, h2, ⟨?_, ?_⟩, h4, by show c.length + (w.length + 1) + 3 ≤ _; omega⟩, frS_104.tr (frS_w (by decide))⟩
  · show (I 71 46 + 1).toInt = _
    rw [add1 (by rw [h3.1]; omega) (by rw [h3.1]; omega), h3.1]; rfl
  · refine ⟨?_, stk_eq h3.2 (fun k hk => ?_)⟩
    · show ((xwI I 104 (xIx (I 71 46)) a1) 104 w.length).toInt = v
      rw [xi, xg]; exact ea
    · show ((xwI I 104 (xIx (I 71 46)) a1) 104 k).toInt = (I 104 k).toInt
      rw [xi, xgn (by omega)]
theorem go_158 (room : (c ++ a).length + r0.length + 4 ≤ s.1) (hr : hdN (fun v => v ≠ 3 ∧ v ≠ 4) r0) (ea : a1.toInt = v) (K : ∀ I1 : Nat → Nat → Int32, frS I0 I1 → MG t s (c ++ a) (v :: r0) o I1 → Q (some (.int 1)) (xSH L dr tl, I1, J)) : ∀ (a' c' : List Int) (I : Nat → Nat → Int32), c' ++ a' = c ++ a → op34 a' → MT t I → frS I0 I → MG t s c' (a' ++ r0) o I → WP ((d + 5), 232, 158, [some (.ref 71), some (.int a1)], [], (xSH L dr tl, I, J)) Q := by
  intro a'
  induction a' with
  | nil =>
    intro c' I hc ha mt f0 h
    rw [List.append_nil] at hc
    have h' : MG t s c' r0 o I := h
    have no : ∀ k : Int, k = 3 ∨ k = 4 → ¬ ∃ r : List Int, r0 = k :: r := by
      rintro k hk ⟨r, e⟩
      rcases hr with z | ⟨v, r', z1, z2⟩
      · rw [z] at e; cases e
      · rw [z1] at e; cases e; omega
    refine w232_158 ((m_isOn (v := 3) h'.2.2.1 (h'.len mt) rfl).u (fun z => absurd z (no 3 (by omega))) (fun _ => br0 ((m_isOn (v := 4) h'.2.2.1 (h'.len mt) rfl).u (fun z => absurd z (no 4 (by omega))) (fun _ => br0 ?_))))
    obtain ⟨p1, p2, p3⟩ := m_push mt h' (by rw [hc]; exact room) ea
    refine ⟨p1, K _ (f0.tr p3) ?_⟩
    rw [← hc]; exact p2
  | cons u a' ih =>
    intro c' I hc ha mt f0 h
    have hu := ha u (by simp)
    have h' : MG t s c' (u :: (a' ++ r0)) o I := h
    have nx : ∀ I1 : Nat → Nat → Int32, frS I I1 → MG t s (c' ++ [u]) (a' ++ r0) o I1 → I1 71 2 = I 71 2 → WP ((d + 5), 232, 158, [some (.ref 71), some (.int a1)], [], (xSH L dr tl, I1, J)) Q := fun I1 f1 g1 _ => ih (c' ++ [u]) I1 (by rw [← hc, List.append_assoc]; rfl) (fun x hx => ha x (by simp [hx])) (mt.fs f1) (f0.tr f1) g1
    refine w232_158 ((m_isOn (v := 3) h'.2.2.1 (h'.len mt) rfl).u (fun z => br1 (m_drops mt h' nx)) (fun z => br0 ((m_isOn (v := 4) h'.2.2.1 (h'.len mt) rfl).u (fun z => br1 (m_drops mt h' nx)) (fun z4 => ?_))))
    exfalso
    rcases hu with rfl | rfl
    · exact z ⟨_, rfl⟩
    · exact z4 ⟨_, rfl⟩
theorem go_243 (room : (c ++ a).length + r0.length + 4 ≤ s.1) (hr : hdN (fun v => ¬ (1 ≤ v ∧ v ≤ 4)) r0) (ea : a1.toInt = v) (K : ∀ I1 : Nat → Nat → Int32, frS I0 I1 → MG t s (c ++ a) (v :: r0) o I1 → Q (some (.int 1)) (xSH L dr tl, I1, J)) : ∀ (a' c' : List Int) (I : Nat → Nat → Int32), c' ++ a' = c ++ a → op14 a' → MT t I → frS I0 I → MG t s c' (a' ++ r0) o I → WP ((d + 5), 232, 243, [some (.ref 71), some (.int a1)], [], (xSH L dr tl, I, J)) Q := by
  intro a'
  induction a' with
  | nil =>
    intro c' I hc ha mt f0 h
    rw [List.append_nil] at hc
    have h' : MG t s c' r0 o I := h
    have no : ∀ k : Int, 1 ≤ k ∧ k ≤ 4 → ¬ ∃ r : List Int, r0 = k :: r := by
      rintro k hk ⟨r, e⟩
      rcases hr with z | ⟨v, r', z1, z2⟩
      · rw [z] at e; cases e
      · rw [z1] at e; cases e; omega
    refine w232_243 ((m_isOn (v := 3) h'.2.2.1 (h'.len mt) rfl).u (fun z => absurd z (no 3 (by omega))) (fun _ => br0 ((m_isOn (v := 4) h'.2.2.1 (h'.len mt) rfl).u (fun z => absurd z (no 4 (by omega))) (fun _ => br0 ((m_isOn (v := 1) h'.2.2.1 (h'.len mt) rfl).u (fun z => absurd z (no 1 (by omega))) (fun _ => br0 ((m_isOn (v := 2) h'.2.2.1 (h'.len mt) rfl).u (fun z => absurd z (no 2 (by omega))) (fun _ => br0 ?_))))))))
    obtain ⟨p1, p2, p3⟩ := m_push mt h' (by rw [hc]; exact room) ea
    refine ⟨p1, K _ (f0.tr p3) ?_⟩
    rw [← hc]; exact p2
  | cons u a' ih =>
    intro c' I hc ha mt f0 h
    have hu := ha u (by simp)
    have h' : MG t s c' (u :: (a' ++ r0)) o I := h
    have nx : ∀ I1 : Nat → Nat → Int32, frS I I1 → MG t s (c' ++ [u]) (a' ++ r0) o I1 → I1 71 2 = I 71 2 → WP ((d + 5), 232, 243, [some (.ref 71), some (.int a1)], [], (xSH L dr tl, I1, J)) Q := fun I1 f1 g1 _ => ih (c' ++ [u]) I1 (by rw [← hc, List.append_assoc]; rfl) (fun x hx => ha x (by simp [hx])) (mt.fs f1) (f0.tr f1) g1
    refine w232_243 ((m_isOn (v := 3) h'.2.2.1 (h'.len mt) rfl).u (fun z => br1 (m_drops mt h' nx)) (fun z3 => br0 ((m_isOn (v := 4) h'.2.2.1 (h'.len mt) rfl).u (fun z => br1 (m_drops mt h' nx)) (fun z4 => br0 ((m_isOn (v := 1) h'.2.2.1 (h'.len mt) rfl).u (fun z => br1 (m_drops mt h' nx)) (fun z1 => br0 ((m_isOn (v := 2) h'.2.2.1 (h'.len mt) rfl).u (fun z => br1 (m_drops mt h' nx)) (fun z2 => ?_))))))))
    exfalso
    have : u = 1 ∨ u = 2 ∨ u = 3 ∨ u = 4 := by omega
    rcases this with rfl | rfl | rfl | rfl
    · exact z1 ⟨_, rfl⟩
    · exact z2 ⟨_, rfl⟩
    · exact z3 ⟨_, rfl⟩
    · exact z4 ⟨_, rfl⟩
theorem go_chain (mt : MT t I) (h : MG t s c w o I) (K3 : isMk t 42 s → ∀ I1 : Nat → Nat → Int32, frS I I1 → MG t (adv t s) c w o I1 → WP ((d + 5), 232, 158, [some (.ref 71), some (.int 3)], [], (xSH L dr tl, I1, J)) Q) (K4 : isMk t 47 s → ∀ I1 : Nat → Nat → Int32, frS I I1 → MG t (adv t s) c w o I1 → WP ((d + 5), 232, 158, [some (.ref 71), some (.int 4)], [], (xSH L dr tl, I1, J)) Q) (K1 : isMk t 43 s → ∀ I1 : Nat → Nat → Int32, frS I I1 → MG t (adv t s) c w o I1 → WP ((d + 5), 232, 243, [some (.ref 71), some (.int 1)], [], (xSH L dr tl, I1, J)) Q) (K2 : isMk t 45 s → ∀ I1 : Nat → Nat → Int32, frS I I1 → MG t (adv t s) c w o I1 → WP ((d + 5), 232, 243, [some (.ref 71), some (.int 2)], [], (xSH L dr tl, I1, J)) Q) (KN : noOp t s → ∀ I1 : Nat → Nat → Int32, frX I I1 → MG t s c w o I1 → (I1 71 2).toInt = qq t s → WP ((d + 4), 229, 0, [some (.ref 71), none], [], (xSH L dr tl, I1, J)) (fun v M => ∃ (r40 : Int32) (I40 : Nat → Nat → Int32) (J40 : Nat → Nat → Int64), v = some (.int r40) ∧ M = (xSH L dr tl, I40, J40) ∧ ((r40 = 21 → WP ((d + 4), 207, 0, [some (.ref 71), some (.int 44)], [], (xSH L dr tl, I40, J40)) (fun v M => ∃ (I42 : Nat → Nat → Int32) (J42 : Nat → Nat → Int64), v = none ∧ M = (xSH L dr tl, I42, J42) ∧ (((I42 71 5) = 0 → WP ((d + 4), 230, 0, [some (.ref 71)], [], (xSH L dr tl, I42, J42)) (fun v M => ∃ (I44 : Nat → Nat → Int32) (J44 : Nat → Nat → Int64), v = none ∧ M = (xSH L dr tl, I44, J44) ∧ (xin ((I44 71 46) - 1) 1700 = true ∧ (xin ((I44 71 46) - 1) 1700 = true ∧ Q (some (.int 1)) (xSH L dr tl, (xwI I44 104 (xIx ((I44 71 46) - 1)) ((I44 104 (xIx ((I44 71 46) - 1))) + 2)), J44))))) ∧ (¬ (I42 71 5) = 0 → Q (some (.int 0)) (xSH L dr tl, I42, J42))))) ∧ (¬ r40 = 21 → WP ((d + 4), 229, 0, [some (.ref 71), none], [], (xSH L dr tl, I40, J40)) (fun v M => ∃ (r45 : Int32) (I45 : Nat → Nat → Int32) (J45 : Nat → Nat → Int64), v = some (.int r45) ∧ M = (xSH L dr tl, I45, J45) ∧ ((r45 = 22 → WP ((d + 4), 207, 0, [some (.ref 71), some (.int 44)], [], (xSH L dr tl, I45, J45)) (fun v M => ∃ (I51 : Nat → Nat → Int32) (J51 : Nat → Nat → Int64), v = none ∧ M = (xSH L dr tl, I51, J51) ∧ (((I51 71 5) = 0 → WP ((d + 4), 230, 0, [some (.ref 71)], [], (xSH L dr tl, I51, J51)) (fun v M => ∃ (I53 : Nat → Nat → Int32) (J53 : Nat → Nat → Int64), v = none ∧ M = (xSH L dr tl, I53, J53) ∧ (xin ((I53 71 46) - 1) 1700 = true ∧ (xin ((I53 71 46) - 1) 1700 = true ∧ Q (some (.int 1)) (xSH L dr tl, (xwI I53 104 (xIx ((I53 71 46) - 1)) ((I53 104 (xIx ((I53 71 46) - 1))) + 2)), J53))))) ∧ (¬ (I51 71 5) = 0 → Q (some (.int 0)) (xSH L dr tl, I51, J51))))) ∧ (¬ r45 = 22 → WP ((d + 4), 229, 0, [some (.ref 71), none], [], (xSH L dr tl, I45, J45)) (fun v M => ∃ (r47 : Int32) (I47 : Nat → Nat → Int32) (J47 : Nat → Nat → Int64), v = some (.int r47) ∧ M = (xSH L dr tl, I47, J47) ∧ ((r47 = (-1) → Q (some (.int 0)) (xSH L dr tl, I47, J47)) ∧ (¬ r47 = (-1) → (((I47 71 5) = 0 → WP ((d + 4), 199, 0, [some (.ref 71), some (.int 1), some (.int (I47 71 2))], [], (xSH L dr tl, I47, J47)) (fun v M => ∃ (I50 : Nat → Nat → Int32) (J50 : Nat → Nat → Int64), v = none ∧ M = (xSH L dr tl, I50, J50) ∧ Q (some (.int 0)) (xSH L dr tl, I50, J50))) ∧ (¬ (I47 71 5) = 0 → Q (some (.int 0)) (xSH L dr tl, I47, J47))))))))))))) : WP ((d + 4), 206, 0, [some (.ref 71), some (.int 42)], [], (xSH L dr tl, I, J)) (fun v M => ∃ (r30 : Int32) (I30 : Nat → Nat → Int32) (J30 : Nat → Nat → Int64), v = some (.int r30) ∧ M = (xSH L dr tl, I30, J30) ∧ ((r30 = 0 → WP ((d + 4), 206, 0, [some (.ref 71), some (.int 47)], [], (xSH L dr tl, I30, J30)) (fun v M => ∃ (r33 : Int32) (I33 : Nat → Nat → Int32) (J33 : Nat → Nat → Int64), v = some (.int r33) ∧ M = (xSH L dr tl, I33, J33) ∧ ((r33 = 0 → WP ((d + 4), 206, 0, [some (.ref 71), some (.int 43)], [], (xSH L dr tl, I33, J33)) (fun v M => ∃ (r35 : Int32) (I35 : Nat → Nat → Int32) (J35 : Nat → Nat → Int64), v = some (.int r35) ∧ M = (xSH L dr tl, I35, J35) ∧ ((r35 = 0 → WP ((d + 4), 206, 0, [some (.ref 71), some (.int 45)], [], (xSH L dr tl, I35, J35)) (fun v M => ∃ (r38 : Int32) (I38 : Nat → Nat → Int32) (J38 : Nat → Nat → Int64), v = some (.int r38) ∧ M = (xSH L dr tl, I38, J38) ∧ ((r38 = 0 → WP ((d + 4), 229, 0, [some (.ref 71), none], [], (xSH L dr tl, I38, J38)) (fun v M => ∃ (r40 : Int32) (I40 : Nat → Nat → Int32) (J40 : Nat → Nat → Int64), v = some (.int r40) ∧ M = (xSH L dr tl, I40, J40) ∧ ((r40 = 21 → WP ((d + 4), 207, 0, [some (.ref 71), some (.int 44)], [], (xSH L dr tl, I40, J40)) (fun v M => ∃ (I42 : Nat → Nat → Int32) (J42 : Nat → Nat → Int64), v = none ∧ M = (xSH L dr tl, I42, J42) ∧ (((I42 71 5) = 0 → WP ((d + 4), 230, 0, [some (.ref 71)], [], (xSH L dr tl, I42, J42)) (fun v M => ∃ (I44 : Nat → Nat → Int32) (J44 : Nat → Nat → Int64), v = none ∧ M = (xSH L dr tl, I44, J44) ∧ (xin ((I44 71 46) - 1) 1700 = true ∧ (xin ((I44 71 46) - 1) 1700 = true ∧ Q (some (.int 1)) (xSH L dr tl, (xwI I44 104 (xIx ((I44 71 46) - 1)) ((I44 104 (xIx ((I44 71 46) - 1))) + 2)), J44))))) ∧ (¬ (I42 71 5) = 0 → Q (some (.int 0)) (xSH L dr tl, I42, J42))))) ∧ (¬ r40 = 21 → WP ((d + 4), 229, 0, [some (.ref 71), none], [], (xSH L dr tl, I40, J40)) (fun v M => ∃ (r45 : Int32) (I45 : Nat → Nat → Int32) (J45 : Nat → Nat → Int64), v = some (.int r45) ∧ M = (xSH L dr tl, I45, J45) ∧ ((r45 = 22 → WP ((d + 4), 207, 0, [some (.ref 71), some (.int 44)], [], (xSH L dr tl, I45, J45)) (fun v M => ∃ (I51 : Nat → Nat → Int32) (J51 : Nat → Nat → Int64), v = none ∧ M = (xSH L dr tl, I51, J51) ∧ (((I51 71 5) = 0 → WP ((d + 4), 230, 0, [some (.ref 71)], [], (xSH L dr tl, I51, J51)) (fun v M => ∃ (I53 : Nat → Nat → Int32) (J53 : Nat → Nat → Int64), v = none ∧ M = (xSH L dr tl, I53, J53) ∧ (xin ((I53 71 46) - 1) 1700 = true ∧ (xin ((I53 71 46) - 1) 1700 = true ∧ Q (some (.int 1)) (xSH L dr tl, (xwI I53 104 (xIx ((I53 71 46) - 1)) ((I53 104 (xIx ((I53 71 46) - 1))) + 2)), J53))))) ∧ (¬ (I51 71 5) = 0 → Q (some (.int 0)) (xSH L dr tl, I51, J51))))) ∧ (¬ r45 = 22 → WP ((d + 4), 229, 0, [some (.ref 71), none], [], (xSH L dr tl, I45, J45)) (fun v M => ∃ (r47 : Int32) (I47 : Nat → Nat → Int32) (J47 : Nat → Nat → Int64), v = some (.int r47) ∧ M = (xSH L dr tl, I47, J47) ∧ ((r47 = (-1) → Q (some (.int 0)) (xSH L dr tl, I47, J47)) ∧ (¬ r47 = (-1) → (((I47 71 5) = 0 → WP ((d + 4), 199, 0, [some (.ref 71), some (.int 1), some (.int (I47 71 2))], [], (xSH L dr tl, I47, J47)) (fun v M => ∃ (I50 : Nat → Nat → Int32) (J50 : Nat → Nat → Int64), v = none ∧ M = (xSH L dr tl, I50, J50) ∧ Q (some (.int 0)) (xSH L dr tl, I50, J50))) ∧ (¬ (I47 71 5) = 0 → Q (some (.int 0)) (xSH L dr tl, I47, J47))))))))))))) ∧ (¬ r38 = 0 → (xin ((I38 71 2) - 1) 1600 = true ∧ (((I38 72 (xIx ((I38 71 2) - 1))) = 43 → WP ((d + 5), 232, 243, [some (.ref 71), some (.int 1)], [], (xSH L dr tl, I38, J38)) Q) ∧ (¬ (I38 72 (xIx ((I38 71 2) - 1))) = 43 → WP ((d + 5), 232, 243, [some (.ref 71), some (.int 2)], [], (xSH L dr tl, I38, J38)) Q))))))) ∧ (¬ r35 = 0 → (xin ((I35 71 2) - 1) 1600 = true ∧ (((I35 72 (xIx ((I35 71 2) - 1))) = 43 → WP ((d + 5), 232, 243, [some (.ref 71), some (.int 1)], [], (xSH L dr tl, I35, J35)) Q) ∧ (¬ (I35 72 (xIx ((I35 71 2) - 1))) = 43 → WP ((d + 5), 232, 243, [some (.ref 71), some (.int 2)], [], (xSH L dr tl, I35, J35)) Q))))))) ∧ (¬ r33 = 0 → (xin ((I33 71 2) - 1) 1600 = true ∧ (((I33 72 (xIx ((I33 71 2) - 1))) = 42 → WP ((d + 5), 232, 158, [some (.ref 71), some (.int 3)], [], (xSH L dr tl, I33, J33)) Q) ∧ (¬ (I33 72 (xIx ((I33 71 2) - 1))) = 42 → WP ((d + 5), 232, 158, [some (.ref 71), some (.int 4)], [], (xSH L dr tl, I33, J33)) Q))))))) ∧ (¬ r30 = 0 → (xin ((I30 71 2) - 1) 1600 = true ∧ (((I30 72 (xIx ((I30 71 2) - 1))) = 42 → WP ((d + 5), 232, 158, [some (.ref 71), some (.int 3)], [], (xSH L dr tl, I30, J30)) Q) ∧ (¬ (I30 72 (xIx ((I30 71 2) - 1))) = 42 → WP ((d + 5), 232, 158, [some (.ref 71), some (.int 4)], [], (xSH L dr tl, I30, J30)) Q)))))) := by
  have n1600 := mt.1.1
  have hs := h.1.1
  have t42 : (42 : Int32).toInt = 42 := rfl
  have t43 : (43 : Int32).toInt = 43 := rfl
  have look : ∀ (m : Int) (I1 : Nat → Nat → Int32), isMk t m s → frX I I1 → (I1 71 2).toInt = ((qq t s + 1 : Nat) : Int) → xin (I1 71 2 - 1) 1600 = true ∧ (I1 72 (xIx (I1 71 2 - 1))).toInt = m := by
    intro m I1 mk f1 a1
    have lt := kd_lt (isMk_0 mk)
    have e1 : (I1 71 2 - 1).toInt = qq t s := by rw [sub1 (by rw [a1]; omega), a1]; omega
    have xi : xIx (I1 71 2 - 1) = qq t s := by rw [xIx_ti, e1]; exact Int.toNat_natCast _
    refine ⟨by rw [xin_iff, e1]; omega, ?_⟩
    rw [xi, (mt.f f1).2.2 _ lt, mk.2]
  refine m_takesS (c := 42) mk42 rfl mt h.1 (fun mk I1 f1 r1 at1 => br1 ?_) (fun n1 I1 f1 g1 => br0 ?_)
  · obtain ⟨l1, l2⟩ := look 42 I1 mk f1 at1
    exact ⟨l1, hit (eq_ti.mpr (by rw [l2]; rfl)) (K3 mk I1 f1.toS (h.fx f1 r1 (adv_ge hs)))⟩
  have h1 := h.fx f1 g1.toR (Nat.le_refl _)
  refine m_takesS (c := 47) mk47 rfl (mt.f f1) h1.1 (fun mk I2 f2 r2 at1 => br1 ?_) (fun n2 I2 f2 g2 => br0 ?_)
  · obtain ⟨l1, l2⟩ := look 47 I2 mk (f1.tr f2) at1
    exact ⟨l1, sk (fun z => by rw [eq_ti, l2] at z; omega) (K4 mk I2 (f1.tr f2).toS (h1.fx f2 r2 (adv_ge hs)))⟩
  have h2 := h1.fx f2 g2.toR (Nat.le_refl _)
  have f12 := f1.tr f2
  refine m_takesS (c := 43) mk43 rfl (mt.f f12) h2.1 (fun mk I3 f3 r3 at1 => br1 ?_) (fun n3 I3 f3 g3 => br0 ?_)
  · obtain ⟨l1, l2⟩ := look 43 I3 mk (f12.tr f3) at1
    exact ⟨l1, hit (eq_ti.mpr (by rw [l2]; rfl)) (K1 mk I3 (f12.tr f3).toS (h2.fx f3 r3 (adv_ge hs)))⟩
  have h3 := h2.fx f3 g3.toR (Nat.le_refl _)
  have f13 := f12.tr f3
  refine m_takesS (c := 45) mk45 rfl (mt.f f13) h3.1 (fun mk I4 f4 r4 at1 => br1 ?_) (fun n4 I4 f4 g4 => br0 ?_)
  · obtain ⟨l1, l2⟩ := look 45 I4 mk (f13.tr f4) at1
    exact ⟨l1, sk (fun z => by rw [eq_ti, l2] at z; omega) (K2 mk I4 (f13.tr f4).toS (h3.fx f4 r4 (adv_ge hs)))⟩
  exact KN ⟨n1, n2, n3, n4⟩ I4 (f13.tr f4) (h3.fx f4 g4.toR (Nat.le_refl _)) g4.2.1
theorem go_end5 (mt : MT t I) (h : MG t s c (p ++ ((v :: W) ++ w0)) o I) (hb : (I 71 51).toInt = w0.length) (hp : op14 p) (hv : v = 21 ∨ v = 22) (KC : isMk t 44 s → ∀ I1 : Nat → Nat → Int32, frS I I1 → MG t (adv t s) (c ++ p) (((v + 2) :: W) ++ w0) o I1 → Q (some (.int 1)) (xSH L dr tl, I1, J)) (KE : ¬ isMk t 44 s → ∀ I1 : Nat → Nat → Int32, frS I I1 → ME 1598 (1, (qq t s : Int)) I1 → Q (some (.int 0)) (xSH L dr tl, I1, J)) : WP ((d + 4), 229, 0, [some (.ref 71), none], [], (xSH L dr tl, I, J)) (fun v M => ∃ (r40 : Int32) (I40 : Nat → Nat → Int32) (J40 : Nat → Nat → Int64), v = some (.int r40) ∧ M = (xSH L dr tl, I40, J40) ∧ ((r40 = 21 → WP ((d + 4), 207, 0, [some (.ref 71), some (.int 44)], [], (xSH L dr tl, I40, J40)) (fun v M => ∃ (I42 : Nat → Nat → Int32) (J42 : Nat → Nat → Int64), v = none ∧ M = (xSH L dr tl, I42, J42) ∧ (((I42 71 5) = 0 → WP ((d + 4), 230, 0, [some (.ref 71)], [], (xSH L dr tl, I42, J42)) (fun v M => ∃ (I44 : Nat → Nat → Int32) (J44 : Nat → Nat → Int64), v = none ∧ M = (xSH L dr tl, I44, J44) ∧ (xin ((I44 71 46) - 1) 1700 = true ∧ (xin ((I44 71 46) - 1) 1700 = true ∧ Q (some (.int 1)) (xSH L dr tl, (xwI I44 104 (xIx ((I44 71 46) - 1)) ((I44 104 (xIx ((I44 71 46) - 1))) + 2)), J44))))) ∧ (¬ (I42 71 5) = 0 → Q (some (.int 0)) (xSH L dr tl, I42, J42))))) ∧ (¬ r40 = 21 → WP ((d + 4), 229, 0, [some (.ref 71), none], [], (xSH L dr tl, I40, J40)) (fun v M => ∃ (r45 : Int32) (I45 : Nat → Nat → Int32) (J45 : Nat → Nat → Int64), v = some (.int r45) ∧ M = (xSH L dr tl, I45, J45) ∧ ((r45 = 22 → WP ((d + 4), 207, 0, [some (.ref 71), some (.int 44)], [], (xSH L dr tl, I45, J45)) (fun v M => ∃ (I51 : Nat → Nat → Int32) (J51 : Nat → Nat → Int64), v = none ∧ M = (xSH L dr tl, I51, J51) ∧ (((I51 71 5) = 0 → WP ((d + 4), 230, 0, [some (.ref 71)], [], (xSH L dr tl, I51, J51)) (fun v M => ∃ (I53 : Nat → Nat → Int32) (J53 : Nat → Nat → Int64), v = none ∧ M = (xSH L dr tl, I53, J53) ∧ (xin ((I53 71 46) - 1) 1700 = true ∧ (xin ((I53 71 46) - 1) 1700 = true ∧ Q (some (.int 1)) (xSH L dr tl, (xwI I53 104 (xIx ((I53 71 46) - 1)) ((I53 104 (xIx ((I53 71 46) - 1))) + 2)), J53))))) ∧ (¬ (I51 71 5) = 0 → Q (some (.int 0)) (xSH L dr tl, I51, J51))))) ∧ (¬ r45 = 22 → WP ((d + 4), 229, 0, [some (.ref 71), none], [], (xSH L dr tl, I45, J45)) (fun v M => ∃ (r47 : Int32) (I47 : Nat → Nat → Int32) (J47 : Nat → Nat → Int64), v = some (.int r47) ∧ M = (xSH L dr tl, I47, J47) ∧ ((r47 = (-1) → Q (some (.int 0)) (xSH L dr tl, I47, J47)) ∧ (¬ r47 = (-1) → (((I47 71 5) = 0 → WP ((d + 4), 199, 0, [some (.ref 71), some (.int 1), some (.int (I47 71 2))], [], (xSH L dr tl, I47, J47)) (fun v M => ∃ (I50 : Nat → Nat → Int32) (J50 : Nat → Nat → Int64), v = none ∧ M = (xSH L dr tl, I50, J50) ∧ Q (some (.int 0)) (xSH L dr tl, I50, J50))) ∧ (¬ (I47 71 5) = 0 → Q (some (.int 0)) (xSH L dr tl, I47, J47)))))))))))) := by
  have n1600 := mt.1.1
  have hs := h.1.1
  have hm : mkW (p ++ v :: W) = v := mkW_p hp (by omega)
  have mw : MWt ((p ++ v :: W) ++ w0) I := by rw [List.append_assoc]; exact h.2.2.1
  have hlen : ((p ++ v :: W) ++ w0).length ≤ 1600 := by rw [List.append_assoc]; exact h.len mt
  have t21 : (21 : Int32).toInt = 21 := rfl
  have t22 : (22 : Int32).toInt = 22 := rfl
  have e2 : (2 : Int32).toInt = 2 := rfl
  have go : WP ((d + 4), 207, 0, [some (.ref 71), some (.int 44)], [], (xSH L dr tl, I, J)) (fun v M => ∃ (I42 : Nat → Nat → Int32) (J42 : Nat → Nat → Int64), v = none ∧ M = (xSH L dr tl, I42, J42) ∧ (((I42 71 5) = 0 → WP ((d + 4), 230, 0, [some (.ref 71)], [], (xSH L dr tl, I42, J42)) (fun v M => ∃ (I44 : Nat → Nat → Int32) (J44 : Nat → Nat → Int64), v = none ∧ M = (xSH L dr tl, I44, J44) ∧ (xin ((I44 71 46) - 1) 1700 = true ∧ (xin ((I44 71 46) - 1) 1700 = true ∧ Q (some (.int 1)) (xSH L dr tl, (xwI I44 104 (xIx ((I44 71 46) - 1)) ((I44 104 (xIx ((I44 71 46) - 1))) + 2)), J44))))) ∧ (¬ (I42 71 5) = 0 → Q (some (.int 0)) (xSH L dr tl, I42, J42)))) := by
    refine m_asksS (x := .ok s) mk44 rfl mt h.1 fun I1 f1 g1 => ?_
    by_cases mk : isMk t 44 s
    · have E : bnd (.ok s) (mkF t 44) = .ok (adv t s) := if_pos mk
      rw [E] at g1
      have r1 : MR t (adv t s) I1 := g1
      have h1 := h.fx f1 r1 (adv_ge hs)
      have hb1 : (I1 71 51).toInt = w0.length := by rw [f1.2 51 (by decide) (by decide) (by decide) (by decide) (by decide)]; exact hb
      refine hit (eq0.mpr r1.2.2.2) (m_dropsTo (I0 := I1) (c := c) (p := p) (l := v :: W) hb1 (fun I2 f2 g2 z2 => ?_) (Or.inr ⟨v, W, rfl, by omega⟩) p c I1 rfl hp (mt.f f1) frS_refl rfl h1)
      have gl : (I2 71 46).toInt = (((W ++ w0).length + 1 : Nat) : Int) := g2.2.2.1.1
      have g5 : (c ++ p).length + ((W ++ w0).length + 1) + 3 ≤ (adv t s).1 := g2.2.2.2.2
      have han := adv_n (t := t) (s := s) hs
      have e46 : (I2 71 46 - 1).toInt = (W ++ w0).length := by rw [sub1 (by omega), gl]; omega
      have xi : xIx (I2 71 46 - 1) = (W ++ w0).length := by rw [xIx_ti, e46]; exact Int.toNat_natCast _
      have ev : (I2 104 (xIx (I2 71 46 - 1))).toInt = v := by rw [xi]; exact g2.2.2.1.2.1
      have ix : xin (I2 71 46 - 1) 1700 = true := by rw [xin_iff, e46]; omega
      refine ⟨ix, ix, KC mk _ ((f1.toS.tr f2).tr frS_104) ⟨g2.1, g2.2.1, ⟨gl, ?_, stk_eq g2.2.2.1.2.2 (fun k hk => ?_)⟩, g2.2.2.2.1, g5⟩⟩
      · show ((xwI I2 104 (xIx (I2 71 46 - 1)) (I2 104 (xIx (I2 71 46 - 1)) + 2)) 104 (W ++ w0).length).toInt = v + 2
        rw [xi, xg]
        rw [xi] at ev
        rw [add_ti (by rw [ev, e2]; omega) (by rw [ev, e2]; omega), ev, e2]
      · show ((xwI I2 104 (xIx (I2 71 46 - 1)) (I2 104 (xIx (I2 71 46 - 1)) + 2)) 104 k).toInt = (I2 104 k).toInt
        have hk' : k < (W ++ w0).length := hk
        rw [xi, xgn (by omega)]
    · have E : bnd (.ok s) (mkF t 44) = .error (1, (qq t s : Int)) := if_neg mk
      rw [E] at g1
      have z1 : ME 1597 (1, (qq t s : Int)) I1 := h.err mt f1 g1
      exact sk z1.1.n0 (KE mk I1 f1.toS (z1.up (by decide)))
  refine (m_markW mw hb hlen).u fun r1 q1 => ?_
  rw [hm] at q1
  rcases hv with hv | hv
  · exact hit (eq_ti.mpr (by rw [q1, hv]; rfl)) go
  · refine sk (fun z => by rw [eq_ti, q1] at z; omega) ((m_markW mw hb hlen).u fun r2 q2 => ?_)
    rw [hm] at q2
    exact hit (eq_ti.mpr (by rw [q2, hv]; rfl)) go
theorem go_end6 (mt : MT t I) (h : MG t s c (p ++ ((v :: W) ++ w0)) o I) (hat : (I 71 2).toInt = qq t s) (hb : (I 71 51).toInt = w0.length) (hp : op14 p) (hv : v = 20 ∨ v = 23 ∨ v = 24) (KE : ∀ I1 : Nat → Nat → Int32, frS I I1 → ME 1598 (1, (qq t s : Int)) I1 → Q (some (.int 0)) (xSH L dr tl, I1, J)) : WP ((d + 4), 229, 0, [some (.ref 71), none], [], (xSH L dr tl, I, J)) (fun v M => ∃ (r40 : Int32) (I40 : Nat → Nat → Int32) (J40 : Nat → Nat → Int64), v = some (.int r40) ∧ M = (xSH L dr tl, I40, J40) ∧ ((r40 = 21 → WP ((d + 4), 207, 0, [some (.ref 71), some (.int 44)], [], (xSH L dr tl, I40, J40)) (fun v M => ∃ (I42 : Nat → Nat → Int32) (J42 : Nat → Nat → Int64), v = none ∧ M = (xSH L dr tl, I42, J42) ∧ (((I42 71 5) = 0 → WP ((d + 4), 230, 0, [some (.ref 71)], [], (xSH L dr tl, I42, J42)) (fun v M => ∃ (I44 : Nat → Nat → Int32) (J44 : Nat → Nat → Int64), v = none ∧ M = (xSH L dr tl, I44, J44) ∧ (xin ((I44 71 46) - 1) 1700 = true ∧ (xin ((I44 71 46) - 1) 1700 = true ∧ Q (some (.int 1)) (xSH L dr tl, (xwI I44 104 (xIx ((I44 71 46) - 1)) ((I44 104 (xIx ((I44 71 46) - 1))) + 2)), J44))))) ∧ (¬ (I42 71 5) = 0 → Q (some (.int 0)) (xSH L dr tl, I42, J42))))) ∧ (¬ r40 = 21 → WP ((d + 4), 229, 0, [some (.ref 71), none], [], (xSH L dr tl, I40, J40)) (fun v M => ∃ (r45 : Int32) (I45 : Nat → Nat → Int32) (J45 : Nat → Nat → Int64), v = some (.int r45) ∧ M = (xSH L dr tl, I45, J45) ∧ ((r45 = 22 → WP ((d + 4), 207, 0, [some (.ref 71), some (.int 44)], [], (xSH L dr tl, I45, J45)) (fun v M => ∃ (I51 : Nat → Nat → Int32) (J51 : Nat → Nat → Int64), v = none ∧ M = (xSH L dr tl, I51, J51) ∧ (((I51 71 5) = 0 → WP ((d + 4), 230, 0, [some (.ref 71)], [], (xSH L dr tl, I51, J51)) (fun v M => ∃ (I53 : Nat → Nat → Int32) (J53 : Nat → Nat → Int64), v = none ∧ M = (xSH L dr tl, I53, J53) ∧ (xin ((I53 71 46) - 1) 1700 = true ∧ (xin ((I53 71 46) - 1) 1700 = true ∧ Q (some (.int 1)) (xSH L dr tl, (xwI I53 104 (xIx ((I53 71 46) - 1)) ((I53 104 (xIx ((I53 71 46) - 1))) + 2)), J53))))) ∧ (¬ (I51 71 5) = 0 → Q (some (.int 0)) (xSH L dr tl, I51, J51))))) ∧ (¬ r45 = 22 → WP ((d + 4), 229, 0, [some (.ref 71), none], [], (xSH L dr tl, I45, J45)) (fun v M => ∃ (r47 : Int32) (I47 : Nat → Nat → Int32) (J47 : Nat → Nat → Int64), v = some (.int r47) ∧ M = (xSH L dr tl, I47, J47) ∧ ((r47 = (-1) → Q (some (.int 0)) (xSH L dr tl, I47, J47)) ∧ (¬ r47 = (-1) → (((I47 71 5) = 0 → WP ((d + 4), 199, 0, [some (.ref 71), some (.int 1), some (.int (I47 71 2))], [], (xSH L dr tl, I47, J47)) (fun v M => ∃ (I50 : Nat → Nat → Int32) (J50 : Nat → Nat → Int64), v = none ∧ M = (xSH L dr tl, I50, J50) ∧ Q (some (.int 0)) (xSH L dr tl, I50, J50))) ∧ (¬ (I47 71 5) = 0 → Q (some (.int 0)) (xSH L dr tl, I47, J47)))))))))))) := by
  have hm : mkW (p ++ v :: W) = v := mkW_p hp (by omega)
  have mw : MWt ((p ++ v :: W) ++ w0) I := by rw [List.append_assoc]; exact h.2.2.1
  have hlen : ((p ++ v :: W) ++ w0).length ≤ 1600 := by rw [List.append_assoc]; exact h.len mt
  have t21 : (21 : Int32).toInt = 21 := rfl
  have t22 : (22 : Int32).toInt = 22 := rfl
  refine (m_markW mw hb hlen).u fun r1 q1 => sk (fun z => ?_) ((m_markW mw hb hlen).u fun r2 q2 => sk (fun z => ?_) ((m_markW mw hb hlen).u fun r3 q3 => sk (fun z => ?_) (hit (eq0.mpr h.1.2.2.2) (m_fail0 (k := 1) h.1.2.2.2 rfl (by decide) hat fun I1 f1 g1 => KE I1 f1.toS ((h.err mt f1 g1).up (by decide))))))
  · rw [eq_ti, q1, hm] at z; omega
  · rw [eq_ti, q2, hm] at z; omega
  · rw [eqm, q3, hm] at z; omega
theorem go_end7 (mt : MT t I) (h : MG t s c (p ++ w0) o I) (hb : (I 71 51).toInt = w0.length) (hp : op14 p) (K : Q (some (.int 0)) (xSH L dr tl, I, J)) : WP ((d + 4), 229, 0, [some (.ref 71), none], [], (xSH L dr tl, I, J)) (fun v M => ∃ (r40 : Int32) (I40 : Nat → Nat → Int32) (J40 : Nat → Nat → Int64), v = some (.int r40) ∧ M = (xSH L dr tl, I40, J40) ∧ ((r40 = 21 → WP ((d + 4), 207, 0, [some (.ref 71), some (.int 44)], [], (xSH L dr tl, I40, J40)) (fun v M => ∃ (I42 : Nat → Nat → Int32) (J42 : Nat → Nat → Int64), v = none ∧ M = (xSH L dr tl, I42, J42) ∧ (((I42 71 5) = 0 → WP ((d + 4), 230, 0, [some (.ref 71)], [], (xSH L dr tl, I42, J42)) (fun v M => ∃ (I44 : Nat → Nat → Int32) (J44 : Nat → Nat → Int64), v = none ∧ M = (xSH L dr tl, I44, J44) ∧ (xin ((I44 71 46) - 1) 1700 = true ∧ (xin ((I44 71 46) - 1) 1700 = true ∧ Q (some (.int 1)) (xSH L dr tl, (xwI I44 104 (xIx ((I44 71 46) - 1)) ((I44 104 (xIx ((I44 71 46) - 1))) + 2)), J44))))) ∧ (¬ (I42 71 5) = 0 → Q (some (.int 0)) (xSH L dr tl, I42, J42))))) ∧ (¬ r40 = 21 → WP ((d + 4), 229, 0, [some (.ref 71), none], [], (xSH L dr tl, I40, J40)) (fun v M => ∃ (r45 : Int32) (I45 : Nat → Nat → Int32) (J45 : Nat → Nat → Int64), v = some (.int r45) ∧ M = (xSH L dr tl, I45, J45) ∧ ((r45 = 22 → WP ((d + 4), 207, 0, [some (.ref 71), some (.int 44)], [], (xSH L dr tl, I45, J45)) (fun v M => ∃ (I51 : Nat → Nat → Int32) (J51 : Nat → Nat → Int64), v = none ∧ M = (xSH L dr tl, I51, J51) ∧ (((I51 71 5) = 0 → WP ((d + 4), 230, 0, [some (.ref 71)], [], (xSH L dr tl, I51, J51)) (fun v M => ∃ (I53 : Nat → Nat → Int32) (J53 : Nat → Nat → Int64), v = none ∧ M = (xSH L dr tl, I53, J53) ∧ (xin ((I53 71 46) - 1) 1700 = true ∧ (xin ((I53 71 46) - 1) 1700 = true ∧ Q (some (.int 1)) (xSH L dr tl, (xwI I53 104 (xIx ((I53 71 46) - 1)) ((I53 104 (xIx ((I53 71 46) - 1))) + 2)), J53))))) ∧ (¬ (I51 71 5) = 0 → Q (some (.int 0)) (xSH L dr tl, I51, J51))))) ∧ (¬ r45 = 22 → WP ((d + 4), 229, 0, [some (.ref 71), none], [], (xSH L dr tl, I45, J45)) (fun v M => ∃ (r47 : Int32) (I47 : Nat → Nat → Int32) (J47 : Nat → Nat → Int64), v = some (.int r47) ∧ M = (xSH L dr tl, I47, J47) ∧ ((r47 = (-1) → Q (some (.int 0)) (xSH L dr tl, I47, J47)) ∧ (¬ r47 = (-1) → (((I47 71 5) = 0 → WP ((d + 4), 199, 0, [some (.ref 71), some (.int 1), some (.int (I47 71 2))], [], (xSH L dr tl, I47, J47)) (fun v M => ∃ (I50 : Nat → Nat → Int32) (J50 : Nat → Nat → Int64), v = none ∧ M = (xSH L dr tl, I50, J50) ∧ Q (some (.int 0)) (xSH L dr tl, I50, J50))) ∧ (¬ (I47 71 5) = 0 → Q (some (.int 0)) (xSH L dr tl, I47, J47)))))))))))) := by
  have hm : mkW p = -1 := mkW_n hp
  have t21 : (21 : Int32).toInt = 21 := rfl
  have t22 : (22 : Int32).toInt = 22 := rfl
  refine (m_markW h.2.2.1 hb (h.len mt)).u fun r1 q1 => sk (fun z => ?_) ((m_markW h.2.2.1 hb (h.len mt)).u fun r2 q2 => sk (fun z => ?_) ((m_markW h.2.2.1 hb (h.len mt)).u fun r3 q3 => hit (eqm.mpr (by rw [q3, hm])) K))
  · rw [eq_ti, q1, hm] at z; omega
  · rw [eq_ti, q2, hm] at z; omega
end MSUM2
