/-! ===== book: the reference's loop over the statements ===== -/
def bW (I : Nat → Nat → Int32) : Nat → Nat → Int32 := xwI (xwI I 71 7 (I 71 5)) 71 8 ((xwI I 71 7 (I 71 5)) 71 6)
def bTail (L d dr tl : Nat) (I : Nat → Nat → Int32) (J : Nat → Nat → Int64) (Q : Option Value → xMem → Prop) : Prop := ((bW I 71 5) = 0 → WP (d, 223, 0, [some (.ref 71), none, none], [], (xSH L dr tl, bW I, J)) (fun v M => ∃ (I7 : Nat → Nat → Int32) (J7 : Nat → Nat → Int64), v = none ∧ M = (xSH L dr tl, I7, J7) ∧ Q (some (.int (I7 71 42))) (xSH L dr tl, I7, J7))) ∧ (¬ (bW I 71 5) = 0 → Q (some (.int (-1))) (xSH L dr tl, bW I, J))
section MLOOP
variable {t : Tp} {L d dr tl : Nat} {I I0 I1 I2 : Nat → Nat → Int32} {J J0 J1 J2 : Nat → Nat → Int64} {a0 a1 a2 a3 a4 : Int32} {s s' : Lx} {v o l : Int} {R : (Nat → Nat → Int32) → (Nat → Nat → Int64) → Prop} {Q : Option Value → xMem → Prop} {x : RX Lx} {c : List Int} {B : aS} {e : Int × Int} {b : Bk} {Z : RX (Bk × Int)}
theorem tb_e (mt : TB t) : tb t (qq t s : Int) = -1 ↔ kd t s = 0 := by
  rw [kd_0]
  unfold tb
  constructor
  · intro h
    by_cases g : qq t s < t.2
    · rw [if_pos ⟨by omega, by omega⟩, Int.toNat_natCast] at h
      have := (mt.2 _ g).1
      omega
    · omega
  · intro h
    exact if_neg (by omega)
theorem bookE (m : Nat) (n : Int) (h : kd t s ≠ 0) : bookF t (m + 1) s b n = bnd (stmE t b s) fun x => bookF t m x.1 x.2 (n + 1) := by
  have E : bookF t (m + 1) s b n = if kd t s = 0 then .ok (b, n) else bnd (stmF t b s) fun x => bnd (mkF t 59 x.1) fun s' => bookF t m s' x.2 (n + 1) := rfl
  rw [E, if_neg h]
  unfold stmE
  cases stmF t b s with
  | error e => rfl
  | ok x =>
    show (bnd (mkF t 59 x.1) fun s' => bookF t m s' x.2 (n + 1)) = bnd (bnd (mkF t 59 x.1) fun s' => .ok (s', x.2)) fun x => bookF t m x.1 x.2 (n + 1)
    cases mkF t 59 x.1 with
    | error e => rfl
    | ok y => rfl
theorem stmE_wb {x : St} (hn : t.2 ≤ 1600) (w : WB b) (hs : s.1 ≤ t.2) (hc : b.2.length ≤ s.1) (h : stmE t b s = .ok x) : WB x.2 ∧ x.1.1 ≤ t.2 ∧ x.2.2.length ≤ x.1.1 := by
  unfold stmE at h
  cases h1 : stmF t b s with
  | error e => rw [h1] at h; cases h
  | ok y =>
    rw [h1] at h
    have h2 : (bnd (mkF t 59 y.1) fun s' => (.ok (s', y.2) : RX St)) = .ok x := h
    obtain ⟨q1, q2, q3⟩ := stm_wb hn w hs hc h1
    cases h3 : mkF t 59 y.1 with
    | error e => rw [h3] at h2; cases h2
    | ok z =>
      rw [h3] at h2
      have h4 : (.ok (z, y.2) : RX St) = .ok x := h2
      cases h4
      obtain ⟨r1, r2⟩ := mkF_ok q2 h3
      exact ⟨q1, r1, by show y.2.2.length ≤ z.1; omega⟩
theorem m_bad (h : MZ e I) (K : bTail L (d + 11) dr tl I J Q) : WP ((d + 12), 222, 70, [some (.ref 71), none], [], (xSH L dr tl, I, J)) Q := w222_70 ⟨fun z => absurd z h.n0, fun _ => K⟩
theorem m_bloop (K : ∀ (I1 : Nat → Nat → Int32) (J1 : Nat → Nat → Int64), frK I0 I1 J0 J1 → BMo t Z I1 J1 → bTail L (d + 11) dr tl I1 J1 Q) : ∀ (m n : Nat) (s : Lx) (b : Bk) (I : Nat → Nat → Int32) (J : Nat → Nat → Int64), n + m = 80 → MT t I → WA I → MR t s I → MC b.2 I → MD b.1 I J → WB b → b.2.length ≤ s.1 → (I 71 42).toInt = n → frK I0 I J0 J → bookF t m s b n = Z → WP ((d + 12), 222, 70, [some (.ref 71), none], [], (xSH L dr tl, I, J)) Q := by
  intro m
  induction m with
  | zero =>
    intro n s b I J hn mt wa h mc md w hc h42 fr hZ
    have E : bookF t 0 s b n = if kd t s = 0 then .ok (b, (n : Int)) else .error (5, (qq t s : Int)) := rfl
    rw [E] at hZ
    refine w222_70 (hit (eq0.mpr h.2.2.2) (m_look mt h fun r I1 f1 g1 e1 => ?_))
    have fk1 : frK I I1 J J := f1.toB.k
    have q42 : (I1 71 42).toInt = n := by rw [f1.2 42 (by decide) (by decide) (by decide) (by decide) (by decide)]; exact h42
    refine brz eqm (fun y => ?_) (fun y => ?_)
    · rw [if_pos ((tb_e mt.1).mp (e1.symm.trans y))] at hZ
      refine K I1 J (fr.tr fk1) ?_
      rw [← hZ]
      exact ⟨g1.2.2.2, g1.2.2.1.2, mc.fx f1, md.fx f1, w, q42⟩
    · rw [if_neg (fun z => y (e1.trans ((tb_e mt.1).mpr z)))] at hZ
      refine w221_0 (hit (eq_ti.mpr (by rw [q42]; show (n : Int) = 80; omega)) (m_fail0 (k := 5) g1.2.2.2 rfl (by decide) g1.2.1 fun I2 f2 z2 => ⟨I2, J, rfl, rfl, m_bad z2 (K I2 J ((fr.tr fk1).tr f2.toB.k) ?_)⟩))
      rw [← hZ]
      exact z2
  | succ m ih =>
    intro n s b I J hn mt wa h mc md w hc h42 fr hZ
    refine w222_70 (hit (eq0.mpr h.2.2.2) (m_look mt h fun r I1 f1 g1 e1 => ?_))
    have fk1 : frK I I1 J J := f1.toB.k
    have q42 : (I1 71 42).toInt = n := by rw [f1.2 42 (by decide) (by decide) (by decide) (by decide) (by decide)]; exact h42
    refine brz eqm (fun y => ?_) (fun y => ?_)
    · have E : bookF t (m + 1) s b n = if kd t s = 0 then .ok (b, (n : Int)) else bnd (stmF t b s) fun x => bnd (mkF t 59 x.1) fun s' => bookF t m s' x.2 (n + 1) := rfl
      rw [E, if_pos ((tb_e mt.1).mp (e1.symm.trans y))] at hZ
      refine K I1 J (fr.tr fk1) ?_
      rw [← hZ]
      exact ⟨g1.2.2.2, g1.2.2.1.2, mc.fx f1, md.fx f1, w, q42⟩
    · rw [bookE m n (fun z => y (e1.trans ((tb_e mt.1).mpr z)))] at hZ
      have mt1 := mt.fk fk1
      have wa1 := wa.fk fk1
      refine m_stm (n := n) mt1 wa1 g1 (mc.fx f1) (md.fx f1) w hc q42 ⟨by omega, by omega⟩ fun I2 J2 f2 g2 e2 => ?_
      cases hs : stmE t b s with
      | error e =>
        rw [hs] at g2 hZ
        have g2' : MZ e I2 := g2
        refine m_bad g2' (K I2 J2 ((fr.tr fk1).tr f2) ?_)
        rw [← hZ]
        exact g2'
      | ok x =>
        rw [hs] at g2 hZ
        obtain ⟨g3, g4, g5⟩ : MR t x.1 I2 ∧ MC x.2.2 I2 ∧ MD x.2.1 I2 J2 := g2
        obtain ⟨w1, w2, w3⟩ := stmE_wb mt.1.1 w h.1 hc hs
        have hZ' : bookF t m x.1 x.2 (n + 1) = Z := hZ
        exact ih (n + 1) x.1 x.2 I2 J2 (by omega) (mt1.fk f2) (wa1.fk f2) g3 g4 g5 w1 w3 (by rw [e2]; omega) ((fr.tr fk1).tr f2) hZ'
end MLOOP
