/-! ===== book: the reference's words; a statement; a text ===== -/
def frK (I I1 : Nat → Nat → Int32) (J J1 : Nat → Nat → Int64) : Prop := (∀ a : Nat, a ≠ 71 → a ≠ 92 → a ≠ 97 → a ≠ 98 → a ≠ 104 → ∀ j : Nat, lim a ≤ j → I1 a j = I a j) ∧ (∀ j : Nat, j ≠ 42 → ¬ fre j → I1 71 j = I 71 j) ∧ (∀ a : Nat, a ≠ 94 → J1 a = J a) ∧ ∀ j : Nat, 10 ≤ j → J1 94 j = J 94 j
/-- behind the whole text -/
def BMo (t : Tp) (x : RX (Bk × Int)) (I : Nat → Nat → Int32) (J : Nat → Nat → Int64) : Prop := match x with
  | .ok y => (I 71 5).toInt = 0 ∧ (I 71 6).toInt = -1 ∧ MC y.1.2 I ∧ MD y.1.1 I J ∧ WB y.1 ∧ (I 71 42).toInt = y.2
  | .error e => MZ e I
section MBOOK
variable {t : Tp} {L d dr tl : Nat} {I I0 I1 I2 : Nat → Nat → Int32} {J J0 J1 J2 : Nat → Nat → Int64} {a0 a1 a2 a3 a4 : Int32} {s s' : Lx} {v o l : Int} {R : (Nat → Nat → Int32) → (Nat → Nat → Int64) → Prop} {Q : Option Value → xMem → Prop} {x : RX Lx} {c : List Int} {B : aS} {e : Int × Int} {kn N M q r : Nat} {P : Prop} {b : Bk} {Z : RX (Bk × Int)}
theorem frB.k (h : frB I I1 J J1) : frK I I1 J J1 := ⟨h.1, fun j _ g => h.2.1 j g, h.2.2⟩
theorem frK_refl : frK I I J J := ⟨fun _ _ _ _ _ _ _ _ => rfl, fun _ _ _ => rfl, fun _ _ => rfl, fun _ _ => rfl⟩
theorem frK.tr (h : frK I I1 J J1) (h' : frK I1 I2 J1 J2) : frK I I2 J J2 := ⟨fun a g1 g2 g3 g4 g5 j hj => (h'.1 a g1 g2 g3 g4 g5 j hj).trans (h.1 a g1 g2 g3 g4 g5 j hj), fun j g1 g => (h'.2.1 j g1 g).trans (h.2.1 j g1 g), fun a g => (h'.2.2.1 a g).trans (h.2.2.1 a g), fun j g => (h'.2.2.2 j g).trans (h.2.2.2 j g)⟩
theorem frK_42 {z : Int32} : frK I (xwI I 71 42 z) J J := ⟨fun a g1 _ _ _ _ j _ => by rw [xwI_ne g1], fun j g _ => xgn g, fun _ _ => rfl, fun _ _ => rfl⟩
theorem MT.fk (h : MT t I) (f : frK I I1 J J1) : MT t I1 := by
  refine ⟨h.1, by rw [f.2.1 3 (by decide) (by unfold fre; omega)]; exact h.2.1, fun j hj => by rw [f.1 72 (by decide) (by decide) (by decide) (by decide) (by decide) j (Nat.zero_le _)]; exact h.2.2 j hj⟩
theorem WA.fk (h : WA I) (f : frK I I1 J J1) : WA I1 := fun k hk j hj => by rw [f.1 (73 + k) (by omega) (by omega) (by omega) (by omega) (by omega) j (by rw [lim_w hk]; exact Nat.zero_le _)]; exact h k hk j hj
theorem m_wordT : MTs L dr tl t 219 2 (wordF t) (d + 6) := by
  intro s b a1 I J R mt wa h mc md w hc hs ha K
  have nW := w.nW
  have e93 : (I 93 3).toInt = ((sNW b.1).toNat : Int) := by rw [nW.2]; exact md.1.2.2.2.1
  have l100 : lim 100 = 16 := rfl
  have l101 : lim 101 = 192 := rfl
  refine w219_0 (m_isFull (s := s) (kn := 3) (N := (sNW b.1).toNat) (M := 16) h rfl (by decide) e93 rfl nW.1 ha (fun lt => br0 ?_) (fun ge I1 f1 z1 => br1 ⟨I1, J, rfl, rfl, K I1 J f1.toB ?_⟩))
  · have hO : opn t (16 ≤ (sNW b.1).toNat) s = .ok (adv t s) := if_neg lt
    have E : wordF t b s = bnd (chS t 12 (adv t s)) fun s2 => wdN t b s2 := by unfold wordF; rw [hO]; rfl
    refine m_spell (n := 12) (x := .ok (adv t s)) (by decide) mt h rfl fun I3 f3 g3 sb sp => ?_
    have E12 : bnd (.ok (adv t s)) (spF t 12) = bnd (chS t 12 (adv t s)) (stp t) := rfl
    rw [E12] at g3
    have a93 : (I3 93 3).toInt = ((sNW b.1).toNat : Int) := by rw [f3.1 93 (by decide) (by decide)]; exact e93
    -- behind a fault nothing is told
    have bad : ∀ (e : Int × Int) (I4 : Nat → Nat → Int32), frB I I4 J J → MZ e I4 → wordF t b s = .error e → ∀ (m i : Nat) (a3 : Int32), i + m = (sNW b.1).toNat → a3.toInt = i → WP ((d + 6), 219, 27, [some (.ref 71), none, some (.int (I3 93 3)), some (.int a3)], [], (xSH L dr tl, I4, J)) (fun v M => ∃ (I2 : Nat → Nat → Int32) (J2 : Nat → Nat → Int64), v = none ∧ M = (xSH L dr tl, I2, J2) ∧ R I2 J2) := by
      intro e I4 f4 z4 hE m
      induction m with
      | zero =>
        intro i a3 hi h3
        exact w219_27 (sk (fun y => by rw [lt_ti, a93] at y; omega) (sk z4.n0 ⟨I4, J, rfl, rfl, K I4 J f4 (by rw [hE]; exact z4)⟩))
      | succ m ih =>
        intro i a3 hi h3
        exact w219_27 (hit (lt_ti.mpr (by rw [a93]; omega)) (sk z4.n0 (ih (i + 1) (a3 + 1) (by omega) (by rw [add1 (by omega) (by omega), h3]; rfl))))
    cases hw : chS t 12 (adv t s) with
    | error e =>
      rw [hw] at g3 E
      exact bad e I3 f3.toB g3 E (sNW b.1).toNat 0 0 (by omega) rfl
    | ok s2 =>
      obtain ⟨e2, k2, l2⟩ := chS_ok hw
      subst e2
      rw [hw] at g3 E
      have g3' : MR t (adv t (adv t s)) I3 := g3
      obtain ⟨p29, sp1⟩ := sp (adv t s) (adv t s) rfl hw
      have E1 : wordF t b s = wdN t b (adv t s) := E
      unfold wdN at E1
      have hle := ps_le (t := t) (s := adv t s) h.1
      have hpn := ps_n (t := t) (s := adv t s) h.1
      have md3 := md.fn f3
      have mc3 := mc.fn f3
      have xN : xIx (I3 93 3) = (sNW b.1).toNat := by rw [xIx_ti, a93]; exact Int.toNat_natCast _
      have e12 : (12 : Int32).toInt = 12 := rfl
      have em : (12 * I3 93 3).toInt = ((12 * (sNW b.1).toNat : Nat) : Int) := by rw [mul_ti (by rw [e12, a93]; omega) (by rw [e12, a93]; omega), e12, a93]; omega
      -- the copying
      have copy : fdW t b.1 (adv t s) = -1 → ∀ (m j : Nat) (a3 : Int32) (I4 : Nat → Nat → Int32), j + m = ps t (adv t s) - qq t (adv t s) → a3.toInt = j → (∀ a : Nat, a ≠ 101 → I4 a = xwI I3 100 (sNW b.1).toNat (I3 71 31) a) → (∀ i : Nat, i < 12 * (sNW b.1).toNat ∨ 192 ≤ i → I4 101 i = I3 101 i) → (∀ i : Nat, i < j → I4 101 (12 * (sNW b.1).toNat + i) = I3 92 i) → WP ((d + 6), 219, 82, [some (.ref 71), none, some (.int (I3 93 3)), some (.int a3)], [], (xSH L dr tl, I4, J)) (fun v M => ∃ (I2 : Nat → Nat → Int32) (J2 : Nat → Nat → Int64), v = none ∧ M = (xSH L dr tl, I2, J2) ∧ R I2 J2) := by
        intro fd m
        rw [if_neg (fun z => z fd)] at E1
        induction m with
        | zero =>
          intro j a3 I4 hj h3 o4 p4 q4
          have i31 : (I4 71 31).toInt = ((ps t (adv t s) - qq t (adv t s) : Nat) : Int) := by rw [o4 71 (by decide), xwI_ne (by decide)]; exact sp1.1
          have i71 : I4 71 = I3 71 := by rw [o4 71 (by decide), xwI_ne (by decide)]
          refine w219_82 (sk (fun y => by rw [lt_ti, i31] at y; omega) ⟨_, J, rfl, rfl, K _ J ?_ ?_⟩)
          · refine (f3.toB.tr (frB_w (a := 100) (k := (sNW b.1).toNat) (z := I3 71 31) (Or.inl (by rw [l100]; omega)) (by decide))).tr (frB.tr (I1 := I4) ⟨fun a g1 g2 g3 g4 g5 j hj => ?_, fun j _ => by rw [o4 71 (by decide)], fun _ _ => rfl, fun _ _ => rfl⟩ (frB_w (a := 93) (Or.inl (by decide)) (by decide)))
            by_cases e : a = 101
            · subst e
              rw [p4 j (Or.inr (by rw [l101] at hj; exact hj)), xwI_ne (by decide)]
            · rw [o4 a e]
          · rw [E1]
            have g3'' : MR t (adv t (adv t s)) I4 := by unfold MR E4 at *; rw [i71]; exact g3'
            have mc4 : MC b.2 I4 := by unfold MC at *; rw [i71, o4 103 (by decide), xwI_ne (by decide)]; exact mc3
            refine ⟨g3'', mc4, MD.word (N := (sNW b.1).toNat) (I := I3) md3 w nW.2 hle ?_ ?_ (fun k hk => ?_) (fun j hj => ?_) (fun j hj => ?_) (fun j hj => ?_) (fun a g1 g2 g3 g4 => ?_)⟩
            · rw [xg, o4 93 (by decide), xwI_ne (by decide), add1 (by rw [a93]; omega) (by rw [a93]; omega), a93]; omega
            · rw [xwI_ne (by decide), o4 100 (by decide), xg, sp1.1]; omega
            · rw [xwI_ne (by decide), q4 k (by omega)]
              exact sp1.2 k hk
            · rw [xgn hj, o4 93 (by decide), xwI_ne (by decide)]
            · rw [xwI_ne (by decide), o4 100 (by decide), xgn hj]
            · rw [xwI_ne (by decide), p4 j (Or.inl hj)]
            · rw [xwI_ne g1, o4 a g3, xwI_ne g2]
        | succ m ih =>
          intro j a3 I4 hj h3 o4 p4 q4
          have i31 : (I4 71 31).toInt = ((ps t (adv t s) - qq t (adv t s) : Nat) : Int) := by rw [o4 71 (by decide), xwI_ne (by decide)]; exact sp1.1
          have x3 : xIx a3 = j := by rw [xIx_ti, h3]; exact Int.toNat_natCast _
          have ea : (12 * I3 93 3 + a3).toInt = ((12 * (sNW b.1).toNat + j : Nat) : Int) := by rw [add_ti (by rw [em]; omega) (by rw [em]; omega), em]; omega
          have xa : xIx (12 * I3 93 3 + a3) = 12 * (sNW b.1).toNat + j := by rw [xIx_ti, ea]; exact Int.toNat_natCast _
          refine w219_82 (hit (lt_ti.mpr (by rw [i31]; omega)) ⟨by rw [xin_iff]; omega, by rw [xin_iff, ea]; omega, ?_⟩)
          rw [xa, x3]
          refine ih (j + 1) (a3 + 1) _ (by omega) (by rw [add1 (by omega) (by omega), h3]; rfl) (fun a g => by rw [xwI_ne g]; exact o4 a g) (fun i hi => by rw [xgn (by omega)]; exact p4 i hi) (fun i hi => ?_)
          by_cases e : i = j
          · rw [e, xg, o4 92 (by decide), xwI_ne (by decide)]
          · rw [xgn (by omega)]; exact q4 i (by omega)
      -- words of the same letters
      have look : ∀ (m i : Nat) (a3 : Int32), i + m = (sNW b.1).toNat → a3.toInt = i → fdW t b.1 (adv t s) = fdI t (qq t (adv t s) : Int) (ps t (adv t s) : Int) (b.1 11) (fun i k => b.1 12 (12 * i + k)) m i → WP ((d + 6), 219, 27, [some (.ref 71), none, some (.int (I3 93 3)), some (.int a3)], [], (xSH L dr tl, I3, J)) (fun v M => ∃ (I2 : Nat → Nat → Int32) (J2 : Nat → Nat → Int64), v = none ∧ M = (xSH L dr tl, I2, J2) ∧ R I2 J2) := by
        intro m
        induction m with
        | zero =>
          intro i a3 hi h3 hf
          refine w219_27 (sk (fun y => by rw [lt_ti, a93] at y; omega) (hit (eq0.mpr g3'.2.2.2) ⟨by rw [xin_iff, a93]; omega, ?_⟩))
          rw [xN]
          exact copy hf (ps t (adv t s) - qq t (adv t s)) 0 0 _ (by omega) rfl (fun _ _ => rfl) (fun i _ => by rw [xwI_ne (by decide)]) (fun i hi => absurd hi (Nat.not_lt_zero _))
        | succ m ih =>
          intro i a3 hi h3 hf
          have Ef : fdI t (qq t (adv t s) : Int) (ps t (adv t s) : Int) (b.1 11) (fun i k => b.1 12 (12 * i + k)) (m + 1) i = @ite Int (spE t (qq t (adv t s) : Int) (ps t (adv t s) : Int) (b.1 11 i) (fun k => b.1 12 (12 * i + k))) (Classical.propDecidable _) (i : Int) (fdI t (qq t (adv t s) : Int) (ps t (adv t s) : Int) (b.1 11) (fun i k => b.1 12 (12 * i + k)) m (i + 1)) := rfl
          rw [Ef] at hf
          have i2 : (a3 + 1).toInt = ((i + 1 : Nat) : Int) := by rw [add1 (by omega) (by omega), h3]; rfl
          refine w219_27 (hit (lt_ti.mpr (by rw [a93]; omega)) (hit (eq0.mpr g3'.2.2.2) ((m_isSpelt (i := i) md3 w (by omega) h3 sp1 rfl hle hpn (by omega)).u (fun y => br1 ?_) (fun y => br0 ?_))))
          · rw [if_pos y] at hf
            have hE : wordF t b s = .error (3, (qq t (adv t s) : Int)) := by rw [E1, if_pos (by rw [hf]; omega)]
            exact m_fail0 (k := 3) g3'.2.2.2 rfl (by decide) p29 fun I4 f4 z4 => bad _ I4 (f3.toB.tr f4.toB) z4 hE m (i + 1) (a3 + 1) (by omega) i2
          · rw [if_neg y] at hf
            exact ih (i + 1) (a3 + 1) (by omega) i2 hf
      exact look (sNW b.1).toNat 0 0 (by omega) rfl rfl
  · have hO : opn t (16 ≤ (sNW b.1).toNat) s = .error (5, (qq t s : Int)) := if_pos ge
    have E : wordF t b s = .error (5, (qq t s : Int)) := by unfold wordF; rw [hO]; rfl
    rw [E]; exact z1
/-- a statement and its end -/
noncomputable def stmE (t : Tp) (b : Bk) (s : Lx) : RX St := bnd (stmF t b s) fun x => bnd (mkF t 59 x.1) fun s' => .ok (s', x.2)
theorem m_stm {n : Int} (mt : MT t I) (wa : WA I) (g : MQx t s I) (mc : MC b.2 I) (md : MD b.1 I J) (w : WB b) (hc : b.2.length ≤ s.1) (h42 : (I 71 42).toInt = n) (hn : 0 ≤ n ∧ n < 80) (K : ∀ (I1 : Nat → Nat → Int32) (J1 : Nat → Nat → Int64), frK I I1 J J1 → SMo t (stmE t b s) I1 J1 → (I1 71 42).toInt = n + 1 → R I1 J1) : WP ((d + 11), 221, 0, [some (.ref 71), none], [], (xSH L dr tl, I, J)) (fun v M => ∃ (I2 : Nat → Nat → Int32) (J2 : Nat → Nat → Int64), v = none ∧ M = (xSH L dr tl, I2, J2) ∧ R I2 J2) := by
  have e80 : (80 : Int32).toInt = 80 := rfl
  have hs := g.1
  have after : ∀ (I3 : Nat → Nat → Int32) (J3 : Nat → Nat → Int64), frB I I3 J J3 → SMo t (stmF t b s) I3 J3 → WP ((d + 10), 207, 0, [some (.ref 71), some (.int 59)], [], (xSH L dr tl, I3, J3)) (fun v M => ∃ (I20 : Nat → Nat → Int32) (J20 : Nat → Nat → Int64), v = none ∧ M = (xSH L dr tl, I20, J20) ∧ ∃ (I2 : Nat → Nat → Int32) (J2 : Nat → Nat → Int64), (none : Option Value) = none ∧ (xSH L dr tl, (xwI I20 71 42 ((I20 71 42) + 1)), J20) = (xSH L dr tl, I2, J2) ∧ R I2 J2) := by
    intro I3 J3 f3 g3
    have q42 : (I3 71 42).toInt = n := by rw [f3.2.1 42 (by unfold fre; omega)]; exact h42
    have fin : ∀ I4 : Nat → Nat → Int32, frX I3 I4 → SMo t (stmE t b s) I4 J3 → ∃ (I2 : Nat → Nat → Int32) (J2 : Nat → Nat → Int64), (none : Option Value) = none ∧ (xSH L dr tl, (xwI I4 71 42 ((I4 71 42) + 1)), J3) = (xSH L dr tl, I2, J2) ∧ R I2 J2 := by
      intro I4 f4 g4
      have r42 : (I4 71 42).toInt = n := by rw [f4.2 42 (by decide) (by decide) (by decide) (by decide) (by decide)]; exact q42
      refine ⟨_, J3, rfl, rfl, K _ J3 ((f3.tr f4.toB).k.tr frK_42) ?_ ?_⟩
      · cases hx : stmE t b s with
        | ok y => rw [hx] at g4; exact g4
        | error e => rw [hx] at g4; exact g4
      · rw [xg, add1 (by rw [r42]; omega) (by rw [r42]; omega), r42]
    cases hx : stmF t b s with
    | error e =>
      rw [hx] at g3
      refine m_asksS (x := .error e) mk59 rfl (mt.fb f3) g3 fun I4 f4 g4 => fin I4 f4 ?_
      have E : stmE t b s = .error e := by unfold stmE; rw [hx]; rfl
      rw [E]; exact g4
    | ok x =>
      rw [hx] at g3
      obtain ⟨r3, c3, d3⟩ : MR t x.1 I3 ∧ MC x.2.2 I3 ∧ MD x.2.1 I3 J3 := g3
      refine m_asksS (x := .ok x.1) mk59 rfl (mt.fb f3) r3 fun I4 f4 g4 => fin I4 f4 ?_
      have g4' : MX t (mkF t 59 x.1) I4 := g4
      have E : stmE t b s = bnd (mkF t 59 x.1) fun s' => .ok (s', x.2) := by unfold stmE; rw [hx]; rfl
      cases hm : mkF t 59 x.1 with
      | error e => rw [hm] at g4' E; rw [E]; exact g4'
      | ok s' => rw [hm] at g4' E; rw [E]; exact ⟨g4', c3.fx f4, d3.fx f4⟩
  have at0 := g.2.1
  refine w221_0 (sk (fun z => by rw [eq_ti, h42] at z; omega) (m_takes (k := 0) (by decide) mt wa g.toR (fun e I1 f1 r1 => br1 ?_) (fun e0 I1 f1 g1 => br0 ?_)))
  · have E' : stmF t b s = inkF t b s := if_pos e
    exact m_inkT (d := d + 4) s b _ I1 J _ (mt.f f1) (wa.f f1) r1 (mc.fx f1) (md.fx f1) w hc hs at0 fun I3 J3 f3 g3 => after I3 J3 (f1.toB.tr f3) (by rw [E']; exact g3)
  refine m_takes (k := 2) (by decide) (mt.f f1) (wa.f f1) g1.toR (fun e I2 f2 r2 => br1 ?_) (fun e2 I2 f2 g2 => br0 ?_)
  · have F := f1.tr f2
    have E' : stmF t b s = leafF t b s := by unfold stmF; rw [if_neg (show ¬ ow t s = 0 from e0), if_pos (show ow t s = 2 from e)]
    exact m_leafT (d := d + 4) s b _ I2 J _ (mt.f F) (wa.f F) r2 (mc.fx F) (md.fx F) w hc hs at0 fun I3 J3 f3 g3 => after I3 J3 (F.toB.tr f3) (by rw [E']; exact g3)
  have f12 := f1.tr f2
  refine m_takes (k := 3) (by decide) (mt.f f12) (wa.f f12) g2.toR (fun e I3 f3 r3 => br1 ?_) (fun e3 I3 f3 g3 => br0 ?_)
  · have F := f12.tr f3
    have E' : stmF t b s = readF t b s := by unfold stmF; rw [if_neg (show ¬ ow t s = 0 from e0), if_neg (show ¬ ow t s = 2 from e2), if_pos (show ow t s = 3 from e)]
    exact m_readT (d := d + 4) s b _ I3 J _ (mt.f F) (wa.f F) r3 (mc.fx F) (md.fx F) w hc hs at0 fun I4 J4 f4 g4 => after I4 J4 (F.toB.tr f4) (by rw [E']; exact g4)
  have f13 := f12.tr f3
  refine m_takes (k := 1) (by decide) (mt.f f13) (wa.f f13) g3.toR (fun e I4 f4 r4 => br1 ?_) (fun e1 I4 f4 g4 => br0 ?_)
  · have F := f13.tr f4
    have E' : stmF t b s = ruleF t b s := by unfold stmF; rw [if_neg (show ¬ ow t s = 0 from e0), if_neg (show ¬ ow t s = 2 from e2), if_neg (show ¬ ow t s = 3 from e3), if_pos (show ow t s = 1 from e)]
    exact m_eyesT (d := d) (mt.f F) (wa.f F) r4 (mc.fx F) (md.fx F) w hc hs e at0 fun I5 J5 f5 g5 => after I5 J5 (F.toB.tr f5) (by rw [E']; exact g5)
  have f14 := f13.tr f4
  refine m_takes (k := 8) (by decide) (mt.f f14) (wa.f f14) g4.toR (fun e I5 f5 r5 => br1 ?_) (fun e8 I5 f5 g5 => br0 ?_)
  · have F := f14.tr f5
    have E' : stmF t b s = wordF t b s := by unfold stmF; rw [if_neg (show ¬ ow t s = 0 from e0), if_neg (show ¬ ow t s = 2 from e2), if_neg (show ¬ ow t s = 3 from e3), if_neg (show ¬ ow t s = 1 from e1), if_pos (show ow t s = 8 from e)]
    exact m_wordT (d := d + 4) s b _ I5 J _ (mt.f F) (wa.f F) r5 (mc.fx F) (md.fx F) w hc hs at0 fun I6 J6 f6 g6 => after I6 J6 (F.toB.tr f6) (by rw [E']; exact g6)
  have f15 := f14.tr f5
  have SE : stmF t b s = if ow t s = 9 then guardF t b s else .error (1, (qq t s : Int)) := by unfold stmF; rw [if_neg (show ¬ ow t s = 0 from e0), if_neg (show ¬ ow t s = 2 from e2), if_neg (show ¬ ow t s = 3 from e3), if_neg (show ¬ ow t s = 1 from e1), if_neg (show ¬ ow t s = 8 from e8)]
  have SB : stmF t b s = bnd (owF t 9 s) fun s1 => bnd (numF t 1 99 s1) fun y => bnd (numF t 0 (y.2 - 1) y.1) fun z => .ok (z.1, bGuard b.1 y.2 z.2, b.2) := by
    rw [SE]
    by_cases u : ow t s = 9
    · rw [if_pos u, show owF t 9 s = .ok (adv t s) from if_pos u]; rfl
    · rw [if_neg u, show owF t 9 s = .error (1, (qq t s : Int)) from if_neg u]; rfl
  refine m_asks (k := 9) (x := .ok s) (by decide) (mt.f f15) (wa.f f15) g5.toR fun I6 f6 g6 => ?_
  have f16 := f15.tr f6
  refine m_number (lo := 1) (hi := 99) (mt.f f16) g6 rfl (fun _ _ => rfl) fun r7 I7 f7 g7 _ => ?_
  have f17 := f16.tr f7
  have fB7 : frB I (xwI I7 102 0 r7) J J := f17.toB.tr (frB_w (a := 102) (Or.inl (by decide)) (by decide))
  have g7' : MN t (bnd (owF t 9 s) (numF t 1 99)) r7 I7 := g7
  have SB2 : stmF t b s = bnd (bnd (owF t 9 s) (numF t 1 99)) fun y => bnd (numF t 0 (y.2 - 1) y.1) fun z => .ok (z.1, bGuard b.1 y.2 z.2, b.2) := by rw [SB, bnd_a]
  cases h7 : bnd (owF t 9 s) (numF t 1 99) with
  | error e =>
    rw [h7] at g7' SB2
    have z7 : MZ e (xwI I7 102 0 r7) := g7'
    refine sk z7.n0 (m_number (x := .error e) (lo := 0) (hi := 0) (mt.fb fB7) z7 rfl (fun s z => by cases z) fun r8 I8 f8 g8 _ => after _ J ((fB7.tr f8.toB).tr (frB_w (a := 102) (Or.inl (by decide)) (by decide))) ?_)
    have z8 : MZ e I8 := g8
    rw [SB2]; exact z8
  | ok y =>
    rw [h7] at g7' SB2
    obtain ⟨g8, q8⟩ : MR t y.1 I7 ∧ r7.toInt = y.2 := g7'
    have r7' : MR t y.1 (xwI I7 102 0 r7) := g8
    obtain ⟨s1, hs1, hn1⟩ := bnd_ok h7
    obtain ⟨es1, -⟩ := owF_ok hs1
    have nb := numF_ok (s' := y.1) (v := y.2) (by rw [es1]; exact adv_n hs) hn1
    refine hit (eq0.mpr r7'.2.2.2) (m_number (x := .ok y.1) (lo := 0) (hi := y.2 - 1) (mt.fb fB7) r7' rfl (fun _ _ => ?_) fun r9 I9 f9 g9 _ => after _ J ((fB7.tr f9.toB).tr (frB_w (a := 102) (Or.inl (by decide)) (by decide))) ?_)
    · show (r7 - 1).toInt = _
      rw [sub1 (by rw [q8]; omega), q8]
    · have g9' : MN t (numF t 0 (y.2 - 1) y.1) r9 I9 := g9
      have SB3 : stmF t b s = bnd (numF t 0 (y.2 - 1) y.1) fun z => .ok (z.1, bGuard b.1 y.2 z.2, b.2) := SB2
      cases h9 : numF t 0 (y.2 - 1) y.1 with
      | error e =>
        rw [h9] at g9' SB3
        rw [SB3]; exact g9'
      | ok z =>
        rw [h9] at g9' SB3
        obtain ⟨g10, q10⟩ : MR t z.1 I9 ∧ r9.toInt = z.2 := g9'
        rw [SB3]
        have mc9 : MC b.2 I9 := by
          have m7 : MC b.2 I7 := mc.fx f17
          have m8 : MC b.2 (xwI I7 102 0 r7) := m7
          exact m8.fx f9
        refine ⟨g10, mc9, ?_⟩
        have md7 := md.fx f17
        have oo : ∀ a : Nat, a ≠ 71 → a ≠ 102 → xwI I9 102 1 r9 a = I7 a := fun a g1 g2 => by rw [xwI_ne g2, f9.1 a g1, xwI_ne g2]
        obtain ⟨m1, m2, m3, m4, m5, m6⟩ := md7
        show MD (bGuard b.1 y.2 z.2) _ J
        unfold MD
        rw [oo 93 (by decide) (by decide), oo 95 (by decide) (by decide), oo 96 (by decide) (by decide), oo 97 (by decide) (by decide), oo 98 (by decide) (by decide), oo 99 (by decide) (by decide), oo 100 (by decide) (by decide), oo 101 (by decide) (by decide), oo 105 (by decide) (by decide), oo 106 (by decide) (by decide), oo 107 (by decide) (by decide)]
        refine ⟨⟨m1.1, m1.2.1, m1.2.2.1, m1.2.2.2.1, m1.2.2.2.2.1, ?_, fun _ => ?_⟩, m2, m3, m4, m5, m6⟩
        · rw [xgn (by decide), f9.1 102 (by decide), xg]; exact q8
        · rw [xg]; exact q10
end MBOOK
