/-! ===== book: the reference's statements: inks, readers, rules ===== -/
/-- a method of the reference reads a statement, behind its first word -/
def MTs (L dr tl : Nat) (t : Tp) (mt n : Nat) (f : Bk → Lx → RX St) (D : Nat) : Prop :=
  ∀ (s : Lx) (b : Bk) (a1 : Int32) (I : Nat → Nat → Int32) (J : Nat → Nat → Int64) (R : (Nat → Nat → Int32) → (Nat → Nat → Int64) → Prop), MT t I → WA I → MR t (adv t s) I → MC b.2 I → MD b.1 I J → WB b → b.2.length ≤ s.1 → s.1 ≤ t.2 → a1.toInt = qq t s → (∀ (I1 : Nat → Nat → Int32) (J1 : Nat → Nat → Int64), frB I I1 J J1 → SMo t (f b s) I1 J1 → R I1 J1) → WP (D, mt, 0, some (.ref 71) :: some (.int a1) :: List.replicate n none, [], (xSH L dr tl, I, J)) (fun v M => ∃ (I2 : Nat → Nat → Int32) (J2 : Nat → Nat → Int64), v = none ∧ M = (xSH L dr tl, I2, J2) ∧ R I2 J2)
section MSTM2
variable {t : Tp} {L d dr tl : Nat} {I I0 I1 I2 : Nat → Nat → Int32} {J J0 J1 J2 : Nat → Nat → Int64} {a0 a1 a2 a3 a4 : Int32} {b2 : Int64} {s s' : Lx} {v v1 v2 v3 o l : Int} {R : (Nat → Nat → Int32) → (Nat → Nat → Int64) → Prop} {Q : Option Value → xMem → Prop} {x : RX Lx} {c : List Int} {B : aS} {e : Int × Int} {kn N M q r : Nat} {P : Prop}
theorem nat_eq {f g : Nat → Int} : ∀ n : Nat, (∀ k : Nat, k < n → f k = g k) → nameN f n = nameN g n := by
  intro n
  induction n with
  | zero => intro _; rfl
  | succ n ih =>
    intro h
    show 27 * nameN f n + f n = 27 * nameN g n + g n
    rw [ih (fun k hk => h k (by omega)), h n (by omega)]
theorem MD.ink (md : MD B I J) (w : WB (B, c)) (hN : (N : Int) = sNI B) (hqr : q ≤ r) (e0 : (I1 93 0).toInt = sNI B + 1) (e95 : (I1 95 N).toInt = v) (eJ : (J1 94 N).toInt = nameN (ltr t q) (r - q)) (o93 : ∀ j : Nat, j ≠ 0 → I1 93 j = I 93 j) (o95 : ∀ j : Nat, j ≠ N → I1 95 j = I 95 j) (oJ : ∀ j : Nat, j ≠ N → J1 94 j = J 94 j) (hN6 : N < 6) (o : ∀ a : Nat, a ≠ 93 → a ≠ 95 → dcell a → I1 a = I a) : MD (bInk t B q r v) I1 J1 := by
  have tn : (sNI B).toNat = N := by omega
  obtain ⟨m1, m2, m3, m4, m5, m6⟩ := md
  refine ⟨⟨e0, by rw [o93 2 (by decide)]; exact m1.2.1, by rw [o93 1 (by decide)]; exact m1.2.2.1, by rw [o93 3 (by decide)]; exact m1.2.2.2.1, by rw [o93 4 (by decide)]; exact m1.2.2.2.2.1, by rw [o 102 (by decide) (by decide) (by unfold dcell; omega)]; exact m1.2.2.2.2.2.1, by rw [o 102 (by decide) (by decide) (by unfold dcell; omega)]; exact m1.2.2.2.2.2.2⟩, fun i hi => ?_, fun l hl => ?_, fun r' hr => ?_, fun w' hw => ?_, fun u hu => ?_⟩
  · have hi' : (i : Int) < sNI B + 1 := hi
    by_cases e : i = N
    · subst e
      have b2' : bInk t B q r v 2 i = v := by
        show sset _ 2 (sNI B).toNat v 2 i = v
        rw [tn]; exact sg
      have b3 : bInk t B q r v 3 i = (r : Int) - q := by
        show sset _ 3 (sNI B).toNat ((r : Int) - q) 3 i = _
        rw [tn]; exact sg
      rw [b2', b3]
      refine ⟨e95, ?_⟩
      rw [eJ, show ((r : Int) - q).toNat = r - q by omega]
      refine nat_eq _ (fun k hk => ?_)
      show ltr t q k = sput B 4 (6 * (sNI B).toNat) (ltr t q) 4 (6 * i + k)
      rw [tn, sput_i]
    · have lt : (i : Int) < sNI B := by omega
      have b2' : bInk t B q r v 2 i = B 2 i := by
        show sset _ 2 (sNI B).toNat v 2 i = _
        rw [tn]; exact sgn e
      have b3 : bInk t B q r v 3 i = B 3 i := by
        show sset _ 3 (sNI B).toNat ((r : Int) - q) 3 i = _
        rw [tn]; exact sgn e
      have w3 : B 3 i ≤ 6 := (w.1.2.2 i lt).2.2.2.1
      rw [b2', b3, o95 i e, oJ i e]
      refine ⟨(m2 i lt).1, ?_⟩
      rw [(m2 i lt).2]
      refine nat_eq _ (fun k hk => ?_)
      show B 4 (6 * i + k) = sput B 4 (6 * (sNI B).toNat) (ltr t q) 4 (6 * i + k)
      rw [tn, sput_o (by omega)]
  · rw [o 96 (by decide) (by decide) (by unfold dcell; omega), o 97 (by decide) (by decide) (by unfold dcell; omega), o 98 (by decide) (by decide) (by unfold dcell; omega)]
    exact m3 l hl
  · rw [o 99 (by decide) (by decide) (by unfold dcell; omega), oJ (6 + r') (by omega)]
    exact m4 r' hr
  · rw [o 100 (by decide) (by decide) (by unfold dcell; omega), o 101 (by decide) (by decide) (by unfold dcell; omega)]
    exact m5 w' hw
  · rw [o 105 (by decide) (by decide) (by unfold dcell; omega), o 106 (by decide) (by decide) (by unfold dcell; omega), o 107 (by decide) (by decide) (by unfold dcell; omega)]
    exact m6 u hu
theorem MD.rdr (md : MD B I J) (w : WB (B, c)) (hN : (N : Int) = sNR B) (hN4 : N < 4) (hqr : q ≤ r) (e0 : (I1 93 1).toInt = sNR B + 1) (e1 : (I1 99 (3 * N)).toInt = v1) (e2 : (I1 99 (3 * N + 1)).toInt = v2) (e3 : (I1 99 (3 * N + 2)).toInt = v3) (eJ : (J1 94 (6 + N)).toInt = nameN (ltr t q) (r - q)) (o93 : ∀ j : Nat, j ≠ 1 → I1 93 j = I 93 j) (o99 : ∀ j : Nat, j < 3 * N → I1 99 j = I 99 j) (oJ : ∀ j : Nat, j ≠ 6 + N → J1 94 j = J 94 j) (o : ∀ a : Nat, a ≠ 93 → a ≠ 99 → dcell a → I1 a = I a) : MD (bRd t B q r v1 v2 v3) I1 J1 := by
  have tn : (sNR B).toNat = N := by omega
  have nI := w.nI
  obtain ⟨m1, m2, m3, m4, m5, m6⟩ := md
  refine ⟨⟨by rw [o93 0 (by decide)]; exact m1.1, by rw [o93 2 (by decide)]; exact m1.2.1, e0, by rw [o93 3 (by decide)]; exact m1.2.2.2.1, by rw [o93 4 (by decide)]; exact m1.2.2.2.2.1, by rw [o 102 (by decide) (by decide) (by unfold dcell; omega)]; exact m1.2.2.2.2.2.1, by rw [o 102 (by decide) (by decide) (by unfold dcell; omega)]; exact m1.2.2.2.2.2.2⟩, fun i hi => ?_, fun l hl => ?_, fun i hi => ?_, fun w' hw => ?_, fun u hu => ?_⟩
  · have hi' : (i : Int) < sNI B := hi
    rw [o 95 (by decide) (by decide) (by unfold dcell; omega), oJ i (by omega)]
    exact m2 i hi
  · rw [o 96 (by decide) (by decide) (by unfold dcell; omega), o 97 (by decide) (by decide) (by unfold dcell; omega), o 98 (by decide) (by decide) (by unfold dcell; omega)]
    exact m3 l hl
  · have hi' : (i : Int) < sNR B + 1 := hi
    by_cases e : i = N
    · subst e
      have b6 : bRd t B q r v1 v2 v3 6 i = v1 := by
        show sset _ 6 (sNR B).toNat v1 6 i = v1
        rw [tn]; exact sg
      have b7 : bRd t B q r v1 v2 v3 7 i = v2 := by
        show sset _ 7 (sNR B).toNat v2 7 i = v2
        rw [tn]; exact sg
      have b8 : bRd t B q r v1 v2 v3 8 i = v3 := by
        show sset _ 8 (sNR B).toNat v3 8 i = v3
        rw [tn]; exact sg
      have b9 : bRd t B q r v1 v2 v3 9 i = (r : Int) - q := by
        show sset _ 9 (sNR B).toNat ((r : Int) - q) 9 i = _
        rw [tn]; exact sg
      rw [b6, b7, b8, b9]
      refine ⟨e1, e2, e3, ?_⟩
      rw [eJ, show ((r : Int) - q).toNat = r - q by omega]
      refine nat_eq _ (fun k hk => ?_)
      show ltr t q k = sput B 10 (6 * (sNR B).toNat) (ltr t q) 10 (6 * i + k)
      rw [tn, sput_i]
    · have lt : (i : Int) < sNR B := by omega
      have b6 : bRd t B q r v1 v2 v3 6 i = B 6 i := by
        show sset _ 6 (sNR B).toNat v1 6 i = _
        rw [tn]; exact sgn e
      have b7 : bRd t B q r v1 v2 v3 7 i = B 7 i := by
        show sset _ 7 (sNR B).toNat v2 7 i = _
        rw [tn]; exact sgn e
      have b8 : bRd t B q r v1 v2 v3 8 i = B 8 i := by
        show sset _ 8 (sNR B).toNat v3 8 i = _
        rw [tn]; exact sgn e
      have b9 : bRd t B q r v1 v2 v3 9 i = B 9 i := by
        show sset _ 9 (sNR B).toNat ((r : Int) - q) 9 i = _
        rw [tn]; exact sgn e
      have w3 : B 9 i ≤ 6 := (w.2.2.1.2.2 i lt).2.2.2.2.2.2.2.2.1
      rw [b6, b7, b8, b9, o99 (3 * i) (by omega), o99 (3 * i + 1) (by omega), o99 (3 * i + 2) (by omega), oJ (6 + i) (by omega)]
      refine ⟨(m4 i lt).1, (m4 i lt).2.1, (m4 i lt).2.2.1, ?_⟩
      rw [(m4 i lt).2.2.2]
      refine nat_eq _ (fun k hk => ?_)
      show B 10 (6 * i + k) = sput B 10 (6 * (sNR B).toNat) (ltr t q) 10 (6 * i + k)
      rw [tn, sput_o (by omega)]
  · rw [o 100 (by decide) (by decide) (by unfold dcell; omega), o 101 (by decide) (by decide) (by unfold dcell; omega)]
    exact m5 w' hw
  · rw [o 105 (by decide) (by decide) (by unfold dcell; omega), o 106 (by decide) (by decide) (by unfold dcell; omega), o 107 (by decide) (by decide) (by unfold dcell; omega)]
    exact m6 u hu
theorem m_inkT : MTs L dr tl t 215 2 (inkF t) (d + 6) := by
  intro s b a1 I J R mt wa h mc md w hc hs ha K
  have nI := w.nI
  have e93 : (I 93 0).toInt = ((sNI b.1).toNat : Int) := by rw [nI.2]; exact md.1.1
  refine w215_0 (m_isFull (s := s) (kn := 0) (N := (sNI b.1).toNat) (M := 6) h rfl (by decide) e93 rfl nI.1 ha (fun lt => br0 ?_) (fun ge I1 f1 z1 => br1 ⟨I1, J, rfl, rfl, K I1 J f1.toB ?_⟩))
  · have hO : opn t (6 ≤ (sNI b.1).toNat) s = .ok (adv t s) := if_neg lt
    have E : inkF t b s = bnd (chW t b.1 (adv t s)) fun s2 => bnd (owF t 1 (adv t s2)) fun s4 => bnd (numF t 1 20 s4) fun y => .ok (y.1, bInk t b.1 (qq t s2) (ps t s2) y.2, b.2) := by unfold inkF; rw [hO]; rfl
    refine m_newName (kn := 0) (N := (sNI b.1).toNat) mt wa w md h rfl (Or.inl ⟨rfl, rfl, by omega⟩) fun r3 I3 J3 q3 f3 g3 hJ => ?_
    refine m_asks (k := 1) (by decide) (mt.fn f3) (wa.fn f3) g3 fun I4 f4 g4 => ?_
    have f34 := f3.tr f4.n
    refine m_number (lo := 1) (hi := 20) (mt.fn f34) g4 rfl (fun _ _ => rfl) fun r5 I5 f5 g5 _ => ?_
    have F : frNm I I5 := f34.tr f5.n
    have fB : frB I I5 J J3 := by
      rcases hJ with ⟨-, hJ⟩ | ⟨z, -, hJ, -⟩
      · rw [hJ]; exact F.toB
      · rw [hJ]; exact F.toB.tr (frB_J (by omega))
    cases hw : chW t b.1 (adv t s) with
    | error e =>
      rw [hw] at g5 E
      have z5 : MZ e I5 := g5
      exact sk z5.n0 ⟨I5, J3, rfl, rfl, K I5 J3 fB (by rw [E]; exact z5)⟩
    | ok s2 =>
      obtain ⟨e2, k2, l2, -, -, -⟩ := chW_ok hw
      subst e2
      rw [hw] at g5 E
      have g5' : MN t (bnd (owF t 1 (adv t (adv t s))) (numF t 1 20)) r5 I5 := g5
      have E' : inkF t b s = bnd (owF t 1 (adv t (adv t s))) fun s4 => bnd (numF t 1 20 s4) fun y => .ok (y.1, bInk t b.1 (qq t (adv t s)) (ps t (adv t s)) y.2, b.2) := E
      cases h4 : owF t 1 (adv t (adv t s)) with
      | error e =>
        rw [h4] at g5' E'
        have z5 : MZ e I5 := g5'
        exact sk z5.n0 ⟨I5, J3, rfl, rfl, K I5 J3 fB (by rw [E']; exact z5)⟩
      | ok s4 =>
        rw [h4] at g5' E'
        have g6 : MN t (numF t 1 20 s4) r5 I5 := g5'
        have E2 : inkF t b s = bnd (numF t 1 20 s4) fun y => .ok (y.1, bInk t b.1 (qq t (adv t s)) (ps t (adv t s)) y.2, b.2) := E'
        cases h5 : numF t 1 20 s4 with
        | error e =>
          rw [h5] at g6 E2
          have z5 : MZ e I5 := g6
          exact sk z5.n0 ⟨I5, J3, rfl, rfl, K I5 J3 fB (by rw [E2]; exact z5)⟩
        | ok y =>
          rw [h5] at g6 E2
          obtain ⟨g7, g8⟩ : MR t y.1 I5 ∧ r5.toInt = y.2 := g6
          obtain ⟨z, -, hJ, hz⟩ : ∃ z : Int64, chW t b.1 (adv t s) = .ok (adv t s) ∧ J3 = xwJ J 94 (6 * 0 + (sNI b.1).toNat) z ∧ z.toInt = nameN (ltr t (qq t (adv t s))) (ps t (adv t s) - qq t (adv t s)) := by
            rcases hJ with ⟨⟨e, he⟩, -⟩ | hJ
            · rw [hw] at he; cases he
            · exact hJ
          have xr : xIx r3 = (sNI b.1).toNat := by rw [xIx_ti, q3]; exact Int.toNat_natCast _
          have md5 := md.fn F
          have mc5 := mc.fn F
          have e5 : (I5 93 0).toInt = sNI b.1 := md5.1.1
          refine hit (eq0.mpr g7.2.2.2) ⟨by rw [xin_iff, q3]; omega, ⟨_, J3, rfl, rfl, K _ J3 ?_ ?_⟩⟩
          · rw [xr]
            refine (fB.tr (frB_w (a := 95) (Or.inl ?_) (by decide))).tr (frB_w (a := 93) (Or.inl (by decide)) (by decide))
            show (sNI b.1).toNat < 6
            omega
          · rw [E2, xr]
            refine ⟨g7, mc5, MD.ink (N := (sNI b.1).toNat) md5 w nI.2 (ps_le h.1) ?_ ?_ ?_ (fun j hj => ?_) (fun j hj => ?_) (fun j hj => ?_) (by omega) (fun a g1 g2 g3 => ?_)⟩
            · show (I5 93 0 + 1).toInt = _
              rw [add1 (by rw [e5]; omega) (by rw [e5]; omega), e5]
            · rw [xwI_ne (by decide), xg]; exact g8
            · rw [hJ, show 6 * 0 + (sNI b.1).toNat = (sNI b.1).toNat by omega, jg]; exact hz
            · rw [xgn hj, xwI_ne (by decide)]
            · rw [xwI_ne (by decide), xgn hj]
            · rw [hJ, jgn (by omega)]
            · rw [xwI_ne g1, xwI_ne g2]
  · have hO : opn t (6 ≤ (sNI b.1).toNat) s = .error (5, (qq t s : Int)) := if_pos ge
    have E : inkF t b s = .error (5, (qq t s : Int)) := by unfold inkF; rw [hO]; rfl
    rw [E]; exact z1
end MSTM2
