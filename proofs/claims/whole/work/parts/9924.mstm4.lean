/-! ===== book: the reference's leaves and words ===== -/
section MSTM4
variable {t : Tp} {L d dr tl : Nat} {I I0 I1 I2 : Nat → Nat → Int32} {J J0 J1 J2 : Nat → Nat → Int64} {a0 a1 a2 a3 a4 : Int32} {b2 : Int64} {s s' : Lx} {v v1 v2 v3 o l : Int} {R : (Nat → Nat → Int32) → (Nat → Nat → Int64) → Prop} {Q : Option Value → xMem → Prop} {x : RX Lx} {c : List Int} {B : aS} {e : Int × Int} {kn N M q r : Nat} {P : Prop} {b : Bk}
theorem MD.leaf (md : MD B I J) (w : WB (B, c)) (hN : (N : Int) = sNL B) (hqr : q ≤ r) (e0 : (I1 93 2).toInt = sNL B + 1) (e96 : (I1 96 N).toInt = (r : Int) - q) (e97 : (I1 97 N).toInt = v) (e98 : ∀ k : Nat, k < r - q → (I1 98 (64 * N + k)).toInt = t.1 (q + k) - 96) (o93 : ∀ j : Nat, j ≠ 2 → I1 93 j = I 93 j) (o96 : ∀ j : Nat, j ≠ N → I1 96 j = I 96 j) (o97 : ∀ j : Nat, j ≠ N → I1 97 j = I 97 j) (o98 : ∀ j : Nat, j < 64 * N → I1 98 j = I 98 j) (o : ∀ a : Nat, a ≠ 93 → a ≠ 96 → a ≠ 97 → a ≠ 98 → dcell a → I1 a = I a) : MD (bLeaf t B q r v) I1 J := by
  have tn : (sNL B).toNat = N := by omega
  obtain ⟨m1, m2, m3, m4, m5, m6⟩ := md
  refine ⟨⟨by rw [o93 0 (by decide)]; exact m1.1, e0, by rw [o93 1 (by decide)]; exact m1.2.2.1, by rw [o93 3 (by decide)]; exact m1.2.2.2.1, by rw [o93 4 (by decide)]; exact m1.2.2.2.2.1, by rw [o 102 (by decide) (by decide) (by decide) (by decide) (by unfold dcell; omega)]; exact m1.2.2.2.2.2.1, by rw [o 102 (by decide) (by decide) (by decide) (by decide) (by unfold dcell; omega)]; exact m1.2.2.2.2.2.2⟩, fun i hi => ?_, fun i hi => ?_, fun r' hr => ?_, fun w' hw => ?_, fun u hu => ?_⟩
  · rw [o 95 (by decide) (by decide) (by decide) (by decide) (by unfold dcell; omega)]; exact m2 i hi
  · have hi' : (i : Int) < sNL B + 1 := hi
    by_cases e : i = N
    · subst e
      have b2' : bLeaf t B q r v 26 i = v := by
        show sset _ 26 (sNL B).toNat v 26 i = v
        rw [tn]; exact sg
      have b3 : bLeaf t B q r v 5 i = (r : Int) - q := by
        show sset _ 5 (sNL B).toNat ((r : Int) - q) 5 i = _
        rw [tn]; exact sg
      rw [b2', b3]
      refine ⟨e96, e97, fun k hk => ?_⟩
      rw [e98 k (by omega)]
      show _ = sput B 25 (64 * (sNL B).toNat) (ltr t q) 25 (64 * i + k)
      rw [tn, sput_i]; rfl
    · have lt : (i : Int) < sNL B := by omega
      have b2' : bLeaf t B q r v 26 i = B 26 i := by
        show sset _ 26 (sNL B).toNat v 26 i = _
        rw [tn]; exact sgn e
      have b3 : bLeaf t B q r v 5 i = B 5 i := by
        show sset _ 5 (sNL B).toNat ((r : Int) - q) 5 i = _
        rw [tn]; exact sgn e
      have w3 : B 5 i ≤ 64 := (w.2.1.2.2 i lt).2.1
      rw [b2', b3, o96 i e, o97 i e]
      refine ⟨(m3 i lt).1, (m3 i lt).2.1, fun k hk => ?_⟩
      rw [o98 (64 * i + k) (by omega), (m3 i lt).2.2 k hk]
      show _ = sput B 25 (64 * (sNL B).toNat) (ltr t q) 25 (64 * i + k)
      rw [tn, sput_o (by omega)]
  · rw [o 99 (by decide) (by decide) (by decide) (by decide) (by unfold dcell; omega)]; exact m4 r' hr
  · rw [o 100 (by decide) (by decide) (by decide) (by decide) (by unfold dcell; omega), o 101 (by decide) (by decide) (by decide) (by decide) (by unfold dcell; omega)]; exact m5 w' hw
  · rw [o 105 (by decide) (by decide) (by decide) (by decide) (by unfold dcell; omega), o 106 (by decide) (by decide) (by decide) (by decide) (by unfold dcell; omega), o 107 (by decide) (by decide) (by decide) (by decide) (by unfold dcell; omega)]; exact m6 u hu
theorem MD.word (md : MD B I J) (w : WB (B, c)) (hN : (N : Int) = sNW B) (hqr : q ≤ r) (e0 : (I1 93 3).toInt = sNW B + 1) (e100 : (I1 100 N).toInt = (r : Int) - q) (e101 : ∀ k : Nat, k < r - q → (I1 101 (12 * N + k)).toInt = t.1 (q + k) - 96) (o93 : ∀ j : Nat, j ≠ 3 → I1 93 j = I 93 j) (o100 : ∀ j : Nat, j ≠ N → I1 100 j = I 100 j) (o101 : ∀ j : Nat, j < 12 * N → I1 101 j = I 101 j) (o : ∀ a : Nat, a ≠ 93 → a ≠ 100 → a ≠ 101 → dcell a → I1 a = I a) : MD (bWd t B q r) I1 J := by
  have tn : (sNW B).toNat = N := by omega
  obtain ⟨m1, m2, m3, m4, m5, m6⟩ := md
  refine ⟨⟨by rw [o93 0 (by decide)]; exact m1.1, by rw [o93 2 (by decide)]; exact m1.2.1, by rw [o93 1 (by decide)]; exact m1.2.2.1, e0, by rw [o93 4 (by decide)]; exact m1.2.2.2.2.1, by rw [o 102 (by decide) (by decide) (by decide) (by unfold dcell; omega)]; exact m1.2.2.2.2.2.1, by rw [o 102 (by decide) (by decide) (by decide) (by unfold dcell; omega)]; exact m1.2.2.2.2.2.2⟩, fun i hi => ?_, fun i hi => ?_, fun r' hr => ?_, fun i hi => ?_, fun u hu => ?_⟩
  · rw [o 95 (by decide) (by decide) (by decide) (by unfold dcell; omega)]; exact m2 i hi
  · rw [o 96 (by decide) (by decide) (by decide) (by unfold dcell; omega), o 97 (by decide) (by decide) (by decide) (by unfold dcell; omega), o 98 (by decide) (by decide) (by decide) (by unfold dcell; omega)]; exact m3 i hi
  · rw [o 99 (by decide) (by decide) (by decide) (by unfold dcell; omega)]; exact m4 r' hr
  · have hi' : (i : Int) < sNW B + 1 := hi
    by_cases e : i = N
    · subst e
      have b3 : bWd t B q r 11 i = (r : Int) - q := by
        show sset _ 11 (sNW B).toNat ((r : Int) - q) 11 i = _
        rw [tn]; exact sg
      rw [b3]
      refine ⟨e100, fun k hk => ?_⟩
      rw [e101 k (by omega)]
      show _ = sput B 12 (12 * (sNW B).toNat) (ltr t q) 12 (12 * i + k)
      rw [tn, sput_i]; rfl
    · have lt : (i : Int) < sNW B := by omega
      have b3 : bWd t B q r 11 i = B 11 i := by
        show sset _ 11 (sNW B).toNat ((r : Int) - q) 11 i = _
        rw [tn]; exact sgn e
      have w3 : B 11 i ≤ 12 := (w.2.2.2.1.2.2 i lt).2.1
      rw [b3, o100 i e]
      refine ⟨(m5 i lt).1, fun k hk => ?_⟩
      rw [o101 (12 * i + k) (by omega), (m5 i lt).2 k hk]
      show _ = sput B 12 (12 * (sNW B).toNat) (ltr t q) 12 (12 * i + k)
      rw [tn, sput_o (by omega)]
  · rw [o 105 (by decide) (by decide) (by decide) (by unfold dcell; omega), o 106 (by decide) (by decide) (by decide) (by unfold dcell; omega), o 107 (by decide) (by decide) (by decide) (by unfold dcell; omega)]; exact m6 u hu
theorem m_leafT : MTs L dr tl t 216 4 (leafF t) (d + 6) := by
  intro s b a1 I J R mt wa h mc md w hc hs ha K
  have nL := w.nL
  have nI := w.nI
  have e93 : (I 93 2).toInt = ((sNL b.1).toNat : Int) := by rw [nL.2]; exact md.1.2.1
  have xN : xIx (I 93 2) = (sNL b.1).toNat := by rw [xIx_ti, e93]; exact Int.toNat_natCast _
  have l96 : lim 96 = 8 := rfl
  refine w216_0 (m_isFull (s := s) (kn := 2) (N := (sNL b.1).toNat) (M := 8) h rfl (by decide) e93 rfl nL.1 ha (fun lt => br0 ?_) (fun ge I1 f1 z1 => br1 ⟨I1, J, rfl, rfl, K I1 J f1.toB ?_⟩))
  · have hO : opn t (8 ≤ (sNL b.1).toNat) s = .ok (adv t s) := if_neg lt
    have E : leafF t b s = bnd (chS t 64 (adv t s)) fun s2 => bnd (owF t 0 (adv t s2)) fun s4 => bnd (chN t s4) fun s5 => lfI t b s2 s5 := by unfold leafF; rw [hO]; rfl
    have ix : xin (I 93 2) 16 = true := by rw [xin_iff, e93]; omega
    refine m_spell (n := 64) (x := .ok (adv t s)) (by decide) mt h rfl fun I3 f3 g3 sb sp => ⟨ix, ?_⟩
    rw [xN]
    obtain ⟨n, hn⟩ : ∃ n : Nat, (I3 71 31).toInt = n := ⟨(I3 71 31).toInt.toNat, by omega⟩
    have E64 : bnd (.ok (adv t s)) (spF t 64) = bnd (chS t 64 (adv t s)) (stp t) := rfl
    rw [E64] at g3
    have e64 : (64 : Int32).toInt = 64 := rfl
    have em : (64 * I 93 2).toInt = ((64 * (sNL b.1).toNat : Nat) : Int) := by rw [mul_ti (by rw [e64, e93]; omega) (by rw [e64, e93]; omega), e64, e93]; omega
    -- the copying
    have loop : ∀ (m j : Nat) (a3 : Int32) (I4 : Nat → Nat → Int32), j + m = n → a3.toInt = j → (∀ a : Nat, a ≠ 98 → I4 a = xwI I3 96 (sNL b.1).toNat (I3 71 31) a) → (∀ i : Nat, i < 64 * (sNL b.1).toNat → I4 98 i = I3 98 i) → (∀ i : Nat, i < j → I4 98 (64 * (sNL b.1).toNat + i) = I3 92 i) → WP ((d + 6), 216, 37, [some (.ref 71), none, some (.int (I 93 2)), some (.int a3), none, none], [], (xSH L dr tl, I4, J)) (fun v M => ∃ (I2 : Nat → Nat → Int32) (J2 : Nat → Nat → Int64), v = none ∧ M = (xSH L dr tl, I2, J2) ∧ R I2 J2) := by
      intro m
      induction m with
      | succ m ih =>
        intro j a3 I4 hj h3 o4 p4 q4
        have i31 : (I4 71 31).toInt = n := by rw [o4 71 (by decide), xwI_ne (by decide)]; exact hn
        have x3 : xIx a3 = j := by rw [xIx_ti, h3]; exact Int.toNat_natCast _
        have ea : (64 * I 93 2 + a3).toInt = ((64 * (sNL b.1).toNat + j : Nat) : Int) := by rw [add_ti (by rw [em]; omega) (by rw [em]; omega), em]; omega
        have xa : xIx (64 * I 93 2 + a3) = 64 * (sNL b.1).toNat + j := by rw [xIx_ti, ea]; exact Int.toNat_natCast _
        refine w216_37 (hit (lt_ti.mpr (by rw [i31]; omega)) ⟨by rw [xin_iff]; omega, by rw [xin_iff, ea]; omega, ?_⟩)
        rw [xa, x3]
        refine ih (j + 1) (a3 + 1) _ (by omega) (by rw [add1 (by omega) (by omega), h3]; rfl) (fun a g => by rw [xwI_ne g]; exact o4 a g) (fun i hi => by rw [xgn (by omega)]; exact p4 i hi) (fun i hi => ?_)
        by_cases e : i = j
        · rw [e, xg, o4 92 (by decide), xwI_ne (by decide)]
        · rw [xgn (by omega)]; exact q4 i (by omega)
      | zero =>
        intro j a3 I4 hj h3 o4 p4 q4
        have i31 : (I4 71 31).toInt = n := by rw [o4 71 (by decide), xwI_ne (by decide)]; exact hn
        have f4B : frB I I4 J J := by
          refine f3.toB.tr ((frB_w (a := 96) (k := (sNL b.1).toNat) (z := I3 71 31) (Or.inl (by rw [l96]; omega)) (by decide)).tr ⟨fun a g1 g2 g3 g4 g5 j _ => by rw [o4 a g4], fun j _ => by rw [o4 71 (by decide)], fun _ _ => rfl, fun _ _ => rfl⟩)
        have g4 : MX t (bnd (chS t 64 (adv t s)) (stp t)) I4 := by
          have i71 : I4 71 = I3 71 := by rw [o4 71 (by decide), xwI_ne (by decide)]
          generalize bnd (chS t 64 (adv t s)) (stp t) = zz at g3
          cases zz with
          | ok y => unfold MX MR E4 at *; rw [i71]; exact g3
          | error e => unfold MX MZ at *; rw [i71]; exact g3
        refine w216_37 (sk (fun z => by rw [lt_ti, i31] at z; omega) ?_)
        refine m_asks (k := 0) (by decide) (mt.fb f4B) (wa.fb f4B) g4 fun I5 f5 g5 => ?_
        have f5B := f4B.tr f5.toB
        refine m_name (mt.fb f5B) (wa.fb f5B) g5 fun r3 I6 f6 g6 nm => ?_
        have f6B := f5B.tr f6.toB
        have f46 : frNm I4 I6 := f5.n.tr f6
        have oo : ∀ a : Nat, a ≠ 71 → a ≠ 92 → a ≠ 96 → a ≠ 98 → I6 a = I a := fun a g1 g2 g3 g4 => by rw [f46.1 a g1 g2, o4 a g4, xwI_ne g3, f3.1 a g1 g2]
        have c93 : I6 93 = I 93 := oo 93 (by decide) (by decide) (by decide) (by decide)
        have e0 : (I6 93 0).toInt = ((sNI b.1).toNat : Int) := by rw [c93, nI.2]; exact md.1.1
        refine (m_nameOf (kn := 0) rfl (by decide) e0 nI.1).u fun r4 q4' => ?_
        have H : (∃ e : Int × Int, MZ e I6 ∧ leafF t b s = .error e) ∨ ∃ (s5 : Lx), chS t 64 (adv t s) = .ok (adv t s) ∧ MR t (adv t s5) I6 ∧ s5.1 ≤ t.2 ∧ kd t s5 = 2 ∧ ps t s5 ≤ qq t s5 + 6 ∧ (I6 71 29).toInt = qq t s5 ∧ r3.toInt = nameN (ltr t (qq t s5)) (ps t s5 - qq t s5) ∧ leafF t b s = lfI t b (adv t s) s5 := by
          cases hw : chS t 64 (adv t s) with
          | error e => rw [hw] at g6 E; exact Or.inl ⟨e, g6, E⟩
          | ok s2 =>
            obtain ⟨e2, k2, l2⟩ := chS_ok hw
            subst e2
            rw [hw] at g6 nm E
            have g6a : MX t (bnd (owF t 0 (adv t (adv t s))) (nmF t)) I6 := g6
            have E1 : leafF t b s = bnd (owF t 0 (adv t (adv t s))) fun s4 => bnd (chN t s4) fun s5 => lfI t b (adv t s) s5 := E
            cases h4 : owF t 0 (adv t (adv t s)) with
            | error e => rw [h4] at g6a E1; exact Or.inl ⟨e, g6a, E1⟩
            | ok s4 =>
              rw [h4] at g6a E1
              have g6b : MX t (bnd (chN t s4) (stp t)) I6 := g6a
              have E2 : leafF t b s = bnd (chN t s4) fun s5 => lfI t b (adv t s) s5 := E1
              cases h5 : chN t s4 with
              | error e => rw [h5] at g6b E2; exact Or.inl ⟨e, g6b, E2⟩
              | ok s5 =>
                obtain ⟨e5, k5, l5, -⟩ := chN_ok h5
                subst e5
                rw [h5] at g6b E2
                obtain ⟨es4, -⟩ := owF_ok h4
                have hs4 : s5.1 ≤ t.2 := by rw [es4]; exact adv_n (adv_n h.1)
                obtain ⟨q1, q2⟩ := nm s5 s5 (by show bnd (stp t (adv t s)) (owF t 0) = .ok s5; exact h4) h5
                exact Or.inr ⟨s5, rfl, g6b, hs4, k5, l5, q1, q2, E2⟩
        rcases H with ⟨e, z6, hE⟩ | ⟨s5, hw, g7, hs5, k5, l5, n29, nv, hE⟩
        · exact sk z6.n0 (sk z6.n0 ⟨I6, J, rfl, rfl, K I6 J f6B (by rw [hE]; exact z6)⟩)
        · have md6 : (J 94 0 = J 94 0) := rfl
          have fk : nfI (fun i => (J 94 (6 * 0 + i)).toInt) r3.toInt (sNI b.1).toNat 0 = fdK t b.1 s5 := nf_K (b2 := r3) w md hs5 k5 l5 nv
          rw [fk] at q4'
          unfold lfI at hE
          refine hit (eq0.mpr g7.2.2.2) (brz eqm (fun y => ?_) (fun y => ?_))
          · rw [if_pos (by rw [← q4']; exact y)] at hE
            exact m_fail0 (k := 3) g7.2.2.2 rfl (by decide) n29 fun I7 f7 z7 => sk z7.n0 ⟨I7, J, rfl, rfl, K I7 J (f6B.tr f7.toB) (by rw [hE]; exact z7)⟩
          · rw [if_neg (by rw [← q4']; exact y)] at hE
            obtain ⟨-, k2, l2⟩ := chS_ok hw
            obtain ⟨p29, sp1, sp2⟩ := sp (adv t s) (adv t s) rfl hw
            have en : n = ps t (adv t s) - qq t (adv t s) := by rw [hn] at sp1; omega
            have hle := ps_le (t := t) (s := adv t s) h.1
            refine hit (eq0.mpr g7.2.2.2) ⟨ix, ⟨_, J, rfl, rfl, K _ J ((f6B.tr (frB_w (a := 97) (Or.inr (Or.inr (Or.inl rfl))) (by decide))).tr (frB_w (a := 93) (Or.inl (by decide)) (by decide))) ?_⟩⟩
            rw [hE, xN]
            have mc6 : MC b.2 I6 := by
              have m3 := mc.fn f3
              have m4 : MC b.2 I4 := by
                unfold MC at *
                rw [o4 103 (by decide), o4 71 (by decide), xwI_ne (by decide), xwI_ne (by decide)]; exact m3
              exact m4.fn f46
            refine ⟨g7, mc6, MD.leaf (N := (sNL b.1).toNat) (I := I) md w nL.2 hle ?_ ?_ ?_ (fun k hk => ?_) (fun j hj => ?_) (fun j hj => ?_) (fun j hj => ?_) (fun j hj => ?_) (fun a g1 g2 g3 g4 g5 => ?_)⟩
            · show (I6 93 2 + 1).toInt = _
              rw [c93, add1 (by rw [e93]; omega) (by rw [e93]; omega), e93]; omega
            · rw [xwI_ne (by decide), xwI_ne (by decide), f46.1 96 (by decide) (by decide), o4 96 (by decide), xg, hn, en]; omega
            · rw [xwI_ne (by decide), xg]; exact q4'
            · rw [xwI_ne (by decide), xwI_ne (by decide), f46.1 98 (by decide) (by decide), q4 k (by omega)]
              exact sp2 k (by omega)
            · rw [xgn hj, xwI_ne (by decide), c93]
            · rw [xwI_ne (by decide), xwI_ne (by decide), f46.1 96 (by decide) (by decide), o4 96 (by decide), xgn hj, f3.1 96 (by decide) (by decide)]
            · rw [xwI_ne (by decide), xgn hj, oo 97 (by decide) (by decide) (by decide) (by decide)]
            · rw [xwI_ne (by decide), xwI_ne (by decide), f46.1 98 (by decide) (by decide), p4 j hj, f3.1 98 (by decide) (by decide)]
            · rw [xwI_ne g1, xwI_ne g3, oo a (by unfold dcell at g5; omega) (by unfold dcell at g5; omega) g2 g4]
    exact loop n 0 0 _ (by omega) rfl (fun _ _ => rfl) (fun i _ => by rw [xwI_ne (by decide)]) (fun i hi => absurd hi (Nat.not_lt_zero _))
  · have hO : opn t (8 ≤ (sNL b.1).toNat) s = .error (5, (qq t s : Int)) := if_pos ge
    have E : leafF t b s = .error (5, (qq t s : Int)) := by unfold leafF; rw [hO]; rfl
    rw [E]; exact z1
theorem m_isSpelt {i n : Nat} (md : MD B I J) (w : WB (B, c)) (hi : (i : Int) < sNW B) (e1 : a1.toInt = i) (sp : SPT t q n I) (hq : n = r - q) (hqr : q ≤ r) (hr : r ≤ t.2) (hn : n ≤ 12) : PB ((d + 1), 218, 0, [some (.ref 71), some (.int a1), none], [], (xSH L dr tl, I, J)) (spE t (q : Int) (r : Int) (B 11 i) (fun k => B 12 (12 * i + k))) (xSH L dr tl, I, J) := by
  have nW := w.nW
  have x1 : xIx a1 = i := by rw [xIx_ti, e1]; exact Int.toNat_natCast _
  obtain ⟨m1, m2⟩ := md.2.2.2.2.1 i hi
  have wi := w.2.2.2.1.2.2 i hi
  have w1 : 1 ≤ B 11 i := wi.1
  have w2 : B 11 i ≤ 12 := wi.2.1
  have e12 : (12 : Int32).toInt = 12 := rfl
  have em : (12 * a1).toInt = ((12 * i : Nat) : Int) := by rw [mul_ti (by rw [e12, e1]; omega) (by rw [e12, e1]; omega), e12, e1]; omega
  have tbk : ∀ k : Nat, k < n → tb t ((q : Int) + k) - 96 = t.1 (q + k) - 96 := by
    intro k hk
    have : ((q : Int) + k) = ((q + k : Nat) : Int) := by omega
    rw [this, tb_in (by omega)]
  refine w218_0 ⟨by rw [xin_iff, e1]; omega, ?_⟩
  rw [x1]
  refine brz eq_ti (fun y => ?_) (fun y => ⟨0, rfl, Or.inr ⟨rfl, fun z => y ?_⟩, rfl⟩)
  · rw [m1, sp.1] at y
    have loop : ∀ (m k : Nat) (a2 : Int32), k + m = n → a2.toInt = k → (∀ j : Nat, j < k → B 12 (12 * i + j) = t.1 (q + j) - 96) → PB ((d + 1), 218, 17, [some (.ref 71), some (.int a1), some (.int a2)], [], (xSH L dr tl, I, J)) (spE t (q : Int) (r : Int) (B 11 i) (fun k => B 12 (12 * i + k))) (xSH L dr tl, I, J) := by
      intro m
      induction m with
      | zero =>
        intro k a2 hk h2 hj
        refine w218_17 (sk (fun z => by rw [lt_ti, sp.1] at z; omega) ⟨1, rfl, Or.inl ⟨rfl, by omega, fun j hj' => ?_⟩, rfl⟩)
        rw [tbk j (by omega)]
        exact hj j (by omega)
      | succ m ih =>
        intro k a2 hk h2 hj
        have x2 : xIx a2 = k := by rw [xIx_ti, h2]; exact Int.toNat_natCast _
        have ea : (12 * a1 + a2).toInt = ((12 * i + k : Nat) : Int) := by rw [add_ti (by rw [em]; omega) (by rw [em]; omega), em]; omega
        have xa : xIx (12 * a1 + a2) = 12 * i + k := by rw [xIx_ti, ea]; exact Int.toNat_natCast _
        have u1 := m2 k (by omega)
        have u2 := sp.2 k (by omega)
        refine w218_17 (hit (lt_ti.mpr (by rw [sp.1]; omega)) ⟨by rw [xin_iff, ea]; omega, by rw [xin_iff]; omega, ?_⟩)
        rw [xa, x2]
        refine brz eq_ti (fun z => ih (k + 1) (a2 + 1) (by omega) (by rw [add1 (by omega) (by omega), h2]; rfl) (fun j hj' => ?_)) (fun z => ⟨0, rfl, Or.inr ⟨rfl, fun u => z ?_⟩, rfl⟩)
        · by_cases e : j = k
          · rw [e, ← u1, z, u2]
          · exact hj j (by omega)
        · have := u.2 k (by omega)
          rw [tbk k (by omega)] at this
          rw [u1, u2]; exact this
    exact loop n 0 0 (by omega) rfl (fun j hj => absurd hj (Nat.not_lt_zero _))
  · rw [m1, sp.1]
    have := z.1
    omega
end MSTM4
