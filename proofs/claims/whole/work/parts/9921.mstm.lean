/-! ===== book: the reference's statements: names ===== -/
section MSTM
variable {t : Tp} {L d dr tl : Nat} {I I0 I1 I2 : Nat → Nat → Int32} {J J0 J1 J2 : Nat → Nat → Int64} {a0 a1 a2 a3 a4 : Int32} {b2 : Int64} {s s' : Lx} {v o l : Int} {R : (Nat → Nat → Int32) → (Nat → Nat → Int64) → Prop} {Q : Option Value → xMem → Prop} {x : RX Lx} {c : List Int} {B : aS} {e : Int × Int} {kn N M : Nat} {P : Prop}
theorem m_isFull {R : Int32 → (Nat → Nat → Int32) → (Nat → Nat → Int64) → Prop} (h : MR t (adv t s) I) (e1 : a1.toInt = kn) (hk : kn < 10) (e93 : (I 93 kn).toInt = N) (e2 : a2.toInt = M) (hN : N ≤ M) (e3 : a3.toInt = qq t s) (K0 : ¬ M ≤ N → R 0 I J) (K1 : M ≤ N → ∀ I1 : Nat → Nat → Int32, frX I I1 → MZ (5, (qq t s : Int)) I1 → R 1 I1 J) : WP ((d + 2), 212, 0, [some (.ref 71), some (.int a1), some (.int a2), some (.int a3)], [], (xSH L dr tl, I, J)) (fun v M => ∃ (r : Int32) (I2 : Nat → Nat → Int32) (J2 : Nat → Nat → Int64), v = some (.int r) ∧ M = (xSH L dr tl, I2, J2) ∧ R r I2 J2) := by
  have x1 : xIx a1 = kn := by rw [xIx_ti, e1]; exact Int.toNat_natCast _
  refine w212_0 (hit (eq0.mpr h.2.2.2) ⟨by rw [xin_iff, e1]; omega, brz eq_ti (fun y => ?_) (fun y => hit (eq0.mpr h.2.2.2) ⟨0, I, J, rfl, rfl, K0 ?_⟩)⟩)
  · rw [x1, e93, e2] at y
    exact m_fail0 (k := 5) h.2.2.2 rfl (by decide) e3 fun I1 f1 z1 => sk z1.n0 ⟨1, I1, J, rfl, rfl, K1 (by omega) I1 f1 z1⟩
  · rw [x1, e93, e2] at y
    omega
theorem m_nameOf (e1 : a1.toInt = kn) (hk : kn ≤ 1) (e93 : (I 93 kn).toInt = N) (hN : N ≤ 6) : PI ((d + 1), 213, 0, [some (.ref 71), some (.int a1), some (.long b2), none, none], [], (xSH L dr tl, I, J)) (nfI (fun i => (J 94 (6 * kn + i)).toInt) b2.toInt N 0) (xSH L dr tl, I, J) := by
  have x1 : xIx a1 = kn := by rw [xIx_ti, e1]; exact Int.toNat_natCast _
  have e6 : (6 : Int32).toInt = 6 := rfl
  have em : (6 * a1).toInt = ((6 * kn : Nat) : Int) := by rw [mul_ti (by rw [e6, e1]; omega) (by rw [e6, e1]; omega), e6, e1]; omega
  have loop : ∀ (m i : Nat) (a4 : Int32), i + m = N → a4.toInt = i → PI ((d + 1), 213, 3, [some (.ref 71), some (.int a1), some (.long b2), none, some (.int a4)], [], (xSH L dr tl, I, J)) (nfI (fun i => (J 94 (6 * kn + i)).toInt) b2.toInt m i) (xSH L dr tl, I, J) := by
    intro m
    induction m with
    | zero =>
      intro i a4 hi h4
      exact w213_3 ⟨by rw [xin_iff, e1]; omega, sk (fun z => by rw [lt_ti, x1, e93] at z; omega) ⟨-1, rfl, rfl, rfl⟩⟩
    | succ m ih =>
      intro i a4 hi h4
      have ea : (6 * a1 + a4).toInt = ((6 * kn + i : Nat) : Int) := by rw [add_ti (by rw [em]; omega) (by rw [em]; omega), em]; omega
      have xa : xIx (6 * a1 + a4) = 6 * kn + i := by rw [xIx_ti, ea]; exact Int.toNat_natCast _
      have E : nfI (fun i => (J 94 (6 * kn + i)).toInt) b2.toInt (m + 1) i = if (J 94 (6 * kn + i)).toInt = b2.toInt then (i : Int) else nfI (fun i => (J 94 (6 * kn + i)).toInt) b2.toInt m (i + 1) := rfl
      rw [E]
      refine w213_3 ⟨by rw [xin_iff, e1]; omega, hit (lt_ti.mpr (by rw [x1, e93]; omega)) ⟨by rw [xin_iff, ea]; omega, ?_⟩⟩
      rw [xa]
      refine brz xlc_eq (fun y => ⟨a4, rfl, ?_, rfl⟩) (fun y => ?_)
      · rw [if_pos y]; exact h4
      · rw [if_neg y]
        exact ih (i + 1) (a4 + 1) (by omega) (by rw [add1 (by omega) (by omega), h4]; rfl)
  exact w213_0 (loop N 0 0 (by omega) rfl)
theorem WB.nI (w : WB (B, c)) : (sNI B).toNat ≤ 6 ∧ ((sNI B).toNat : Int) = sNI B := by
  have h1 : 0 ≤ sNI B := w.1.1
  have h2 : sNI B ≤ 6 := w.1.2.1
  omega
theorem WB.nR (w : WB (B, c)) : (sNR B).toNat ≤ 4 ∧ ((sNR B).toNat : Int) = sNR B := by
  have h1 : 0 ≤ sNR B := w.2.2.1.1
  have h2 : sNR B ≤ 4 := w.2.2.1.2.1
  omega
theorem WB.nL (w : WB (B, c)) : (sNL B).toNat ≤ 8 ∧ ((sNL B).toNat : Int) = sNL B := by
  have h1 : 0 ≤ sNL B := w.2.1.1
  have h2 : sNL B ≤ 8 := w.2.1.2.1
  omega
theorem WB.nW (w : WB (B, c)) : (sNW B).toNat ≤ 16 ∧ ((sNW B).toNat : Int) = sNW B := by
  have h1 : 0 ≤ sNW B := w.2.2.2.1.1
  have h2 : sNW B ≤ 16 := w.2.2.2.1.2.1
  omega
theorem WB.nU (w : WB (B, c)) : (sNU B).toNat ≤ 8 ∧ ((sNU B).toNat : Int) = sNU B := by
  have h1 : 0 ≤ sNU B := w.2.2.2.2.2.1.1
  have h2 : sNU B ≤ 8 := w.2.2.2.2.2.1.2
  omega
theorem nf_K (w : WB (B, c)) (md : MD B I J) (hs : s.1 ≤ t.2) (k2 : kd t s = 2) (hl : ps t s ≤ qq t s + 6) (hv : b2.toInt = nameN (ltr t (qq t s)) (ps t s - qq t s)) : nfI (fun i => (J 94 (6 * 0 + i)).toInt) b2.toInt (sNI B).toNat 0 = fdK t B s := by
  have nI := w.nI
  refine nf_fd (N := (sNI B).toNat) (f := fun i => (J 94 (6 * 0 + i)).toInt) k2 hl hs hv (fun i hi => ?_) (sNI B).toNat 0 (Nat.zero_add _)
  have hi' : (i : Int) < sNI B := by omega
  have q := w.1.2.2 i hi'
  have q3 : 1 ≤ B 3 i := q.2.2.1
  refine ⟨?_, ⟨by omega, q.2.2.2.1⟩, q.2.2.2.2⟩
  show (J 94 (6 * 0 + i)).toInt = _
  rw [show 6 * 0 + i = i by omega]
  exact (md.2.1 i hi').2
theorem nf_R (w : WB (B, c)) (md : MD B I J) (hs : s.1 ≤ t.2) (k2 : kd t s = 2) (hl : ps t s ≤ qq t s + 6) (hv : b2.toInt = nameN (ltr t (qq t s)) (ps t s - qq t s)) : nfI (fun i => (J 94 (6 * 1 + i)).toInt) b2.toInt (sNR B).toNat 0 = fdR t B s := by
  have nI := w.nR
  refine nf_fd (N := (sNR B).toNat) (f := fun i => (J 94 (6 * 1 + i)).toInt) k2 hl hs hv (fun i hi => ?_) (sNR B).toNat 0 (Nat.zero_add _)
  have hi' : (i : Int) < sNR B := by omega
  have q := w.2.2.1.2.2 i hi'
  have q3 : 1 ≤ B 9 i := q.2.2.2.2.2.2.2.1
  refine ⟨?_, ⟨by omega, q.2.2.2.2.2.2.2.2.1⟩, q.2.2.2.2.2.2.2.2.2⟩
  show (J 94 (6 * 1 + i)).toInt = _
  rw [show 6 * 1 + i = 6 + i by omega]
  exact (md.2.2.2.1 i hi').2.2.2
/-- a new name: kind 0 an ink's, 1 a reader's -/
theorem m_newName {R : Int32 → (Nat → Nat → Int32) → (Nat → Nat → Int64) → Prop} (mt : MT t I) (wa : WA I) (w : WB (B, c)) (md : MD B I J) (h : MR t s I) (e1 : a1.toInt = kn) (hk : (kn = 0 ∧ N = (sNI B).toNat ∧ N < 6) ∨ (kn = 1 ∧ N = (sNR B).toNat ∧ N < 4)) (K : ∀ (r : Int32) (I1 : Nat → Nat → Int32) (J1 : Nat → Nat → Int64), r.toInt = N → frNm I I1 → MX t (bnd (chW t B s) (stp t)) I1 → ((∃ e, chW t B s = .error e) ∧ J1 = J ∨ (∃ z : Int64, chW t B s = .ok s ∧ J1 = xwJ J 94 (6 * kn + N) z ∧ z.toInt = nameN (ltr t (qq t s)) (ps t s - qq t s))) → R r I1 J1) : WP ((d + 5), 214, 0, [some (.ref 71), some (.int a1), none, none, none], [], (xSH L dr tl, I, J)) (fun v M => ∃ (r : Int32) (I2 : Nat → Nat → Int32) (J2 : Nat → Nat → Int64), v = some (.int r) ∧ M = (xSH L dr tl, I2, J2) ∧ R r I2 J2) := by
  have nI := w.nI
  have nR := w.nR
  have x1 : xIx a1 = kn := by rw [xIx_ti, e1]; exact Int.toNat_natCast _
  have ix : xin a1 10 = true := by rw [xin_iff, e1]; omega
  have e93 : ∀ I1 : Nat → Nat → Int32, frNm I I1 → (I1 93 kn).toInt = N := by
    intro I1 f1
    rw [f1.1 93 (by decide) (by decide)]
    rcases hk with ⟨rfl, rfl, -⟩ | ⟨rfl, rfl, -⟩
    · rw [nI.2]; exact md.1.1
    · rw [nR.2]; exact md.1.2.2.1
  have EB : bnd (chW t B s) (stp t) = bnd (chN t s) fun s2 => bnd (nwN t B s2) (stp t) := bnd_a
  have E0 : bnd (.ok s) (nmF t) = bnd (chN t s) (stp t) := rfl
  refine w214_0 (m_name (x := .ok s) mt wa h fun r1 I1 f1 g1 n1 => ?_)
  rw [E0] at g1
  have md1 := md.fn f1
  cases hc : chN t s with
  | error e =>
    rw [hc] at g1 EB
    have g1' : MZ e I1 := g1
    refine sk g1'.n0 ⟨ix, sk g1'.n0 ⟨_, I1, J, rfl, rfl, K _ I1 J ?_ f1 (by rw [EB]; exact g1) (Or.inl ⟨⟨e, ?_⟩, rfl⟩)⟩⟩
    · rw [x1]; exact e93 I1 f1
    · unfold chW; rw [hc]; rfl
  | ok s2 =>
    obtain ⟨e2, k2, l2, o2⟩ := chN_ok hc
    subst e2
    obtain ⟨n29, nv⟩ := n1 s2 s2 rfl hc
    rw [hc] at g1 EB
    have g1' : MR t (adv t s2) I1 := g1
    have bad0 := g1'.2.2.2
    have EB' : bnd (chW t B s2) (stp t) = bnd (nwN t B s2) (stp t) := EB
    have EC : chW t B s2 = nwN t B s2 := by unfold chW; rw [hc]; rfl
    have e0 : (I1 93 0).toInt = ((sNI B).toNat : Int) := by rw [nI.2]; exact md1.1.1
    have e1' : (I1 93 1).toInt = ((sNR B).toNat : Int) := by rw [nR.2]; exact md1.1.2.2.1
    have dup : (fdK t B s2 ≠ -1 ∨ fdR t B s2 ≠ -1) → WP ((d + 4), 199, 0, [some (.ref 71), some (.int 3), some (.int (I1 71 29))], [], (xSH L dr tl, I1, J)) (fun v M => ∃ (I11 : Nat → Nat → Int32) (J11 : Nat → Nat → Int64), v = none ∧ M = (xSH L dr tl, I11, J11) ∧ (xin a1 10 = true ∧ (((I11 71 5) = 0 → (xin ((6 * a1) + (I11 93 (xIx a1))) 20 = true ∧ ∃ (r : Int32) (I2 : Nat → Nat → Int32) (J2 : Nat → Nat → Int64), some (Value.int (I11 93 (xIx a1))) = some (Value.int r) ∧ (xSH L dr tl, I11, (xwJ J11 94 (xIx ((6 * a1) + (I11 93 (xIx a1)))) r1)) = (xSH L dr tl, I2, J2) ∧ R r I2 J2)) ∧ (¬ (I11 71 5) = 0 → ∃ (r : Int32) (I2 : Nat → Nat → Int32) (J2 : Nat → Nat → Int64), some (Value.int (I11 93 (xIx a1))) = some (Value.int r) ∧ (xSH L dr tl, I11, J11) = (xSH L dr tl, I2, J2) ∧ R r I2 J2)))) := by
      intro hd
      have en : nwN t B s2 = .error (3, (qq t s2 : Int)) := if_pos hd
      refine m_fail0 (k := 3) bad0 rfl (by decide) n29 fun I3 f3 g3 => ⟨ix, sk g3.n0 ⟨_, I3, J, rfl, rfl, K _ I3 J ?_ (f1.tr f3.n) (by rw [EB', en]; exact g3) (Or.inl ⟨⟨_, by rw [EC]; exact en⟩, rfl⟩)⟩⟩
      rw [x1]; exact e93 I3 (f1.tr f3.n)
    refine hit (eq0.mpr bad0) ((m_nameOf (kn := 0) rfl (by decide) e0 nI.1).u fun r4 q4 => ?_)
    rw [nf_K w md1 h.1 k2 l2 nv] at q4
    refine brz eqm (fun y4 => ?_) (fun y4 => dup (Or.inl (by rw [← q4]; exact y4)))
    refine (m_nameOf (kn := 1) rfl (by decide) e1' (by omega)).u fun r8 q8 => ?_
    rw [nf_R w md1 h.1 k2 l2 nv] at q8
    refine brz eqm (fun y8 => ?_) (fun y8 => dup (Or.inr (by rw [← q8]; exact y8)))
    have en : nwN t B s2 = .ok s2 := by
      unfold nwN
      rw [if_neg (fun u => ?_)]
      rcases u with u | u
      · exact u (by rw [← q4]; exact y4)
      · exact u (by rw [← q8]; exact y8)
    have e6 : (6 : Int32).toInt = 6 := rfl
    have eN := e93 I1 f1
    have em : (6 * a1).toInt = ((6 * kn : Nat) : Int) := by rw [mul_ti (by rw [e6, e1]; omega) (by rw [e6, e1]; omega), e6, e1]; omega
    have ea : (6 * a1 + I1 93 (xIx a1)).toInt = ((6 * kn + N : Nat) : Int) := by rw [x1, add_ti (by rw [em, eN]; omega) (by rw [em, eN]; omega), em, eN]; omega
    have xa : xIx (6 * a1 + I1 93 (xIx a1)) = 6 * kn + N := by rw [xIx_ti, ea]; exact Int.toNat_natCast _
    refine ⟨ix, hit (eq0.mpr bad0) ⟨by rw [xin_iff, ea]; omega, _, I1, _, rfl, rfl, K _ I1 _ ?_ f1 (by rw [EB', en]; exact g1') (Or.inr ⟨r1, by rw [EC]; exact en, by rw [xa], nv⟩)⟩⟩
    rw [x1]; exact eN
theorem MD.fJ {k : Nat} {z : Int64} (md : MD B I J) (h : (∀ i : Nat, (i : Int) < sNI B → k ≠ i) ∧ ∀ r : Nat, (r : Int) < sNR B → k ≠ 6 + r) : MD B I (xwJ J 94 k z) := by
  obtain ⟨m1, m2, m3, m4, m5, m6⟩ := md
  refine ⟨m1, fun i hi => ⟨(m2 i hi).1, ?_⟩, m3, fun r hr => ⟨(m4 r hr).1, (m4 r hr).2.1, (m4 r hr).2.2.1, ?_⟩, m5, m6⟩
  · rw [jgn (fun u => h.1 i hi u.symm)]; exact (m2 i hi).2
  · rw [jgn (fun u => h.2 r hr u.symm)]; exact (m4 r hr).2.2.2
end MSTM
