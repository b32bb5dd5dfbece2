/-! ===== calls that only read: both sides answer the same number of the state ===== -/
def ansFault (S : aS) (a : Int) : Int := if a = 0 then sFk S else if a = 1 then sFp S else -1
def ansOctet (S : aS) (k : Int) : Int := if 0 ≤ k ∧ k < sNO S then S 24 k.toNat else -1
def ansGuard (S : aS) (h : Int) : Int := if h < 0 ∨ 9999 < h then -1 else if 0 < sGE S ∧ h % sGE S = sGF S then 1 else 0
def ansSign (S : aS) (l p w : Int) : Int := if isP S l p then (if w = 0 then S 15 (slot l p) else if w = 1 then S 16 (slot l p) else if w = 2 then (if such S (slot l p) 1 = true then S 17 (slot l p) else -1) else if w = 3 then S 18 (slot l p) else -1) else -1
/-- the hours that a reader still reads -/
def left (S : aS) (r : Nat) : Int := if S 19 r = -1 then 0 else (plc S (S 19 r) - S 20 r + S 6 r - 1) / S 6 r
def ansReader (S : aS) (r w : Int) : Int := if isRd S r then (if w = 0 then S 19 r.toNat else if w = 1 then S 20 r.toNat else if w = 2 then left S r.toNat else -1) else -1
def ansChange (S : aS) (k w : Int) : Int := if 0 ≤ k ∧ k < sNC S then (if w = 0 then S 21 k.toNat else if w = 1 then S 22 k.toNat / 64 else if w = 2 then S 22 k.toNat % 64 else if w = 3 then S 23 k.toNat else -1) else -1
theorem eqn {a : Int32} (n : Int32) : a = n ↔ a.toInt = n.toInt := eq_ti
theorem eq1 {a : Int32} : a = 1 ↔ a.toInt = 1 := eq_ti
theorem eq2 {a : Int32} : a = 2 ↔ a.toInt = 2 := eq_ti
theorem eq3 {a : Int32} : a = 3 ↔ a.toInt = 3 := eq_ti
theorem eq4 {a : Int32} : a = 4 ↔ a.toInt = 4 := eq_ti
theorem gt9999 {a : Int32} : 9999 < a ↔ (9999 : Int) < a.toInt := lt_ti
section CALLS1
variable {S : aS} {L d dr tl : Nat} {I : Nat → Nat → Int32} {J : Nat → Nat → Int64} {a1 a2 a3 : Int32}
theorem s_told (ht : tl = 8 ∨ tl = 31) : PU ((d + 1), 129, 0, [some (.ref 30)], [], (xSH L dr tl, I, J)) (some (.ref tl)) (xSH L dr tl, I, J) := w129_0 ht ⟨rfl, rfl⟩
theorem s_changes : PU ((d + 1), 130, 0, [some (.ref 30)], [], (xSH L dr tl, I, J)) (some (.ref 53)) (xSH L dr tl, I, J) := w130_0 ⟨rfl, rfl⟩
theorem c_fault (hf : CIf S I) : PI ((d + 2), 163, 0, [some (.ref 2), some (.int a1)], [], (xSH L dr tl, I, J)) (ansFault S a1.toInt) (xSH L dr tl, I, J) := by
  have s45 : PI ((d + 1), 45, 0, [some (.ref 7)], [], (xSH L dr tl, I, J)) (sFk S) (xSH L dr tl, I, J) := w45_0 ⟨_, rfl, hf.1, rfl⟩
  have s46 : PI ((d + 1), 46, 0, [some (.ref 7)], [], (xSH L dr tl, I, J)) (sFp S) (xSH L dr tl, I, J) := w46_0 ⟨_, rfl, hf.2, rfl⟩
  refine w163_0 ⟨fun h => s45.u fun r hr => ⟨r, rfl, ?_, rfl⟩, fun h => ⟨fun h1 => s46.u fun r hr => ⟨r, rfl, ?_, rfl⟩, fun h1 => ⟨-1, rfl, ?_, rfl⟩⟩⟩
  · rw [hr, ansFault, if_pos (eq0.mp h)]
  · rw [hr, ansFault, if_neg (fun z => h (eq0.mpr z)), if_pos (eq1.mp h1)]
  · rw [ansFault, if_neg (fun z => h (eq0.mpr z)), if_neg (fun z => h1 (eq1.mpr z))]; rfl
theorem m_fault (hf : MIf S I) : PI ((d + 1), 239, 0, [some (.ref 71), some (.int a1)], [], (xSH L dr tl, I, J)) (ansFault S a1.toInt) (xSH L dr tl, I, J) := by
  refine w239_0 ⟨fun h => ⟨_, rfl, ?_, rfl⟩, fun h => ⟨fun h1 => ⟨_, rfl, ?_, rfl⟩, fun h1 => ⟨-1, rfl, ?_, rfl⟩⟩⟩
  · rw [hf.1, ansFault, if_pos (eq0.mp h)]
  · rw [hf.2, ansFault, if_neg (fun z => h (eq0.mpr z)), if_pos (eq1.mp h1)]
  · rw [ansFault, if_neg (fun z => h (eq0.mpr z)), if_neg (fun z => h1 (eq1.mpr z))]; rfl
theorem c_octet (hw : WF S) (hp : CIp S I) : PI ((d + 2), 193, 0, [some (.ref 2), some (.int a1)], [], (xSH L dr tl, I, J)) (ansOctet S a1.toInt) (xSH L dr tl, I, J) := by
  have h3 := hw.2.2.2.2.2.2.2.2.2.2.1.2.1
  have s117 : PI ((d + 1), 117, 0, [some (.ref 5), some (.int a1)], [], (xSH L dr tl, I, J)) (ansOctet S a1.toInt) (xSH L dr tl, I, J) := by
    refine w117_0 (t := 5) (Or.inr rfl) ⟨fun h => ⟨-1, rfl, ?_, rfl⟩, fun h => ⟨fun h1 => ⟨?_, _, rfl, ?_, rfl⟩, fun h1 => ⟨-1, rfl, ?_, rfl⟩⟩⟩
    · rw [lt0] at h; rw [ansOctet, if_neg (by omega)]; rfl
    · rw [lt0] at h; rw [lt_ti, hp.1] at h1; rw [xin_iff]; omega
    · rw [lt0] at h; rw [lt_ti, hp.1] at h1; rw [ansOctet, if_pos (by omega), xIx_ti]; exact hp.2 _ (by omega)
    · rw [lt0] at h; rw [lt_ti, hp.1] at h1; rw [ansOctet, if_neg (by omega)]; rfl
  exact w193_0 (s117.u fun r hr => ⟨r, rfl, hr, rfl⟩)
theorem m_octet (hw : WF S) (hp : MIp S I) : PI ((d + 1), 313, 0, [some (.ref 71), some (.int a1)], [], (xSH L dr tl, I, J)) (ansOctet S a1.toInt) (xSH L dr tl, I, J) := by
  have h3 := hw.2.2.2.2.2.2.2.2.2.2.1.2.1
  refine w313_0 ⟨fun h => ⟨-1, rfl, ?_, rfl⟩, fun h => ⟨fun h1 => ⟨?_, _, rfl, ?_, rfl⟩, fun h1 => ⟨-1, rfl, ?_, rfl⟩⟩⟩
  · rw [lt0] at h; rw [ansOctet, if_neg (by omega)]; rfl
  · rw [lt0] at h; rw [lt_ti, hp.1] at h1; rw [xin_iff]; omega
  · rw [lt0] at h; rw [lt_ti, hp.1] at h1; rw [ansOctet, if_pos (by omega), xIx_ti]; exact hp.2 _ (by omega)
  · rw [lt0] at h; rw [lt_ti, hp.1] at h1; rw [ansOctet, if_neg (by omega)]; rfl
theorem c_guard (hc : CB S tl I) : PI ((d + 2), 187, 0, [some (.ref 2), some (.int a1)], [], (xSH L dr tl, I, J)) (ansGuard S a1.toInt) (xSH L dr tl, I, J) := by
  refine w187_0 hc.2.1 ⟨fun h => ⟨-1, rfl, ?_, rfl⟩, fun h => ⟨fun h1 => ⟨-1, rfl, ?_, rfl⟩, fun h1 => (s_told hc.2.1).v ((s_isGuarded hc.2.1 hc.2.2.1 ?_).u (fun q => br1 ⟨1, rfl, ?_, rfl⟩) (fun q => br0 ⟨0, rfl, ?_, rfl⟩))⟩⟩
  · rw [lt0] at h; rw [ansGuard, if_pos (Or.inl h)]; rfl
  · rw [gt9999] at h1; rw [ansGuard, if_pos (Or.inr h1)]; rfl
  · rw [lt0] at h; omega
  · rw [lt0] at h; rw [gt9999] at h1; unfold grd at q; rw [ansGuard, if_neg (fun z => z.elim h h1), if_pos q]; rfl
  · rw [lt0] at h; rw [gt9999] at h1; unfold grd at q; rw [ansGuard, if_neg (fun z => z.elim h h1), if_neg q]; rfl
theorem m_guard (hm : MB S I J) : PI ((d + 2), 300, 0, [some (.ref 71), some (.int a1)], [], (xSH L dr tl, I, J)) (ansGuard S a1.toInt) (xSH L dr tl, I, J) := by
  refine w300_0 (m_isIn.u (fun g => br1 ((m_isGuarded hm.1 hm.2.1 ?_).u (fun q => br1 ⟨1, rfl, ?_, rfl⟩) (fun q => br0 ⟨0, rfl, ?_, rfl⟩))) (fun g => br0 ⟨-1, rfl, ?_, rfl⟩))
  · rw [t64] at g; exact g.1
  · rw [t64] at g; have h1 : (0 : Int) ≤ a1.toInt := g.1; have h2 : a1.toInt ≤ 9999 := g.2; unfold grd at q; rw [ansGuard, if_neg (by omega), if_pos q]; rfl
  · rw [t64] at g; have h1 : (0 : Int) ≤ a1.toInt := g.1; have h2 : a1.toInt ≤ 9999 := g.2; unfold grd at q; rw [ansGuard, if_neg (by omega), if_neg q]; rfl
  · rw [t64] at g
    have g' : ¬ ((0 : Int) ≤ a1.toInt ∧ a1.toInt ≤ 9999) := g
    rw [ansGuard, if_pos (by omega)]; rfl
theorem c_sign (hc : CB S tl I) : PI ((d + 5), 167, 0, [some (.ref 2), some (.int a1), some (.int a2), some (.int a3)], [], (xSH L dr tl, I, J)) (ansSign S a1.toInt a2.toInt a3.toInt) (xSH L dr tl, I, J) := by
  refine w167_0 hc.2.1 ((s_told hc.2.1).v ((s_hasPlace hc.1 hc.2.1 hc.2.2.1).u (fun q => br1 ⟨fun h => (s_letterAt hc).u fun r hr => ⟨r, rfl, ?_, rfl⟩, fun h => ⟨fun h1 => (s_eyesAt hc).u fun r hr => ⟨r, rfl, ?_, rfl⟩, fun h1 => ⟨fun h2 => (s_drySince hc).u fun r hr => ⟨r, rfl, ?_, rfl⟩, fun h2 => ⟨fun h3 => (s_ghostAt hc).u fun r hr => ⟨r, rfl, ?_, rfl⟩, fun h3 => ⟨-1, rfl, ?_, rfl⟩⟩⟩⟩⟩) (fun q => br0 ⟨-1, rfl, by rw [ansSign, if_neg q]; rfl, rfl⟩)))
  · rw [hr, if_pos q, ansSign, if_pos q, if_pos (eq0.mp h)]
  · rw [hr, if_pos q, ansSign, if_pos q, if_neg (fun z => h (eq0.mpr z)), if_pos (eq1.mp h1)]
  · rw [hr, ansSign, if_pos q, if_neg (fun z => h (eq0.mpr z)), if_neg (fun z => h1 (eq1.mpr z)), if_pos (eq2.mp h2)]
    by_cases hs : such S (slot a1.toInt a2.toInt) 1 = true
    · rw [if_pos ⟨q, hs⟩, if_pos hs]
    · rw [if_neg (fun z => hs z.2), if_neg hs]
  · rw [hr, if_pos q, ansSign, if_pos q, if_neg (fun z => h (eq0.mpr z)), if_neg (fun z => h1 (eq1.mpr z)), if_neg (fun z => h2 (eq2.mpr z)), if_pos (eq3.mp h3)]
  · rw [ansSign, if_pos q, if_neg (fun z => h (eq0.mpr z)), if_neg (fun z => h1 (eq1.mpr z)), if_neg (fun z => h2 (eq2.mpr z)), if_neg (fun z => h3 (eq3.mpr z))]; rfl
theorem m_sign (hm : MB S I J) : PI ((d + 4), 262, 0, [some (.ref 71), some (.int a1), some (.int a2), some (.int a3), none], [], (xSH L dr tl, I, J)) (ansSign S a1.toInt a2.toInt a3.toInt) (xSH L dr tl, I, J) := by
  obtain ⟨hw, hb, hv⟩ := hm
  refine w262_0 ((m_isPlace hw hb).u (fun q => br1 ?_) (fun q => br0 ⟨-1, rfl, by rw [ansSign, if_neg q]; rfl, rfl⟩))
  obtain ⟨e1, e2, e3⟩ := slot_m hw q
  obtain ⟨g1, g2, g3, g4⟩ := hv.2.1 _ _ q
  rw [e2]
  refine ⟨fun h => ⟨e3, _, rfl, ?_, rfl⟩, fun h => ⟨fun h1 => ⟨e3, _, rfl, ?_, rfl⟩, fun h1 => ⟨fun h2 => (m_isDry hw hv q e1).u (fun hs => br1 ⟨e3, _, rfl, ?_, rfl⟩) (fun hs => br0 ⟨-1, rfl, ?_, rfl⟩), fun h2 => ⟨fun h3 => ⟨e3, _, rfl, ?_, rfl⟩, fun h3 => ⟨-1, rfl, ?_, rfl⟩⟩⟩⟩⟩
  · rw [g1, ansSign, if_pos q, if_pos (eq0.mp h)]
  · rw [g2, ansSign, if_pos q, if_neg (fun z => h (eq0.mpr z)), if_pos (eq1.mp h1)]
  · have hz : S 15 (slot a1.toInt a2.toInt) ≠ 0 ∧ S 16 (slot a1.toInt a2.toInt) = 0 := by simpa [such] using hs
    rw [g3 hz.1 hz.2, ansSign, if_pos q, if_neg (fun z => h (eq0.mpr z)), if_neg (fun z => h1 (eq1.mpr z)), if_pos (eq2.mp h2), if_pos hs]
  · rw [ansSign, if_pos q, if_neg (fun z => h (eq0.mpr z)), if_neg (fun z => h1 (eq1.mpr z)), if_pos (eq2.mp h2), if_neg hs]; rfl
  · rw [g4, ansSign, if_pos q, if_neg (fun z => h (eq0.mpr z)), if_neg (fun z => h1 (eq1.mpr z)), if_neg (fun z => h2 (eq2.mpr z)), if_pos (eq3.mp h3)]
  · rw [ansSign, if_pos q, if_neg (fun z => h (eq0.mpr z)), if_neg (fun z => h1 (eq1.mpr z)), if_neg (fun z => h2 (eq2.mpr z)), if_neg (fun z => h3 (eq3.mpr z))]; rfl
theorem s_seatLeaf (hc : CB S tl I) : PI ((d + 2), 152, 0, [some (.ref 30), some (.int a1)], [], (xSH L dr tl, I, J)) (if isRd S a1.toInt then S 19 a1.toInt.toNat else -1) (xSH L dr tl, I, J) := by
  obtain ⟨hw, ht, hb, hv⟩ := hc
  have h3 := hw.2.2.2.1.2.1
  refine w152_0 ht ((s_hasReader ht hb).u (fun q => br1 ⟨?_, _, rfl, ?_, rfl⟩) (fun q => br0 ⟨-1, rfl, by rw [if_neg q]; rfl, rfl⟩))
  · rw [xin_iff]; have := q.1; have := q.2; omega
  · rw [if_pos q, xIx_ti]; exact (hv.2.2 _ (by have := q.1; have := q.2; omega)).1
theorem s_seatPlace (hc : CB S tl I) : PI ((d + 2), 153, 0, [some (.ref 30), some (.int a1)], [], (xSH L dr tl, I, J)) (if isRd S a1.toInt then S 20 a1.toInt.toNat else 0) (xSH L dr tl, I, J) := by
  obtain ⟨hw, ht, hb, hv⟩ := hc
  have h3 := hw.2.2.2.1.2.1
  refine w153_0 ht ((s_hasReader ht hb).u (fun q => br1 ⟨?_, _, rfl, ?_, rfl⟩) (fun q => br0 ⟨0, rfl, by rw [if_neg q]; rfl, rfl⟩))
  · rw [xin_iff]; have := q.1; have := q.2; omega
  · rw [if_pos q, xIx_ti]; exact (hv.2.2 _ (by have := q.1; have := q.2; omega)).2
theorem left_eq {r4 r5 r3 : Int32} {r : Nat} (hw : WF S) (hr : (r : Int) < sNR S) (hs : S 19 r ≠ -1) (e4 : r4.toInt = plc S (S 19 r)) (e5 : r5.toInt = S 20 r) (e3 : r3.toInt = S 6 r) : ¬ r3 = (0 : Int32) ∧ ((((r4 - r5) + r3) - 1) / r3).toInt = left S r := by
  have hp := hw.2.2.2.1.2.2 r hr
  have hl := plc_le hw (S 19 r)
  have hq := hw.2.2.2.2.2.2.2.2.1 r hr
  have hq' : isP S (S 19 r) (S 20 r) := hq.elim (fun z => absurd z.1 hs) id
  have hq2 := plc_isP.mp hq'
  have k1 : (r4 - r5).toInt = r4.toInt - r5.toInt := sub_ti (by omega) (by omega)
  have k2 : (r4 - r5 + r3).toInt = r4.toInt - r5.toInt + r3.toInt := by rw [add_ti (by rw [k1]; omega) (by rw [k1]; omega), k1]
  have k3 : (r4 - r5 + r3 - 1).toInt = r4.toInt - r5.toInt + r3.toInt - 1 := by rw [sub1 (by rw [k2]; omega), k2]
  refine ⟨fun z => ?_, ?_⟩
  · rw [eq0] at z; omega
  · rw [div_ti (by rw [k3]; omega) (by omega), k3, e4, e5, e3, left, if_neg hs]
theorem s_hoursLeft (hc : CB S tl I) : PI ((d + 3), 154, 0, [some (.ref 30), some (.int a1), none, none], [], (xSH L dr tl, I, J)) (if isRd S a1.toInt then left S a1.toInt.toNat else 0) (xSH L dr tl, I, J) := by
  refine w154_0 hc.2.1 ((s_seatLeaf hc).u fun r1 h1 => ⟨fun h => ⟨0, rfl, ?_, rfl⟩, fun h => (s_paceOf hc.1 hc.2.1 hc.2.2.1).u fun r3 h3 => (s_placesOf hc.1 hc.2.1 hc.2.2.1).u fun r4 h4 => (s_seatPlace hc).u fun r5 h5 => ?_⟩)
  · rw [eqm, h1] at h
    by_cases q : isRd S a1.toInt
    · rw [if_pos q] at h ⊢; rw [left, if_pos h]; rfl
    · rw [if_neg q]; rfl
  · rw [eqm, h1] at h
    by_cases q : isRd S a1.toInt
    · rw [if_pos q] at h h1 h3 h5
      rw [h1] at h4
      have hr : ((a1.toInt.toNat : Nat) : Int) < sNR S := by have := q.1; have := q.2; omega
      obtain ⟨k1, k2⟩ := left_eq hc.1 hr h h4 h5 h3
      exact ⟨k1, _, rfl, by rw [if_pos q]; exact k2, rfl⟩
    · rw [if_neg q] at h; exact absurd rfl h
theorem c_reader (hc : CB S tl I) : PI ((d + 4), 168, 0, [some (.ref 2), some (.int a1), some (.int a2)], [], (xSH L dr tl, I, J)) (ansReader S a1.toInt a2.toInt) (xSH L dr tl, I, J) := by
  refine w168_0 hc.2.1 ((s_told hc.2.1).v ((s_hasReader hc.2.1 hc.2.2.1).u (fun q => br1 ⟨fun h => (s_seatLeaf hc).u fun r hr => ⟨r, rfl, ?_, rfl⟩, fun h => ⟨fun h1 => (s_seatPlace hc).u fun r hr => ⟨r, rfl, ?_, rfl⟩, fun h1 => ⟨fun h2 => (s_hoursLeft hc).u fun r hr => ⟨r, rfl, ?_, rfl⟩, fun h2 => ⟨-1, rfl, ?_, rfl⟩⟩⟩⟩) (fun q => br0 ⟨-1, rfl, by rw [ansReader, if_neg q]; rfl, rfl⟩)))
  · rw [hr, if_pos q, ansReader, if_pos q, if_pos (eq0.mp h)]
  · rw [hr, if_pos q, ansReader, if_pos q, if_neg (fun z => h (eq0.mpr z)), if_pos (eq1.mp h1)]
  · rw [hr, if_pos q, ansReader, if_pos q, if_neg (fun z => h (eq0.mpr z)), if_neg (fun z => h1 (eq1.mpr z)), if_pos (eq2.mp h2)]
  · rw [ansReader, if_pos q, if_neg (fun z => h (eq0.mpr z)), if_neg (fun z => h1 (eq1.mpr z)), if_neg (fun z => h2 (eq2.mpr z))]; rfl
theorem m_hoursLeft (hm : MB S I J) (q : isRd S a1.toInt) (hs : S 19 a1.toInt.toNat ≠ -1) : PI ((d + 2), 265, 0, [some (.ref 71), some (.int a1)], [], (xSH L dr tl, I, J)) (left S a1.toInt.toNat) (xSH L dr tl, I, J) := by
  obtain ⟨hw, hb, hv⟩ := hm
  have h3 := hw.2.2.2.1.2.1
  have hr : ((a1.toInt.toNat : Nat) : Int) < sNR S := by have := q.1; have := q.2; omega
  have hx : xin a1 4 = true := by rw [xin_iff]; have := q.1; have := q.2; omega
  have hq := hw.2.2.2.2.2.2.2.2.1 _ hr
  have hq' : isP S (S 19 a1.toInt.toNat) (S 20 a1.toInt.toNat) := hq.elim (fun z => absurd z.1 hs) id
  have e1 : (I 114 (xIx a1)).toInt = S 19 a1.toInt.toNat := (hv.2.2 _ hr).1
  have e2 : (I 115 (xIx a1)).toInt = S 20 a1.toInt.toNat := (hv.2.2 _ hr).2 hs
  refine w265_0 ⟨hx, (m_length hw hb (by rw [e1]; exact hq'.1)).u fun r1 h1 => ⟨hx, (m_paceOf hw hb q).u fun r2 h2 => (m_paceOf hw hb q).u fun r3 h4 => ?_⟩⟩
  rw [e1] at h1
  have e4 : r1.toInt = plc S (S 19 a1.toInt.toNat) := by rw [h1, plc, if_pos hq'.1]
  have er : r2 = r3 := eq_ti.mpr (h2.trans h4.symm)
  subst er
  obtain ⟨k1, k2⟩ := left_eq hw hr hs e4 e2 h2
  exact ⟨k1, _, rfl, k2, rfl⟩
theorem m_reader (hm : MB S I J) : PI ((d + 3), 266, 0, [some (.ref 71), some (.int a1), some (.int a2)], [], (xSH L dr tl, I, J)) (ansReader S a1.toInt a2.toInt) (xSH L dr tl, I, J) := by
  refine w266_0 ((m_isReader hm.1 hm.2.1).u (fun q => br1 ?_) (fun q => br0 ⟨-1, rfl, by rw [ansReader, if_neg q]; rfl, rfl⟩))
  have hr : ((a1.toInt.toNat : Nat) : Int) < sNR S := by have := q.1; have := q.2; omega
  have h3 := hm.1.2.2.2.1.2.1
  have hx : xin a1 4 = true := by rw [xin_iff]; have := q.1; have := q.2; omega
  have hq := hm.1.2.2.2.2.2.2.2.2.1 _ hr
  have e1 : (I 114 (xIx a1)).toInt = S 19 a1.toInt.toNat := (hm.2.2.2.2 _ hr).1
  refine ⟨fun h => ⟨hx, _, rfl, ?_, rfl⟩, fun h => ⟨fun h1 => ⟨hx, fun g => ⟨0, rfl, ?_, rfl⟩, fun g => ⟨hx, _, rfl, ?_, rfl⟩⟩, fun h1 => ⟨fun h2 => ⟨hx, fun g => ⟨0, rfl, ?_, rfl⟩, fun g => (m_hoursLeft hm q (fun z => g (eqm.mpr (e1.trans z)))).u fun r hr' => ⟨r, rfl, ?_, rfl⟩⟩, fun h2 => ⟨-1, rfl, ?_, rfl⟩⟩⟩⟩
  · rw [e1, ansReader, if_pos q, if_pos (eq0.mp h)]
  · rw [eqm, e1] at g
    have hz : S 20 a1.toInt.toNat = 0 := hq.elim (fun z => z.2) (fun z => by have := z.1.1; omega)
    rw [ansReader, if_pos q, if_neg (fun z => h (eq0.mpr z)), if_pos (eq1.mp h1), hz]; rfl
  · rw [eqm, e1] at g
    rw [ansReader, if_pos q, if_neg (fun z => h (eq0.mpr z)), if_pos (eq1.mp h1)]
    exact (hm.2.2.2.2 _ hr).2 g
  · rw [eqm, e1] at g
    rw [ansReader, if_pos q, if_neg (fun z => h (eq0.mpr z)), if_neg (fun z => h1 (eq1.mpr z)), if_pos (eq2.mp h2), left, if_pos g]; rfl
  · rw [hr', ansReader, if_pos q, if_neg (fun z => h (eq0.mpr z)), if_neg (fun z => h1 (eq1.mpr z)), if_pos (eq2.mp h2)]
  · rw [ansReader, if_pos q, if_neg (fun z => h (eq0.mpr z)), if_neg (fun z => h1 (eq1.mpr z)), if_neg (fun z => h2 (eq2.mpr z))]; rfl
end CALLS1
