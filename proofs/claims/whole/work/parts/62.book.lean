/-! ===== the class's told book ===== -/
theorem lt0 {a : Int32} : a < 0 ↔ a.toInt < 0 := lt_ti
theorem gt0 {a : Int32} : 0 < a ↔ 0 < a.toInt := lt_ti
theorem eq0 {a : Int32} : a = 0 ↔ a.toInt = 0 := eq_ti
theorem eqm {a : Int32} : a = -1 ↔ a.toInt = -1 := eq_ti
section BOOK
variable {S : aS} {L d dr tl B : Nat} {I : Nat → Nat → Int32} {J : Nat → Nat → Int64} {a1 a2 a3 : Int32}
theorem s_hasInk (hB : B = 8 ∨ B = 31) (hb : CIb S B I) : PB ((d + 1), 7, 0, [some (.ref B), some (.int a1)], [], (xSH L dr tl, I, J)) (0 ≤ a1.toInt ∧ a1.toInt < sNI S) (xSH L dr tl, I, J) := by
  have h1 := hb.1.1
  refine w7_0 hB ⟨fun h => ⟨0, rfl, Or.inr ⟨rfl, ?_⟩, rfl⟩, fun h => ⟨fun h2 => ⟨1, rfl, Or.inl ⟨rfl, ?_⟩, rfl⟩, fun h2 => ⟨0, rfl, Or.inr ⟨rfl, ?_⟩, rfl⟩⟩⟩
  · rw [lt0] at h; omega
  · rw [lt0] at h; rw [lt_ti, h1] at h2; omega
  · rw [lt0] at h; rw [lt_ti, h1] at h2; omega
theorem s_hasLeaf (hB : B = 8 ∨ B = 31) (hb : CIb S B I) : PB ((d + 1), 8, 0, [some (.ref B), some (.int a1)], [], (xSH L dr tl, I, J)) (isL S a1.toInt) (xSH L dr tl, I, J) := by
  have h1 := hb.1.2.1
  refine w8_0 hB ⟨fun h => ⟨0, rfl, Or.inr ⟨rfl, ?_⟩, rfl⟩, fun h => ⟨fun h2 => ⟨1, rfl, Or.inl ⟨rfl, ?_⟩, rfl⟩, fun h2 => ⟨0, rfl, Or.inr ⟨rfl, ?_⟩, rfl⟩⟩⟩
  · rw [lt0] at h; omega
  · rw [lt0] at h; rw [lt_ti, h1] at h2; omega
  · rw [lt0] at h; rw [lt_ti, h1] at h2; omega
theorem s_hasReader (hB : B = 8 ∨ B = 31) (hb : CIb S B I) : PB ((d + 1), 9, 0, [some (.ref B), some (.int a1)], [], (xSH L dr tl, I, J)) (isRd S a1.toInt) (xSH L dr tl, I, J) := by
  have h1 := hb.1.2.2.1
  refine w9_0 hB ⟨fun h => ⟨0, rfl, Or.inr ⟨rfl, ?_⟩, rfl⟩, fun h => ⟨fun h2 => ⟨1, rfl, Or.inl ⟨rfl, ?_⟩, rfl⟩, fun h2 => ⟨0, rfl, Or.inr ⟨rfl, ?_⟩, rfl⟩⟩⟩
  · rw [lt0] at h; omega
  · rw [lt0] at h; rw [lt_ti, h1] at h2; omega
  · rw [lt0] at h; rw [lt_ti, h1] at h2; omega
/-- how many places a leaf has -/
def plc (S : aS) (l : Int) : Int := if isL S l then S 5 l.toNat else 0
theorem plc_isP {S : aS} {l p : Int} : isP S l p ↔ 0 ≤ p ∧ p < plc S l := by
  unfold plc
  by_cases h : isL S l
  · rw [if_pos h]; exact ⟨fun q => q.2, fun q => ⟨h, q⟩⟩
  · rw [if_neg h]; exact ⟨fun q => absurd q.1 h, fun q => by omega⟩
theorem plc_le {S : aS} (hw : WF S) (l : Int) : 0 ≤ plc S l ∧ plc S l ≤ 64 := by
  unfold plc
  by_cases h : isL S l
  · rw [if_pos h]
    have := hw.2.2.1.2.2 l.toNat (by have := h.1; have := h.2; omega)
    omega
  · rw [if_neg h]; omega
theorem isL_nat {l : Int} (h : isL S l) : ((l.toNat : Nat) : Int) = l := Int.toNat_of_nonneg h.1
theorem s_placesOf (hw : WF S) (hB : B = 8 ∨ B = 31) (hb : CIb S B I) : PI ((d + 1), 12, 0, [some (.ref B), some (.int a1)], [], (xSH L dr tl, I, J)) (plc S a1.toInt) (xSH L dr tl, I, J) := by
  have h1 := hb.1.2.1
  have h3 := hw.2.2.1.2.1
  refine w12_0 hB ⟨fun h => ⟨0, rfl, ?_, rfl⟩, fun h => ⟨fun h2 => ⟨?_, _, rfl, ?_, rfl⟩, fun h2 => ⟨0, rfl, ?_, rfl⟩⟩⟩
  · rw [lt0] at h; unfold plc; rw [if_neg (by intro q; have := q.1; omega)]; rfl
  · rw [lt0] at h; rw [lt_ti, h1] at h2; rw [xin_iff]; omega
  · rw [lt0] at h; rw [lt_ti, h1] at h2
    have hl : isL S a1.toInt := ⟨by omega, h2⟩
    unfold plc
    rw [if_pos hl, xIx_ti, hb.2.2.1 a1.toInt.toNat (by rw [isL_nat hl]; exact hl.2)]
  · rw [lt0] at h; rw [lt_ti, h1] at h2; unfold plc; rw [if_neg (fun q => h2 q.2)]; rfl
theorem s_hasPlace (hw : WF S) (hB : B = 8 ∨ B = 31) (hb : CIb S B I) : PB ((d + 2), 10, 0, [some (.ref B), some (.int a1), some (.int a2)], [], (xSH L dr tl, I, J)) (isP S a1.toInt a2.toInt) (xSH L dr tl, I, J) := by
  refine w10_0 hB ⟨fun h => ⟨0, rfl, Or.inr ⟨rfl, ?_⟩, rfl⟩, fun h => (s_placesOf hw hB hb).u fun r hr => ⟨fun h2 => ⟨1, rfl, Or.inl ⟨rfl, ?_⟩, rfl⟩, fun h2 => ⟨0, rfl, Or.inr ⟨rfl, ?_⟩, rfl⟩⟩⟩
  · rw [lt0] at h; intro q; have := q.2.1; omega
  · rw [lt0] at h; rw [lt_ti, hr] at h2; exact plc_isP.mpr ⟨by omega, h2⟩
  · rw [lt_ti, hr] at h2; exact fun q => h2 (plc_isP.mp q).2
theorem s_hasSpan (hw : WF S) (hB : B = 8 ∨ B = 31) (hb : CIb S B I) : PB ((d + 2), 11, 0, [some (.ref B), some (.int a1), some (.int a2), some (.int a3)], [], (xSH L dr tl, I, J)) (isP S a1.toInt a2.toInt ∧ isP S a1.toInt a3.toInt ∧ a2.toInt ≤ a3.toInt) (xSH L dr tl, I, J) := by
  refine w11_0 hB ⟨fun h => ⟨0, rfl, Or.inr ⟨rfl, ?_⟩, rfl⟩, fun h => ⟨fun h1 => ⟨0, rfl, Or.inr ⟨rfl, ?_⟩, rfl⟩, fun h1 => (s_placesOf hw hB hb).u fun r hr => ⟨fun h2 => ⟨1, rfl, Or.inl ⟨rfl, ?_⟩, rfl⟩, fun h2 => ⟨0, rfl, Or.inr ⟨rfl, ?_⟩, rfl⟩⟩⟩⟩
  · rw [lt0] at h; intro q; have := q.1.2.1; omega
  · rw [lt_ti] at h1; intro q; have := q.2.2; omega
  · rw [lt0] at h; rw [lt_ti] at h1; rw [lt_ti, hr] at h2; exact ⟨plc_isP.mpr ⟨by omega, by omega⟩, plc_isP.mpr ⟨by omega, h2⟩, by omega⟩
  · rw [lt_ti, hr] at h2; exact fun q => h2 (plc_isP.mp q.2.1).2
theorem s_eyesOf (hw : WF S) (hB : B = 8 ∨ B = 31) (hb : CIb S B I) : PI ((d + 2), 14, 0, [some (.ref B), some (.int a1)], [], (xSH L dr tl, I, J)) (if 0 ≤ a1.toInt ∧ a1.toInt < sNI S then S 2 a1.toInt.toNat else 0) (xSH L dr tl, I, J) := by
  have h3 := hw.2.1.2.1
  refine w14_0 hB ((s_hasInk hB hb).u (fun q => br1 ⟨?_, _, rfl, ?_, rfl⟩) (fun q => br0 ⟨0, rfl, ?_, rfl⟩))
  · rw [xin_iff]; omega
  · rw [if_pos q, xIx_ti, (hb.2.1 a1.toInt.toNat (by omega)).1]
  · rw [if_neg q]; rfl
theorem s_paceOf (hw : WF S) (hB : B = 8 ∨ B = 31) (hb : CIb S B I) : PI ((d + 2), 15, 0, [some (.ref B), some (.int a1)], [], (xSH L dr tl, I, J)) (if isRd S a1.toInt then S 6 a1.toInt.toNat else 1) (xSH L dr tl, I, J) := by
  have h3 := hw.2.2.2.1.2.1
  refine w15_0 hB ((s_hasReader hB hb).u (fun q => br1 ?_) (fun q => br0 ⟨1, rfl, ?_, rfl⟩))
  · have hr := hw.2.2.2.1.2.2 a1.toInt.toNat (by have := q.1; have := q.2; omega)
    have hI := (hb.2.2.2.1 a1.toInt.toNat (by have := q.1; have := q.2; omega)).1
    have hx : xin a1 4 = true := by rw [xin_iff]; have := q.1; have := q.2; omega
    refine ⟨hx, fun h => ⟨hx, _, rfl, ?_, rfl⟩, fun h => ?_⟩
    · rw [if_pos q]; exact hI
    · exact absurd (by rw [gt0, xIx_ti, hI]; omega) h
  · rw [if_neg q]; rfl
theorem s_payOf (hw : WF S) (hB : B = 8 ∨ B = 31) (hb : CIb S B I) : PI ((d + 2), 16, 0, [some (.ref B), some (.int a1)], [], (xSH L dr tl, I, J)) (if isRd S a1.toInt then S 8 a1.toInt.toNat else 0) (xSH L dr tl, I, J) := by
  have h3 := hw.2.2.2.1.2.1
  refine w16_0 hB ((s_hasReader hB hb).u (fun q => br1 ⟨?_, _, rfl, ?_, rfl⟩) (fun q => br0 ⟨0, rfl, ?_, rfl⟩))
  · rw [xin_iff]; have := q.1; have := q.2; omega
  · rw [if_pos q, xIx_ti, (hb.2.2.2.1 a1.toInt.toNat (by have := q.1; have := q.2; omega)).2.2.1]
  · rw [if_neg q]; rfl
/-- whether a reader looks at a place -/
def looks (S : aS) (r p : Int) : Prop := isRd S r ∧ (S 7 r.toNat = 0 ∨ (p + 1) % S 7 r.toNat ≠ 0)
theorem s_looksAt (hw : WF S) (hB : B = 8 ∨ B = 31) (hb : CIb S B I) (h2 : 0 ≤ a2.toInt) (h3 : a2.toInt < 1000000) : PB ((d + 2), 17, 0, [some (.ref B), some (.int a1), some (.int a2), none], [], (xSH L dr tl, I, J)) (looks S a1.toInt a2.toInt) (xSH L dr tl, I, J) := by
  have h4 := hw.2.2.2.1.2.1
  refine w17_0 hB ((s_hasReader hB hb).u (fun q => br1 ?_) (fun q => br0 ⟨0, rfl, Or.inr ⟨rfl, fun z => q z.1⟩, rfl⟩))
  have hr := hw.2.2.2.1.2.2 a1.toInt.toNat (by have := q.1; have := q.2; omega)
  have hI := (hb.2.2.2.1 a1.toInt.toNat (by have := q.1; have := q.2; omega)).2.1
  have hx : xin a1 4 = true := by rw [xin_iff]; have := q.1; have := q.2; omega
  rw [xIx_ti]
  refine ⟨hx, fun h => ⟨1, rfl, Or.inl ⟨rfl, q, Or.inl ?_⟩, rfl⟩, fun h => ?_⟩
  · rw [eq0, hI] at h; exact h
  · have hs : 0 < (I (B + 20) a1.toInt.toNat).toInt := by rw [eq0, hI] at h; rw [hI]; omega
    have e1 : (a2 + 1).toInt = a2.toInt + 1 := add_ti (by show _ ≤ a2.toInt + 1; omega) (by show a2.toInt + 1 < _; omega)
    have e2 := rem_ti (a := a2 + 1) (b := I (B + 20) a1.toInt.toNat) (by rw [e1]; omega) hs
    rw [e1, hI] at e2
    refine ⟨h, fun g => ⟨0, rfl, Or.inr ⟨rfl, ?_⟩, rfl⟩, fun g => ⟨1, rfl, Or.inl ⟨rfl, q, Or.inr ?_⟩, rfl⟩⟩
    · rw [eq0, e2] at g
      rintro ⟨-, z | z⟩
      · rw [eq0, hI] at h; exact h z
      · exact z g
    · rw [eq0, e2] at g; exact g
/-- the guard's hours -/
def grd (S : aS) (h : Int) : Prop := 0 < sGE S ∧ h % sGE S = sGF S
theorem s_isGuarded (hB : B = 8 ∨ B = 31) (hb : CIb S B I) (h2 : 0 ≤ a1.toInt) : PB ((d + 1), 18, 0, [some (.ref B), some (.int a1)], [], (xSH L dr tl, I, J)) (grd S a1.toInt) (xSH L dr tl, I, J) := by
  have e1 := hb.1.2.2.2.2.1
  have e2 := hb.1.2.2.2.2.2
  refine w18_0 hB ⟨fun h => ?_, fun h => ⟨0, rfl, Or.inr ⟨rfl, fun z => h (by rw [gt0, e1]; exact z.1)⟩, rfl⟩⟩
  rw [gt0, e1] at h
  have e3 := rem_ti (a := a1) (b := I B 10) h2 (by rw [e1]; exact h)
  rw [e1] at e3
  refine ⟨by rw [eq0, e1]; omega, fun g => ⟨1, rfl, Or.inl ⟨rfl, h, ?_⟩, rfl⟩, fun g => ⟨0, rfl, Or.inr ⟨rfl, fun z => ?_⟩, rfl⟩⟩
  · rw [eq_ti, e3, e2 h] at g; exact g
  · rw [eq_ti, e3, e2 h] at g; exact g z.2
end BOOK
