/-! ===== the class's world: what is read of it ===== -/
theorem ti_n {a : Int32} (h : 0 ≤ a.toInt) : ((a.toInt.toNat : Nat) : Int) = a.toInt := Int.toNat_of_nonneg h
theorem add1 {a : Int32} (h1 : 0 ≤ a.toInt) (h2 : a.toInt < 1000000000) : (a + 1).toInt = a.toInt + 1 := add_ti (by show _ ≤ a.toInt + 1; omega) (by show a.toInt + 1 < _; omega)
theorem isP_b {S : aS} (hw : WF S) {l p : Int} (h : isP S l p) : 0 ≤ l ∧ l < 8 ∧ 0 ≤ p ∧ p < 64 ∧ p < S 5 l.toNat := by
  have h1 := hw.2.2.1.2.1
  have h2 := h.1.1
  have h3 := h.1.2
  have h4 := hw.2.2.1.2.2 l.toNat (by omega)
  have h5 := h.2.1
  have h6 := h.2.2
  omega
theorem slot_c {S : aS} (hw : WF S) {a1 a2 : Int32} (h : isP S a1.toInt a2.toInt) : (a1 * 64 + a2).toInt = 64 * a1.toInt + a2.toInt ∧ xIx (a1 * 64 + a2) = slot a1.toInt a2.toInt ∧ xin (a1 * 64 + a2) 512 = true := by
  have hb := isP_b hw h
  have e1 : (a1 * 64).toInt = a1.toInt * 64 := mul_ti (by show _ ≤ a1.toInt * 64; omega) (by show a1.toInt * 64 < _; omega)
  have e2 : (a1 * 64 + a2).toInt = 64 * a1.toInt + a2.toInt := by rw [add_ti (by rw [e1]; omega) (by rw [e1]; omega), e1]; omega
  refine ⟨e2, ?_, ?_⟩
  · rw [xIx_ti, e2]; rfl
  · rw [xin_iff, e2]; omega
theorem slot_m {S : aS} (hw : WF S) {a1 a2 : Int32} (h : isP S a1.toInt a2.toInt) : (64 * a1 + a2).toInt = 64 * a1.toInt + a2.toInt ∧ xIx (64 * a1 + a2) = slot a1.toInt a2.toInt ∧ xin (64 * a1 + a2) 512 = true := by
  have hb := isP_b hw h
  have e1 : (64 * a1).toInt = 64 * a1.toInt := mul_ti (by show _ ≤ 64 * a1.toInt; omega) (by show 64 * a1.toInt < _; omega)
  have e2 : (64 * a1 + a2).toInt = 64 * a1.toInt + a2.toInt := by rw [add_ti (by rw [e1]; omega) (by rw [e1]; omega), e1]
  refine ⟨e2, ?_, ?_⟩
  · rw [xIx_ti, e2]; rfl
  · rw [xin_iff, e2]; omega
/-- a sign is wet (0), dry (1), blank (2), has a ghost (else) -/
def such (S : aS) (s : Nat) (k : Int) : Bool := if k = 0 then decide (0 < S 16 s) else if k = 1 then (decide (S 15 s ≠ 0) && decide (S 16 s = 0)) else if k = 2 then decide (S 15 s = 0) else decide (S 18 s ≠ 0)
/-- how many of the first n -/
def cntB (f : Nat → Bool) : Nat → Int
  | 0 => 0
  | n + 1 => cntB f n + (if f n = true then 1 else 0)
theorem cntB_b (f : Nat → Bool) : ∀ n : Nat, 0 ≤ cntB f n ∧ cntB f n ≤ n := by
  intro n
  induction n with
  | zero => simp [cntB]
  | succ n ih => simp only [cntB]; split <;> omega
theorem cntB_eq {f g : Nat → Bool} : ∀ n : Nat, (∀ i, i < n → f i = g i) → cntB f n = cntB g n := by
  intro n
  induction n with
  | zero => intro _; rfl
  | succ n ih => intro h; simp only [cntB]; rw [ih (fun i hi => h i (by omega)), h n (by omega)]
def sumI (f : Nat → Int) : Nat → Int
  | 0 => 0
  | n + 1 => sumI f n + f n
theorem sumI_b {f : Nat → Int} {B : Int} : ∀ n : Nat, (∀ i, i < n → 0 ≤ f i ∧ f i ≤ B) → 0 ≤ sumI f n ∧ sumI f n ≤ B * n := by
  intro n
  induction n with
  | zero => intro _; simp [sumI]
  | succ n ih =>
    intro h
    have h1 := ih (fun i hi => h i (by omega))
    have h2 := h n (by omega)
    simp only [sumI, Int.natCast_add, Int.natCast_one, Int.mul_add, Int.mul_one]
    omega
def maxI (f : Nat → Int) : Nat → Int
  | 0 => 0
  | n + 1 => max (maxI f n) (f n)
def CB (S : aS) (tl : Nat) (I : Nat → Nat → Int32) : Prop := WF S ∧ (tl = 8 ∨ tl = 31) ∧ CIb S tl I ∧ CIw S I
theorem plc_lt {S : aS} {l : Int} {k : Nat} (h : (k : Int) < plc S l) : isP S l k := plc_isP.mpr ⟨by omega, h⟩
section WORLD
variable {S : aS} {L d dr tl : Nat} {I : Nat → Nat → Int32} {J : Nat → Nat → Int64} {a0 a1 a2 a3 a4 : Int32}
theorem s_max : PI ((d + 1), 317, 0, [some (.int a0), some (.int a1)], [], (xSH L dr tl, I, J)) (max a0.toInt a1.toInt) (xSH L dr tl, I, J) := by
  refine w317_0 ⟨fun h => ⟨a1, rfl, ?_, rfl⟩, fun h => ⟨a0, rfl, ?_, rfl⟩⟩ <;> (rw [lt_ti] at h; omega)
theorem s_min : PI ((d + 1), 319, 0, [some (.int a0), some (.int a1)], [], (xSH L dr tl, I, J)) (min a0.toInt a1.toInt) (xSH L dr tl, I, J) := by
  refine w319_0 ⟨fun h => ⟨a1, rfl, ?_, rfl⟩, fun h => ⟨a0, rfl, ?_, rfl⟩⟩ <;> (rw [lt_ti] at h; omega)
theorem s_slot : PU ((d + 1), 136, 0, [some (.int a0), some (.int a1)], [], (xSH L dr tl, I, J)) (some (.int (a0 * 64 + a1))) (xSH L dr tl, I, J) := w136_0 ⟨rfl, rfl⟩
theorem s_hour (h : CIw S I) : PI ((d + 1), 131, 0, [some (.ref 30)], [], (xSH L dr tl, I, J)) (sHr S) (xSH L dr tl, I, J) := w131_0 ⟨_, rfl, h.1, rfl⟩
theorem s_letterAt (hc : CB S tl I) : PI ((d + 3), 137, 0, [some (.ref 30), some (.int a1), some (.int a2)], [], (xSH L dr tl, I, J)) (if isP S a1.toInt a2.toInt then S 15 (slot a1.toInt a2.toInt) else 0) (xSH L dr tl, I, J) := by
  obtain ⟨hw, ht, hb, hv⟩ := hc
  refine w137_0 ht ((s_hasPlace hw ht hb).u (fun q => br1 (s_slot.i ?_)) (fun q => br0 ⟨0, rfl, by rw [if_neg q]; rfl, rfl⟩))
  obtain ⟨e1, e2, e3⟩ := slot_c hw q
  exact ⟨e3, _, rfl, by rw [if_pos q, e2]; exact (hv.2.1 _ _ q).1, rfl⟩
theorem s_eyesAt (hc : CB S tl I) : PI ((d + 3), 138, 0, [some (.ref 30), some (.int a1), some (.int a2)], [], (xSH L dr tl, I, J)) (if isP S a1.toInt a2.toInt then S 16 (slot a1.toInt a2.toInt) else 0) (xSH L dr tl, I, J) := by
  obtain ⟨hw, ht, hb, hv⟩ := hc
  refine w138_0 ht ((s_hasPlace hw ht hb).u (fun q => br1 (s_slot.i ?_)) (fun q => br0 ⟨0, rfl, by rw [if_neg q]; rfl, rfl⟩))
  obtain ⟨e1, e2, e3⟩ := slot_c hw q
  exact ⟨e3, _, rfl, by rw [if_pos q, e2]; exact (hv.2.1 _ _ q).2.1, rfl⟩
theorem s_ghostAt (hc : CB S tl I) : PI ((d + 3), 139, 0, [some (.ref 30), some (.int a1), some (.int a2)], [], (xSH L dr tl, I, J)) (if isP S a1.toInt a2.toInt then S 18 (slot a1.toInt a2.toInt) else 0) (xSH L dr tl, I, J) := by
  obtain ⟨hw, ht, hb, hv⟩ := hc
  refine w139_0 ht ((s_hasPlace hw ht hb).u (fun q => br1 (s_slot.i ?_)) (fun q => br0 ⟨0, rfl, by rw [if_neg q]; rfl, rfl⟩))
  obtain ⟨e1, e2, e3⟩ := slot_c hw q
  exact ⟨e3, _, rfl, by rw [if_pos q, e2]; exact (hv.2.1 _ _ q).2.2.2, rfl⟩
theorem s_isSuch (hc : CB S tl I) : PB ((d + 3), 141, 0, [some (.ref 30), some (.int a1), some (.int a2), some (.int a3), none], [], (xSH L dr tl, I, J)) (isP S a1.toInt a2.toInt ∧ such S (slot a1.toInt a2.toInt) a3.toInt = true) (xSH L dr tl, I, J) := by
  obtain ⟨hw, ht, hb, hv⟩ := hc
  refine w141_0 ht ((s_hasPlace hw ht hb).u (fun q => br1 (s_slot.i ?_)) (fun q => br0 ⟨0, rfl, Or.inr ⟨rfl, fun z => q z.1⟩, rfl⟩))
  obtain ⟨e1, e2, e3⟩ := slot_c hw q
  obtain ⟨g1, g2, g3, g4⟩ := hv.2.1 _ _ q
  rw [e2]
  have n3 : ∀ n : Int32, ¬ a3 = n → ¬ a3.toInt = n.toInt := fun n h z => h (eq_ti.mpr z)
  refine ⟨fun h => ⟨e3, fun h2 => ⟨1, rfl, Or.inl ⟨rfl, q, ?_⟩, rfl⟩, fun h2 => ⟨0, rfl, Or.inr ⟨rfl, ?_⟩, rfl⟩⟩, fun h => ⟨fun h1 => ⟨e3, fun h2 => ⟨0, rfl, Or.inr ⟨rfl, ?_⟩, rfl⟩, fun h2 => ⟨e3, fun h3 => ⟨1, rfl, Or.inl ⟨rfl, q, ?_⟩, rfl⟩, fun h3 => ⟨0, rfl, Or.inr ⟨rfl, ?_⟩, rfl⟩⟩⟩, fun h1 => ⟨fun h2 => ⟨e3, fun h3 => ⟨1, rfl, Or.inl ⟨rfl, q, ?_⟩, rfl⟩, fun h3 => ⟨0, rfl, Or.inr ⟨rfl, ?_⟩, rfl⟩⟩, fun h2 => ⟨e3, fun h3 => ⟨0, rfl, Or.inr ⟨rfl, ?_⟩, rfl⟩, fun h3 => ⟨1, rfl, Or.inl ⟨rfl, q, ?_⟩, rfl⟩⟩⟩⟩⟩
  · rw [gt0, g2] at h2; rw [h]; simpa [such] using h2
  · rw [gt0, g2] at h2; rw [h]; rintro ⟨-, z⟩; exact h2 (by simpa [such] using z)
  · rw [eq0, g1] at h2; rw [h1]; rintro ⟨-, z⟩; simp [such, h2] at z
  · rw [eq0, g1] at h2; rw [eq0, g2] at h3; rw [h1]; simp [such, h2, h3]
  · rw [eq0, g2] at h3; rw [h1]; rintro ⟨-, z⟩; simp [such, h3] at z
  · rw [eq0, g1] at h3; rw [h2]; simp [such, h3]
  · rw [eq0, g1] at h3; rw [h2]; rintro ⟨-, z⟩; simp [such, h3] at z
  · rw [eq0, g4] at h3; rintro ⟨-, z⟩
    have k0 := n3 0 h
    have k1 := n3 1 h1
    have k2 := n3 2 h2
    simp [such, show ¬ a3.toInt = 0 from k0, show ¬ a3.toInt = 1 from k1, show ¬ a3.toInt = 2 from k2, h3] at z
  · rw [eq0, g4] at h3
    have k0 := n3 0 h
    have k1 := n3 1 h1
    have k2 := n3 2 h2
    simp [such, show ¬ a3.toInt = 0 from k0, show ¬ a3.toInt = 1 from k1, show ¬ a3.toInt = 2 from k2, h3]
theorem s_drySince (hc : CB S tl I) : PI ((d + 4), 140, 0, [some (.ref 30), some (.int a1), some (.int a2)], [], (xSH L dr tl, I, J)) (if isP S a1.toInt a2.toInt ∧ such S (slot a1.toInt a2.toInt) 1 = true then S 17 (slot a1.toInt a2.toInt) else -1) (xSH L dr tl, I, J) := by
  refine w140_0 ((s_isSuch hc).u (fun q => br1 (s_slot.i ?_)) (fun q => br0 ⟨-1, rfl, by rw [if_neg (show ¬ (isP S a1.toInt a2.toInt ∧ such S (slot a1.toInt a2.toInt) 1 = true) from q)]; rfl, rfl⟩))
  replace q : isP S a1.toInt a2.toInt ∧ such S (slot a1.toInt a2.toInt) 1 = true := q
  obtain ⟨hw, ht, hb, hv⟩ := hc
  obtain ⟨e1, e2, e3⟩ := slot_c hw q.1
  refine ⟨e3, _, rfl, ?_, rfl⟩
  have z := q.2
  have hz : S 15 (slot a1.toInt a2.toInt) ≠ 0 ∧ S 16 (slot a1.toInt a2.toInt) = 0 := by simpa [such] using z
  rw [if_pos q, e2]
  exact (hv.2.1 _ _ q.1).2.2.1 hz.1 hz.2
/-- counts over a leaf -/
def tal (S : aS) (l k : Int) : Int := cntB (fun p => such S (slot l p) k) (plc S l).toNat
theorem tally_loop (hc : CB S tl I) : ∀ (m k : Nat) (c p : Int32), (k + m : Nat) = (plc S a1.toInt).toNat → p.toInt = k → c.toInt = cntB (fun p => such S (slot a1.toInt p) a2.toInt) k → PI ((d + 4), 143, 5, [some (.ref 30), some (.int a1), some (.int a2), some (.int c), some (.int p)], [], (xSH L dr tl, I, J)) (tal S a1.toInt a2.toInt) (xSH L dr tl, I, J) := by
  have hpl := plc_le hc.1 a1.toInt
  intro m
  induction m with
  | zero =>
    intro k c p hk hp hcn
    refine w143_5 hc.2.1 ((s_placesOf hc.1 hc.2.1 hc.2.2.1).u fun r hr => ⟨fun h => ?_, fun h => ⟨c, rfl, ?_, rfl⟩⟩)
    · rw [lt_ti, hr, hp] at h; omega
    · rw [hcn]; unfold tal; rw [← hk]; rfl
  | succ m ih =>
    intro k c p hk hp hcn
    have hb := cntB_b (fun p => such S (slot a1.toInt p) a2.toInt) k
    have e1 : (p + 1).toInt = ((k + 1 : Nat) : Int) := by rw [add1 (by omega) (by omega), hp]; rfl
    refine w143_5 hc.2.1 ((s_placesOf hc.1 hc.2.1 hc.2.2.1).u fun r hr => ⟨fun h => (s_isSuch hc).u (fun q => br1 (ih (k + 1) _ _ (by omega) e1 ?_)) (fun q => br0 (ih (k + 1) _ _ (by omega) e1 ?_)), fun h => ?_⟩)
    · rw [hp] at q
      rw [add1 (by omega) (by omega), hcn]; simp only [cntB]; rw [if_pos q.2]
    · rw [lt_ti, hr, hp] at h
      rw [hcn]; simp only [cntB]; rw [if_neg (fun z => q ⟨by rw [hp]; exact plc_lt h, by rw [hp]; exact z⟩)]; omega
    · rw [lt_ti, hr, hp] at h; omega
theorem s_tally (hc : CB S tl I) : PI ((d + 4), 143, 0, [some (.ref 30), some (.int a1), some (.int a2), none, none], [], (xSH L dr tl, I, J)) (tal S a1.toInt a2.toInt) (xSH L dr tl, I, J) := w143_0 (tally_loop hc (plc S a1.toInt).toNat 0 0 0 (by omega) rfl rfl)
end WORLD
