/-! ===== counting: has, leaf ===== -/
section COUNTS
variable {S : aS} {L d dr tl : Nat} {I : Nat → Nat → Int32} {J : Nat → Nat → Int64} {a1 a2 a3 : Int32}
theorem tal_b (hw : WF S) (l k : Int) : 0 ≤ tal S l k ∧ tal S l k ≤ 64 := by
  have h1 := plc_le hw l
  have h2 := cntB_b (fun p => such S (slot l p) k) (plc S l).toNat
  unfold tal
  omega
theorem s_size {s : Nat} {z : Int} (hs : s = 9 ∨ s = 12 ∨ s = 15 ∨ s = 18 ∨ s = 32 ∨ s = 35 ∨ s = 38 ∨ s = 41) (h : (I s 3).toInt = z) : PI ((d + 1), 104, 0, [some (.ref s)], [], (xSH L dr tl, I, J)) z (xSH L dr tl, I, J) := w104_0 hs ⟨_, rfl, h, rfl⟩
theorem sp1 (ht : tl = 8 ∨ tl = 31) : tl + 1 = 9 ∨ tl + 1 = 12 ∨ tl + 1 = 15 ∨ tl + 1 = 18 ∨ tl + 1 = 32 ∨ tl + 1 = 35 ∨ tl + 1 = 38 ∨ tl + 1 = 41 := by omega
theorem sp4 (ht : tl = 8 ∨ tl = 31) : tl + 4 = 9 ∨ tl + 4 = 12 ∨ tl + 4 = 15 ∨ tl + 4 = 18 ∨ tl + 4 = 32 ∨ tl + 4 = 35 ∨ tl + 4 = 38 ∨ tl + 4 = 41 := by omega
theorem sp7 (ht : tl = 8 ∨ tl = 31) : tl + 7 = 9 ∨ tl + 7 = 12 ∨ tl + 7 = 15 ∨ tl + 7 = 18 ∨ tl + 7 = 32 ∨ tl + 7 = 35 ∨ tl + 7 = 38 ∨ tl + 7 = 41 := by omega
theorem sp10 (ht : tl = 8 ∨ tl = 31) : tl + 10 = 9 ∨ tl + 10 = 12 ∨ tl + 10 = 15 ∨ tl + 10 = 18 ∨ tl + 10 = 32 ∨ tl + 10 = 35 ∨ tl + 10 = 38 ∨ tl + 10 = 41 := by omega
def talA (S : aS) (k : Int) : Int := sumI (fun l => tal S l k) (sNL S).toNat
theorem tallyAll_loop (hc : CB S tl I) : ∀ (m k : Nat) (c p : Int32), (k + m : Nat) = (sNL S).toNat → p.toInt = k → c.toInt = sumI (fun l => tal S l a1.toInt) k → PI ((d + 5), 144, 4, [some (.ref 30), some (.int a1), some (.int c), some (.int p)], [], (xSH L dr tl, I, J)) (talA S a1.toInt) (xSH L dr tl, I, J) := by
  have hn := hc.1.2.2.1
  intro m
  induction m with
  | zero =>
    intro k c p hk hp hcn
    refine w144_4 hc.2.1 ((s_size (sp4 hc.2.1) hc.2.2.1.1.2.1).u fun r hr => ⟨fun h => ?_, fun h => ⟨c, rfl, ?_, rfl⟩⟩)
    · rw [lt_ti, hr, hp] at h; omega
    · rw [hcn, talA, ← hk]; rfl
  | succ m ih =>
    intro k c p hk hp hcn
    have hb := sumI_b (f := fun l => tal S l a1.toInt) (B := 64) k (fun i _ => tal_b hc.1 _ _)
    have e1 : (p + 1).toInt = ((k + 1 : Nat) : Int) := by rw [add1 (by omega) (by omega), hp]; rfl
    refine w144_4 hc.2.1 ((s_size (sp4 hc.2.1) hc.2.2.1.1.2.1).u fun r hr => ⟨fun h => (s_tally hc).u fun r3 h3 => ih (k + 1) _ _ (by omega) e1 ?_, fun h => ?_⟩)
    · have ht := tal_b hc.1 p.toInt a1.toInt
      rw [add_ti (by omega) (by omega), hcn, h3, hp]; rfl
    · rw [lt_ti, hr, hp] at h; omega
theorem s_tallyAll (hc : CB S tl I) : PI ((d + 5), 144, 0, [some (.ref 30), some (.int a1), none, none], [], (xSH L dr tl, I, J)) (talA S a1.toInt) (xSH L dr tl, I, J) := w144_0 (tallyAll_loop hc (sNL S).toNat 0 0 0 (by omega) rfl rfl)
theorem eyes_b (hw : WF S) {l : Int} {k : Nat} (h : (k : Int) < plc S l) : 0 ≤ S 16 (slot l k) ∧ S 16 (slot l k) ≤ 99 := by
  have := hw.2.2.2.2.2.2.2.1 l k (plc_lt h)
  omega
theorem mostEyes_loop (hc : CB S tl I) : ∀ (m k : Nat) (c p : Int32), (k + m : Nat) = (plc S a1.toInt).toNat → p.toInt = k → c.toInt = maxI (fun p => S 16 (slot a1.toInt p)) k → PI ((d + 4), 145, 4, [some (.ref 30), some (.int a1), some (.int c), some (.int p)], [], (xSH L dr tl, I, J)) (maxI (fun p => S 16 (slot a1.toInt p)) (plc S a1.toInt).toNat) (xSH L dr tl, I, J) := by
  have hpl := plc_le hc.1 a1.toInt
  intro m
  induction m with
  | zero =>
    intro k c p hk hp hcn
    refine w145_4 hc.2.1 ((s_placesOf hc.1 hc.2.1 hc.2.2.1).u fun r hr => ⟨fun h => ?_, fun h => ⟨c, rfl, ?_, rfl⟩⟩)
    · rw [lt_ti, hr, hp] at h; omega
    · rw [hcn, ← hk]; rfl
  | succ m ih =>
    intro k c p hk hp hcn
    have e1 : (p + 1).toInt = ((k + 1 : Nat) : Int) := by rw [add1 (by omega) (by omega), hp]; rfl
    refine w145_4 hc.2.1 ((s_placesOf hc.1 hc.2.1 hc.2.2.1).u fun r hr => ⟨fun h => (s_eyesAt hc).u fun r3 h3 => s_max.u fun r4 h4 => ih (k + 1) _ _ (by omega) e1 ?_, fun h => ?_⟩)
    · rw [lt_ti, hr, hp] at h
      rw [hp, if_pos (plc_lt h)] at h3
      rw [h4, hcn, h3]; rfl
    · rw [lt_ti, hr, hp] at h; omega
theorem allEyes_loop (hc : CB S tl I) : ∀ (m k : Nat) (c p : Int32), (k + m : Nat) = (plc S a1.toInt).toNat → p.toInt = k → c.toInt = sumI (fun p => S 16 (slot a1.toInt p)) k → PI ((d + 4), 146, 4, [some (.ref 30), some (.int a1), some (.int c), some (.int p)], [], (xSH L dr tl, I, J)) (sumI (fun p => S 16 (slot a1.toInt p)) (plc S a1.toInt).toNat) (xSH L dr tl, I, J) := by
  have hpl := plc_le hc.1 a1.toInt
  intro m
  induction m with
  | zero =>
    intro k c p hk hp hcn
    refine w146_4 hc.2.1 ((s_placesOf hc.1 hc.2.1 hc.2.2.1).u fun r hr => ⟨fun h => ?_, fun h => ⟨c, rfl, ?_, rfl⟩⟩)
    · rw [lt_ti, hr, hp] at h; omega
    · rw [hcn, ← hk]; rfl
  | succ m ih =>
    intro k c p hk hp hcn
    have hb := sumI_b (f := fun p => S 16 (slot a1.toInt p)) (B := 99) k (fun i hi => eyes_b hc.1 (by omega))
    have e1 : (p + 1).toInt = ((k + 1 : Nat) : Int) := by rw [add1 (by omega) (by omega), hp]; rfl
    refine w146_4 hc.2.1 ((s_placesOf hc.1 hc.2.1 hc.2.2.1).u fun r hr => ⟨fun h => (s_eyesAt hc).u fun r3 h3 => ih (k + 1) _ _ (by omega) e1 ?_, fun h => ?_⟩)
    · rw [lt_ti, hr, hp] at h
      have he := eyes_b hc.1 h
      rw [hp, if_pos (plc_lt h)] at h3
      rw [add_ti (by omega) (by omega), hcn, h3]; rfl
    · rw [lt_ti, hr, hp] at h; omega
theorem s_mostEyes (hc : CB S tl I) : PI ((d + 4), 145, 0, [some (.ref 30), some (.int a1), none, none], [], (xSH L dr tl, I, J)) (maxI (fun p => S 16 (slot a1.toInt p)) (plc S a1.toInt).toNat) (xSH L dr tl, I, J) := w145_0 (mostEyes_loop hc (plc S a1.toInt).toNat 0 0 0 (by omega) rfl rfl)
theorem s_allEyes (hc : CB S tl I) : PI ((d + 4), 146, 0, [some (.ref 30), some (.int a1), none, none], [], (xSH L dr tl, I, J)) (sumI (fun p => S 16 (slot a1.toInt p)) (plc S a1.toInt).toNat) (xSH L dr tl, I, J) := w146_0 (allEyes_loop hc (plc S a1.toInt).toNat 0 0 0 (by omega) rfl rfl)
theorem count_loop (hm : MB S I J) (hl : isL S a1.toInt) : ∀ (m k : Nat) (c p : Int32), (k + m : Nat) = (plc S a1.toInt).toNat → p.toInt = 64 * a1.toInt + k → c.toInt = cntB (fun p => such S (slot a1.toInt p) a2.toInt) k → PI ((d + 2), 256, 8, [some (.ref 71), some (.int a1), some (.int a2), some (.int c), some (.int p)], [], (xSH L dr tl, I, J)) (tal S a1.toInt a2.toInt) (xSH L dr tl, I, J) := by
  have hpl := plc_le hm.1 a1.toInt
  have hnl := hm.1.2.2.1.2.1
  have hl1 := hl.1
  have hl2 := hl.2
  have ep : plc S a1.toInt = S 5 a1.toInt.toNat := by rw [plc, if_pos hl]
  have e64 : (64 * a1).toInt = 64 * a1.toInt := mul_ti (by show _ ≤ 64 * a1.toInt; omega) (by show 64 * a1.toInt < _; omega)
  have bound : ∀ r : Int32, r.toInt = S 5 a1.toInt.toNat → (64 * a1 + r).toInt = 64 * a1.toInt + plc S a1.toInt := fun r hr => by rw [add_ti (by rw [e64]; omega) (by rw [e64]; omega), e64, hr, ep]
  have n2 : ∀ n : Int32, ¬ a2 = n → ¬ a2.toInt = n.toInt := fun n h z => h (eq_ti.mpr z)
  intro m
  induction m with
  | zero =>
    intro k c p hk hp hcn
    refine w256_8 ((m_length hm.1 hm.2.1 hl).u fun r hr => ⟨fun h => ?_, fun h => ⟨c, rfl, ?_, rfl⟩⟩)
    · rw [lt_ti, bound r hr, hp] at h; omega
    · rw [hcn, tal, ← hk]; rfl
  | succ m ih =>
    intro k c p hk hp hcn
    have hb := cntB_b (fun p => such S (slot a1.toInt p) a2.toInt) k
    have e1 : (p + 1).toInt = 64 * a1.toInt + ((k + 1 : Nat) : Int) := by rw [add1 (by omega) (by omega), hp]; omega
    have hP : isP S a1.toInt k := plc_lt (by omega)
    have hx : xin p 512 = true := by rw [xin_iff, hp]; omega
    have hs : xIx p = slot a1.toInt k := by rw [xIx_ti, hp]; rfl
    obtain ⟨g1, g2, g3, g4⟩ := hm.2.2.2.1 a1.toInt k hP
    have hgh := (hm.1.2.2.2.2.2.2.2.1 a1.toInt k hP).2.2.2.2.2.1
    have yes : such S (slot a1.toInt k) a2.toInt = true → (c + 1).toInt = cntB (fun p => such S (slot a1.toInt p) a2.toInt) (k + 1) := fun q => by rw [add1 (by omega) (by omega), hcn]; simp only [cntB]; rw [if_pos q]
    have no : ¬ such S (slot a1.toInt k) a2.toInt = true → c.toInt = cntB (fun p => such S (slot a1.toInt p) a2.toInt) (k + 1) := fun q => by rw [hcn]; simp only [cntB]; rw [if_neg q]; omega
    refine w256_8 ((m_length hm.1 hm.2.1 hl).u fun r hr => ⟨fun h => ⟨fun h0 => (m_isWet hm.1 hm.2.2 hP hp).u (fun q => br1 (ih (k + 1) _ _ (by omega) e1 (yes ?_))) (fun q => br0 (ih (k + 1) _ _ (by omega) e1 (no ?_))), fun h0 => ⟨fun h1 => (m_isDry hm.1 hm.2.2 hP hp).u (fun q => br1 (ih (k + 1) _ _ (by omega) e1 (yes ?_))) (fun q => br0 (ih (k + 1) _ _ (by omega) e1 (no ?_))), fun h1 => ⟨fun h2 => ⟨hx, fun q => ih (k + 1) _ _ (by omega) e1 (yes ?_), fun q => ih (k + 1) _ _ (by omega) e1 (no ?_)⟩, fun h2 => ⟨hx, fun q => ih (k + 1) _ _ (by omega) e1 (yes ?_), fun q => ih (k + 1) _ _ (by omega) e1 (no ?_)⟩⟩⟩⟩, fun h => ?_⟩)
    · rw [eq0.mp h0]; exact q
    · rw [eq0.mp h0]; exact q
    · rw [eq1.mp h1]; exact q
    · rw [eq1.mp h1]; exact q
    · rw [eq0, hs, g1] at q; rw [eq2.mp h2]; simp [such, q]
    · rw [eq0, hs, g1] at q; rw [eq2.mp h2]; simp [such, q]
    · rw [gt0, hs, g4] at q
      simp [such, show ¬ a2.toInt = 0 from n2 0 h0, show ¬ a2.toInt = 1 from n2 1 h1, show ¬ a2.toInt = 2 from n2 2 h2]; omega
    · rw [gt0, hs, g4] at q
      simp [such, show ¬ a2.toInt = 0 from n2 0 h0, show ¬ a2.toInt = 1 from n2 1 h1, show ¬ a2.toInt = 2 from n2 2 h2]; omega
    · rw [lt_ti, bound r hr, hp] at h; omega
theorem m_count (hm : MB S I J) (hl : isL S a1.toInt) : PI ((d + 2), 256, 0, [some (.ref 71), some (.int a1), some (.int a2), none, none], [], (xSH L dr tl, I, J)) (tal S a1.toInt a2.toInt) (xSH L dr tl, I, J) := by
  have hnl := hm.1.2.2.1.2.1
  have hl1 := hl.1
  have hl2 := hl.2
  have e64 : (64 * a1).toInt = 64 * a1.toInt := mul_ti (by show _ ≤ 64 * a1.toInt; omega) (by show 64 * a1.toInt < _; omega)
  exact w256_0 (count_loop hm hl (plc S a1.toInt).toNat 0 0 (64 * a1) (by omega) (by rw [e64]; omega) rfl)
theorem countAll_loop (hm : MB S I J) : ∀ (m k : Nat) (c p : Int32), (k + m : Nat) = (sNL S).toNat → p.toInt = k → c.toInt = sumI (fun l => tal S l a1.toInt) k → PI ((d + 3), 257, 4, [some (.ref 71), some (.int a1), some (.int c), some (.int p)], [], (xSH L dr tl, I, J)) (talA S a1.toInt) (xSH L dr tl, I, J) := by
  have hn := hm.1.2.2.1
  intro m
  induction m with
  | zero =>
    intro k c p hk hp hcn
    refine w257_4 ((m_leaves hm.2.1).u fun r hr => ⟨fun h => ?_, fun h => ⟨c, rfl, ?_, rfl⟩⟩)
    · rw [lt_ti, hr, hp] at h; omega
    · rw [hcn, talA, ← hk]; rfl
  | succ m ih =>
    intro k c p hk hp hcn
    have hb := sumI_b (f := fun l => tal S l a1.toInt) (B := 64) k (fun i _ => tal_b hm.1 _ _)
    have e1 : (p + 1).toInt = ((k + 1 : Nat) : Int) := by rw [add1 (by omega) (by omega), hp]; rfl
    refine w257_4 ((m_leaves hm.2.1).u fun r hr => ⟨fun h => (m_count hm ⟨by omega, by omega⟩).u fun r3 h3 => ih (k + 1) _ _ (by omega) e1 ?_, fun h => ?_⟩)
    · have ht := tal_b hm.1 p.toInt a1.toInt
      rw [add_ti (by omega) (by omega), hcn, h3, hp]; rfl
    · rw [lt_ti, hr, hp] at h; omega
theorem m_countAll (hm : MB S I J) : PI ((d + 3), 257, 0, [some (.ref 71), some (.int a1), none, none], [], (xSH L dr tl, I, J)) (talA S a1.toInt) (xSH L dr tl, I, J) := w257_0 (countAll_loop hm (sNL S).toNat 0 0 0 (by omega) rfl rfl)
end COUNTS
