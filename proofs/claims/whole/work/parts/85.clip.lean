/-! ===== the rules' sums ===== -/
def PL (x : xSt) (z : Int) (M : xMem) : Prop := WP x (fun v M' => ∃ r : Int64, v = some (.long r) ∧ r.toInt = z ∧ M' = M)
theorem PL.u {x : xSt} {S : List xSh} {I : Nat → Nat → Int32} {J : Nat → Nat → Int64} {z : Int} {R : Int64 → (Nat → Nat → Int32) → (Nat → Nat → Int64) → Prop} (h : PL x z (S, I, J)) (k : ∀ r : Int64, r.toInt = z → R r I J) : WP x (fun v M => ∃ (r : Int64) (I : Nat → Nat → Int32) (J : Nat → Nat → Int64), v = some (.long r) ∧ M = (S, I, J) ∧ R r I J) := WP.mono h (fun v M q => by obtain ⟨r, h1, h2, h3⟩ := q; exact ⟨r, I, J, h1, h3, k r h2⟩)
def clipI (z : Int) : Int := if 1000000 < z then 1000000 else if z < -1000000 then -1000000 else z
theorem clipI_b (z : Int) : -1000000 ≤ clipI z ∧ clipI z ≤ 1000000 := by unfold clipI; split; omega; split <;> omega
section CLIP
variable {S : aS} {L d dr tl : Nat} {I : Nat → Nat → Int32} {J : Nat → Nat → Int64} {b0 b2 : Int64}
theorem m_clip : PL ((d + 1), 240, 0, [some (.long b0), none], [], (xSH L dr tl, I, J)) (clipI b0.toInt) (xSH L dr tl, I, J) := by
  refine w240_0 (brz xlc_gt (fun h => ⟨_, rfl, ?_, rfl⟩) (fun h => brz xlc_lt (fun g => ⟨_, rfl, ?_, rfl⟩) (fun g => ⟨_, rfl, ?_, rfl⟩)))
  · have h' : (1000000 : Int) < b0.toInt := h
    rw [clipI, if_pos h']; rfl
  · have h' : ¬ (1000000 : Int) < b0.toInt := h
    have g' : b0.toInt < (-1000000 : Int) := g
    rw [clipI, if_neg h', if_pos g']; rfl
  · have h' : ¬ (1000000 : Int) < b0.toInt := h
    have g' : ¬ b0.toInt < (-1000000 : Int) := g
    rw [clipI, if_neg h', if_neg g']
end CLIP
