/-! ===== the law's run and its room ===== -/
def smN : List Nat → Nat
  | [] => 0
  | n :: t => n + smN t
theorem xns_sm : ∀ l : List xSh, xns l = smN (l.map xsz1) := by
  intro l
  induction l with
  | nil => rfl
  | cons h t ih => simp only [xns, List.map_cons, smN, ih]
set_option maxRecDepth 20000 in
theorem xns_l {L dr tl : Nat} : (xSH L dr tl).tail.map xsz1 = [0, 8, 2, 1600, 2, 1600, 9, 12, 4, 36, 6, 4, 512, 8, 4, 24, 4, 4, 192, 16, 10, 1600, 17, 64, 6, 8, 4, 4, 4, 10, 12, 4, 36, 6, 4, 512, 8, 4, 24, 4, 4, 192, 16, 10, 1600, 17, 64, 6, 8, 4, 4, 4, 3, 1600, 512, 512, 512, 512, 64, 4, 4, 7, 20, 20, 8, 4, 1, 3, 65, 65, 83, 1600, 3, 4, 4, 6, 4, 5, 3, 4, 4, 5, 2, 3, 3, 3, 5, 6, 5, 3, 3, 64, 10, 20, 12, 16, 16, 512, 24, 32, 384, 4, 3200, 1700, 16, 16, 16, 1700, 4, 512, 512, 512, 512, 4, 4, 400, 400, 400, 16, 4, 4, 512, 512, 4, 4, 201, 64, 65, 65, 1600] := rfl
theorem xns_n : smN [0, 8, 2, 1600, 2, 1600, 9, 12, 4, 36, 6, 4, 512, 8, 4, 24, 4, 4, 192, 16, 10, 1600, 17, 64, 6, 8, 4, 4, 4, 10, 12, 4, 36, 6, 4, 512, 8, 4, 24, 4, 4, 192, 16, 10, 1600, 17, 64, 6, 8, 4, 4, 4, 3, 1600, 512, 512, 512, 512, 64, 4, 4, 7, 20, 20, 8, 4, 1, 3, 65, 65, 83, 1600, 3, 4, 4, 6, 4, 5, 3, 4, 4, 5, 2, 3, 3, 3, 5, 6, 5, 3, 3, 64, 10, 20, 12, 16, 16, 512, 24, 32, 384, 4, 3200, 1700, 16, 16, 16, 1700, 4, 512, 512, 512, 512, 4, 4, 400, 400, 400, 16, 4, 4, 512, 512, 4, 4, 201, 64, 65, 65, 1600] = 28044 := by decide +kernel
theorem xns_t {L dr tl : Nat} : xns (xSH L dr tl).tail = 28044 := by rw [xns_sm, xns_l, xns_n]
set_option maxRecDepth 20000 in
theorem xns_h {L dr tl : Nat} : xns (xSH L dr tl) = L + xns (xSH L dr tl).tail := rfl
set_option maxRecDepth 20000 in
theorem x_run {L : Nat} {xs : Nat → Int32} (hL : L ≤ 3072) : ∃ (n : Nat) (M' : xMem), xrun xDC xML xRT xcode n (1000, 0, 0, xent [.ref 0] 4, [], (kS0 L, kI0 xs, kJ0)) = some (some (.int 1), M') ∧ M'.1.length ≤ 600000 ∧ xns M'.1 ≤ 7302250 := by
  obtain ⟨n, v, M, h1, rfl, dr, tl, I, J, rfl⟩ := x_wp (xs := xs) hL
  refine ⟨n, _, h1, ?_, ?_⟩
  · have e : (xSH L dr tl).length = 131 := rfl
    show (xSH L dr tl).length ≤ 600000
    rw [e]; decide
  · show xns (xSH L dr tl) ≤ 7302250
    rw [xns_h, xns_t]; omega
