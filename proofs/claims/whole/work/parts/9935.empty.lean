/-! ===== the empty state ===== -/
def S0 : aS := fun f k => if f = 0 then (if k = 11 then -1 else if k = 13 then 1 else 0) else if f = 19 then -1 else 0
section EMPTY
variable {L : Nat} {xs : Nat → Int32}
theorem n0i {i : Nat} {P : Prop} (h : (i : Int) < 0) : P := absurd h (by omega)
theorem S0_P {l p : Int} {P : Prop} (h : isP S0 l p) : P := by
  have h1 : 0 ≤ l := h.1.1
  have h2 : l < 0 := h.1.2
  omega
theorem WF0 : WF S0 := ⟨⟨by decide, by decide, fun j h => n0i h⟩, ⟨by decide, by decide, fun j h => n0i h⟩, ⟨by decide, by decide, fun j h => n0i h⟩, ⟨by decide, by decide, fun j h => n0i h⟩, ⟨by decide, by decide, fun j h => n0i h⟩, ⟨by decide, by decide, fun h => absurd h (by decide)⟩, ⟨by decide, by decide⟩, fun l p h => S0_P h, fun r h => n0i h, ⟨by decide, by decide, fun j h => n0i h⟩, ⟨by decide, by decide, fun j h => n0i h⟩, ⟨by decide, by decide⟩, ⟨by decide, by decide⟩⟩
theorem RW0 : RW S0 := ⟨⟨rfl, by decide⟩, fun u h => n0i h⟩
set_option maxRecDepth 20000 in
set_option maxHeartbeats 4000000 in
theorem CI0 : CInv S0 8 31 (kI195 xs) kJ130 := by
  refine ⟨WF0, RW0, Or.inl ⟨rfl, rfl⟩, ⟨⟨rfl, rfl, rfl, rfl⟩, ⟨rfl, rfl, rfl, rfl⟩, rfl, rfl⟩, ⟨⟨rfl, rfl, rfl, rfl, rfl, fun h => absurd h (by decide)⟩, fun i h => n0i h, fun i h => n0i h, fun i h => n0i h, fun i h => n0i h, rfl, fun j hj => ?_, fun j h => n0i h⟩, ⟨rfl, fun l p h => S0_P h, fun r h => n0i h⟩, ⟨rfl, 0, by decide, rfl, fun k h => n0i h⟩, ⟨rfl, fun j h => n0i h⟩, ⟨rfl, fun j h => n0i h⟩, ⟨rfl, rfl⟩, rfl, Or.inl rfl⟩
  have hj' : (j : Int) ≤ 0 := hj
  have e : j = 0 := by omega
  subst e
  rfl
set_option maxRecDepth 20000 in
theorem wd73 : ∀ k : Nat, k < 3 → kI195 xs 73 k = ([105, 110, 107] : List Int32).getD k 0
  | 0, _ => rfl
  | 1, _ => rfl
  | 2, _ => rfl
  | _ + 3, h => absurd h (by omega)
set_option maxRecDepth 20000 in
theorem wd74 : ∀ k : Nat, k < 4 → kI195 xs 74 k = ([101, 121, 101, 115] : List Int32).getD k 0
  | 0, _ => rfl
  | 1, _ => rfl
  | 2, _ => rfl
  | 3, _ => rfl
  | _ + 4, h => absurd h (by omega)
set_option maxRecDepth 20000 in
theorem wd75 : ∀ k : Nat, k < 4 → kI195 xs 75 k = ([108, 101, 97, 102] : List Int32).getD k 0
  | 0, _ => rfl
  | 1, _ => rfl
  | 2, _ => rfl
  | 3, _ => rfl
  | _ + 4, h => absurd h (by omega)
set_option maxRecDepth 20000 in
theorem wd76 : ∀ k : Nat, k < 6 → kI195 xs 76 k = ([114, 101, 97, 100, 101, 114] : List Int32).getD k 0
  | 0, _ => rfl
  | 1, _ => rfl
  | 2, _ => rfl
  | 3, _ => rfl
  | 4, _ => rfl
  | 5, _ => rfl
  | _ + 6, h => absurd h (by omega)
set_option maxRecDepth 20000 in
theorem wd77 : ∀ k : Nat, k < 4 → kI195 xs 77 k = ([112, 97, 99, 101] : List Int32).getD k 0
  | 0, _ => rfl
  | 1, _ => rfl
  | 2, _ => rfl
  | 3, _ => rfl
  | _ + 4, h => absurd h (by omega)
set_option maxRecDepth 20000 in
theorem wd78 : ∀ k : Nat, k < 5 → kI195 xs 78 k = ([115, 107, 105, 112, 115] : List Int32).getD k 0
  | 0, _ => rfl
  | 1, _ => rfl
  | 2, _ => rfl
  | 3, _ => rfl
  | 4, _ => rfl
  | _ + 5, h => absurd h (by omega)
set_option maxRecDepth 20000 in
theorem wd79 : ∀ k : Nat, k < 3 → kI195 xs 79 k = ([112, 97, 121] : List Int32).getD k 0
  | 0, _ => rfl
  | 1, _ => rfl
  | 2, _ => rfl
  | _ + 3, h => absurd h (by omega)
set_option maxRecDepth 20000 in
theorem wd80 : ∀ k : Nat, k < 4 → kI195 xs 80 k = ([119, 104, 101, 110] : List Int32).getD k 0
  | 0, _ => rfl
  | 1, _ => rfl
  | 2, _ => rfl
  | 3, _ => rfl
  | _ + 4, h => absurd h (by omega)
set_option maxRecDepth 20000 in
theorem wd81 : ∀ k : Nat, k < 4 → kI195 xs 81 k = ([119, 111, 114, 100] : List Int32).getD k 0
  | 0, _ => rfl
  | 1, _ => rfl
  | 2, _ => rfl
  | 3, _ => rfl
  | _ + 4, h => absurd h (by omega)
set_option maxRecDepth 20000 in
theorem wd82 : ∀ k : Nat, k < 5 → kI195 xs 82 k = ([103, 117, 97, 114, 100] : List Int32).getD k 0
  | 0, _ => rfl
  | 1, _ => rfl
  | 2, _ => rfl
  | 3, _ => rfl
  | 4, _ => rfl
  | _ + 5, h => absurd h (by omega)
set_option maxRecDepth 20000 in
theorem wd83 : ∀ k : Nat, k < 2 → kI195 xs 83 k = ([111, 114] : List Int32).getD k 0
  | 0, _ => rfl
  | 1, _ => rfl
  | _ + 2, h => absurd h (by omega)
set_option maxRecDepth 20000 in
theorem wd84 : ∀ k : Nat, k < 3 → kI195 xs 84 k = ([97, 110, 100] : List Int32).getD k 0
  | 0, _ => rfl
  | 1, _ => rfl
  | 2, _ => rfl
  | _ + 3, h => absurd h (by omega)
set_option maxRecDepth 20000 in
theorem wd85 : ∀ k : Nat, k < 3 → kI195 xs 85 k = ([110, 111, 116] : List Int32).getD k 0
  | 0, _ => rfl
  | 1, _ => rfl
  | 2, _ => rfl
  | _ + 3, h => absurd h (by omega)
set_option maxRecDepth 20000 in
theorem wd86 : ∀ k : Nat, k < 3 → kI195 xs 86 k = ([97, 108, 108] : List Int32).getD k 0
  | 0, _ => rfl
  | 1, _ => rfl
  | 2, _ => rfl
  | _ + 3, h => absurd h (by omega)
set_option maxRecDepth 20000 in
theorem wd87 : ∀ k : Nat, k < 5 → kI195 xs 87 k = ([112, 108, 97, 99, 101] : List Int32).getD k 0
  | 0, _ => rfl
  | 1, _ => rfl
  | 2, _ => rfl
  | 3, _ => rfl
  | 4, _ => rfl
  | _ + 5, h => absurd h (by omega)
set_option maxRecDepth 20000 in
theorem wd88 : ∀ k : Nat, k < 6 → kI195 xs 88 k = ([108, 101, 116, 116, 101, 114] : List Int32).getD k 0
  | 0, _ => rfl
  | 1, _ => rfl
  | 2, _ => rfl
  | 3, _ => rfl
  | 4, _ => rfl
  | 5, _ => rfl
  | _ + 6, h => absurd h (by omega)
set_option maxRecDepth 20000 in
theorem wd89 : ∀ k : Nat, k < 5 → kI195 xs 89 k = ([110, 101, 101, 100, 115] : List Int32).getD k 0
  | 0, _ => rfl
  | 1, _ => rfl
  | 2, _ => rfl
  | 3, _ => rfl
  | 4, _ => rfl
  | _ + 5, h => absurd h (by omega)
set_option maxRecDepth 20000 in
theorem wd90 : ∀ k : Nat, k < 3 → kI195 xs 90 k = ([109, 105, 110] : List Int32).getD k 0
  | 0, _ => rfl
  | 1, _ => rfl
  | 2, _ => rfl
  | _ + 3, h => absurd h (by omega)
set_option maxRecDepth 20000 in
theorem wd91 : ∀ k : Nat, k < 3 → kI195 xs 91 k = ([109, 97, 120] : List Int32).getD k 0
  | 0, _ => rfl
  | 1, _ => rfl
  | 2, _ => rfl
  | _ + 3, h => absurd h (by omega)
theorem W0 : wordsAt (kI195 xs) := by
  intro a w hm k hk
  simp only [List.mem_cons, Prod.mk.injEq, List.not_mem_nil, or_false] at hm
  rcases hm with ⟨rfl, rfl⟩ | ⟨rfl, rfl⟩ | ⟨rfl, rfl⟩ | ⟨rfl, rfl⟩ | ⟨rfl, rfl⟩ | ⟨rfl, rfl⟩ | ⟨rfl, rfl⟩ | ⟨rfl, rfl⟩ | ⟨rfl, rfl⟩ | ⟨rfl, rfl⟩ | ⟨rfl, rfl⟩ | ⟨rfl, rfl⟩ | ⟨rfl, rfl⟩ | ⟨rfl, rfl⟩ | ⟨rfl, rfl⟩ | ⟨rfl, rfl⟩ | ⟨rfl, rfl⟩ | ⟨rfl, rfl⟩ | ⟨rfl, rfl⟩
  · exact wd73 k hk
  · exact wd74 k hk
  · exact wd75 k hk
  · exact wd76 k hk
  · exact wd77 k hk
  · exact wd78 k hk
  · exact wd79 k hk
  · exact wd80 k hk
  · exact wd81 k hk
  · exact wd82 k hk
  · exact wd83 k hk
  · exact wd84 k hk
  · exact wd85 k hk
  · exact wd86 k hk
  · exact wd87 k hk
  · exact wd88 k hk
  · exact wd89 k hk
  · exact wd90 k hk
  · exact wd91 k hk
set_option maxRecDepth 20000 in
set_option maxHeartbeats 4000000 in
theorem MI0 : MInv S0 (kI195 xs) kJ130 :=
  ⟨WF0, ⟨⟨rfl, rfl, rfl, rfl, rfl, rfl, fun h => absurd h (by decide)⟩, fun i h => n0i h, fun i h => n0i h, fun i h => n0i h, fun i h => n0i h, fun i h => n0i h, fun i h => n0i h⟩, ⟨fun i h => n0i h, fun i h => n0i h⟩, ⟨rfl, fun l p h => S0_P h, fun r h => n0i h⟩, ⟨rfl, 0, by decide, rfl, fun k h => n0i h⟩, ⟨rfl, fun j h => n0i h⟩, ⟨rfl, fun j h => n0i h⟩, ⟨rfl, rfl⟩, rfl, W0⟩
/-- the law answers 1 -/
theorem x_wp (hL : L ≤ 3072) : WP (1000, 0, 0, xent [.ref 0] 4, [], (kS0 L, kI0 xs, kJ0)) (fun v M => v = some (.int 1) ∧ ∃ (dr tl : Nat) (I : Nat → Nat → Int32) (J : Nat → Nat → Int64), M = (xSH L dr tl, I, J)) :=
  ct41 (x_loop hL L 0 0 S0 8 31 (kI195 xs) kJ130 (by omega) (by omega) rfl CI0 MI0)
end EMPTY
