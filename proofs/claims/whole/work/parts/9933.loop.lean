/-! ===== the loop of the law, printed by tools/gen33.py ===== -/
section LOOP
variable {S : aS} {L dr tl : Nat} {I : Nat → Nat → Int32} {J : Nat → Nat → Int64} {a3 : Int32} {Q : Option Value → xMem → Prop}
theorem addk {a b : Int32} {k : Int} (hb : b.toInt = k) (h1 : 0 ≤ a.toInt) (h2 : a.toInt < 1000000000) (h3 : 0 ≤ k) (h4 : k < 1000) : (a + b).toInt = a.toInt + k := by rw [add_ti (by omega) (by omega), hb]
set_option maxHeartbeats 4000000 in
theorem l_head (q1 : CInv S dr tl I J) (q2 : MInv S I J) (hQ : Int32.ofNat L - 6 < a3 → Q (some (.int 1)) (xSH L dr tl, I, J)) (h0 : ¬ Int32.ofNat L - 6 < a3 → xin a3 L = true ∧ xin (a3 + 1) L = true ∧ xin (a3 + 2) L = true ∧ xin (a3 + 3) L = true ∧ xin (a3 + 4) L = true ∧ xin (a3 + 5) L = true) (K : ¬ Int32.ofNat L - 6 < a3 → ∀ (S' : aS) (dr' tl' : Nat) (I' : Nat → Nat → Int32) (J' : Nat → Nat → Int64), CInv S' dr' tl' I' J' → MInv S' I' J' → WP (1000, 0, 18, [some (.ref 0), some (.ref 2), some (.ref 71), some (.int (a3 + 6))], [], (xSH L dr' tl', I', J')) Q) : WP (1000, 0, 18, [some (.ref 0), some (.ref 2), some (.ref 71), some (.int a3)], [], (xSH L dr tl, I, J)) Q := by
  refine WP.br (p := Int32.ofNat L - 6 < a3) (y := (1000, 0, 1403, [some (.ref 0), some (.ref 2), some (.ref 71), some (.int a3)], [], (xSH L dr tl, I, J))) (z := (1000, 0, 27, [some (.ref 0), some (.ref 2), some (.ref 71), some (.int a3)], [], (xSH L dr tl, I, J))) 6 (fun _ => rfl) ⟨fun g => WP.ret (v := some (.int 1)) (M := (xSH L dr tl, I, J)) 2 (fun _ => rfl) (hQ g), fun g => ?_⟩
  obtain ⟨k0, h1, h2, h3, h4, h5⟩ := h0 g
  have K := K g
  exact WP.ck (b := xin a3 L) (y := (1000, 0, 30, [some (.ref 0), some (.ref 2), some (.ref 71), some (.int a3)], [.int (I 0 (xIx a3))], (xSH L dr tl, I, J))) 3 (fun _ => rfl) ⟨k0, WP.sw (f := fun t => (1000, 0, t, [some (.ref 0), some (.ref 2), some (.ref 71), some (.int a3)], [], (xSH L dr tl, I, J))) (a := I 0 (xIx a3) &&& 63) (dd := 1397) (qs := [(0, 180), (1, 243), (2, 266), (3, 279), (4, 302), (5, 325), (6, 368), (7, 401), (8, 444), (9, 477), (10, 530), (11, 573), (12, 626), (13, 659), (14, 692), (15, 715), (16, 738), (17, 761), (18, 804), (19, 837), (20, 870), (21, 929), (22, 982), (23, 1025), (24, 1088), (25, 1151), (26, 1174), (27, 1198), (28, 1271), (29, 1304), (30, 1348), (31, 1361), (32, 1384)]) 3 (fun _ => rfl) ⟨fun _ => arm180 q1 q2 h1 h2 h3 h4 h5 K, fun _ => ⟨fun _ => arm243 q1 q2 h1 K, fun _ => ⟨fun _ => arm266 q1 q2  K, fun _ => ⟨fun _ => arm279 q1 q2 h1 K, fun _ => ⟨fun _ => arm302 q1 q2 h1 K, fun _ => ⟨fun _ => arm325 q1 q2 h1 h2 h3 K, fun _ => ⟨fun _ => arm368 q1 q2 h1 h2 K, fun _ => ⟨fun _ => arm401 q1 q2 h1 h2 h3 K, fun _ => ⟨fun _ => arm444 q1 q2 h1 h2 K, fun _ => ⟨fun _ => arm477 q1 q2 h1 h2 h3 h4 K, fun _ => ⟨fun _ => arm530 q1 q2 h1 h2 h3 K, fun _ => ⟨fun _ => arm573 q1 q2 h1 h2 h3 h4 K, fun _ => ⟨fun _ => arm626 q1 q2 h1 h2 K, fun _ => ⟨fun _ => arm659 q1 q2 h1 h2 K, fun _ => ⟨fun _ => arm692 q1 q2 h1 K, fun _ => ⟨fun _ => arm715 q1 q2 h1 K, fun _ => ⟨fun _ => arm738 q1 q2 h1 K, fun _ => ⟨fun _ => arm761 q1 q2 h1 h2 h3 K, fun _ => ⟨fun _ => arm804 q1 q2 h1 h2 K, fun _ => ⟨fun _ => arm837 q1 q2 h1 h2 K, fun _ => ⟨fun _ => arm870 q1 q2 h1 h2 h3 K, fun _ => ⟨fun _ => arm929 q1 q2 h1 h2 h3 h4 K, fun _ => ⟨fun _ => arm982 q1 q2 h1 h2 h3 K, fun _ => ⟨fun _ => arm1025 q1 q2 h1 h2 h3 h4 h5 K, fun _ => ⟨fun _ => arm1088 q1 q2 h1 h2 h3 h4 h5 K, fun _ => ⟨fun _ => arm1151 q1 q2 h1 K, fun _ => ⟨fun _ => arm1174 q1 q2 h1 K, fun _ => ⟨fun _ => arm1198 q1 q2 h1 h2 h3 h4 K, fun _ => ⟨fun _ => arm1271 q1 q2 h1 h2 K, fun _ => ⟨fun _ => arm1304 q1 q2 h1 h2 h3 K, fun _ => ⟨fun _ => arm1348 q1 q2  K, fun _ => ⟨fun _ => arm1361 q1 q2 h1 K, fun _ => ⟨fun _ => arm1384 q1 q2  K, fun _ => WP.go (y := (1000, 0, 18, [some (.ref 0), some (.ref 2), some (.ref 71), some (.int (a3 + 6))], [], (xSH L dr tl, I, J))) 2 (fun _ => rfl) (K S dr tl I J q1 q2)⟩⟩⟩⟩⟩⟩⟩⟩⟩⟩⟩⟩⟩⟩⟩⟩⟩⟩⟩⟩⟩⟩⟩⟩⟩⟩⟩⟩⟩⟩⟩⟩⟩⟩
theorem ofN (h : L ≤ 3072) : (Int32.ofNat L).toInt = L := by
  rw [Int32.toInt_ofNat_of_lt (by omega)]
theorem x_loop (hL : L ≤ 3072) : ∀ (m i : Nat) (a3 : Int32) (S : aS) (dr tl : Nat) (I : Nat → Nat → Int32) (J : Nat → Nat → Int64), L ≤ i + m → i ≤ 4000 → a3.toInt = i → CInv S dr tl I J → MInv S I J → WP (1000, 0, 18, [some (.ref 0), some (.ref 2), some (.ref 71), some (.int a3)], [], (xSH L dr tl, I, J)) (fun v M => v = some (.int 1) ∧ ∃ (dr tl : Nat) (I : Nat → Nat → Int32) (J : Nat → Nat → Int64), M = (xSH L dr tl, I, J)) := by
  have e6 : (6 : Int32).toInt = 6 := rfl
  have eL : (Int32.ofNat L - 6).toInt = L - 6 := by rw [sub_ti (by rw [ofN hL, e6]; omega) (by rw [ofN hL, e6]; omega), ofN hL, e6]
  intro m
  induction m with
  | zero =>
    intro i a3 S dr tl I J h1 h2 h3 q1 q2
    have g : Int32.ofNat L - 6 < a3 := lt_ti.mpr (by rw [eL, h3]; omega)
    exact l_head q1 q2 (fun _ => ⟨rfl, dr, tl, I, J, rfl⟩) (fun z => absurd g z) (fun z => absurd g z)
  | succ m ih =>
    intro i a3 S dr tl I J h1 h2 h3 q1 q2
    refine l_head q1 q2 (fun _ => ⟨rfl, dr, tl, I, J, rfl⟩) (fun g => ?_) (fun g S' dr' tl' I' J' c' m' => ?_)
    · rw [lt_ti, eL, h3] at g
      have e1 : (a3 + 1).toInt = i + 1 := by rw [addk (show (1 : Int32).toInt = 1 from rfl) (by omega) (by omega) (by omega) (by omega), h3]
      have e2 : (a3 + 2).toInt = i + 2 := by rw [addk (show (2 : Int32).toInt = 2 from rfl) (by omega) (by omega) (by omega) (by omega), h3]
      have e3 : (a3 + 3).toInt = i + 3 := by rw [addk (show (3 : Int32).toInt = 3 from rfl) (by omega) (by omega) (by omega) (by omega), h3]
      have e4 : (a3 + 4).toInt = i + 4 := by rw [addk (show (4 : Int32).toInt = 4 from rfl) (by omega) (by omega) (by omega) (by omega), h3]
      have e5 : (a3 + 5).toInt = i + 5 := by rw [addk (show (5 : Int32).toInt = 5 from rfl) (by omega) (by omega) (by omega) (by omega), h3]
      exact ⟨by rw [xin_iff, h3]; omega, by rw [xin_iff, e1]; omega, by rw [xin_iff, e2]; omega, by rw [xin_iff, e3]; omega, by rw [xin_iff, e4]; omega, by rw [xin_iff, e5]; omega⟩
    · rw [lt_ti, eL, h3] at g
      exact ih (i + 6) (a3 + 6) S' dr' tl' I' J' (by omega) (by omega) (by rw [addk (show (6 : Int32).toInt = 6 from rfl) (by omega) (by omega) (by omega) (by omega), h3]; rfl) c' m'
end LOOP
