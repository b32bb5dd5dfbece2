/-! ===== hire: the class's loops ===== -/
section HIREC2
variable {S : aS} {L d dr tl : Nat} {I I0 I1 : Nat → Nat → Int32} {J : Nat → Nat → Int64} {a1 a2 a3 a4 a5 x : Int32} {r q p m : Nat} {f k c c' : Nat → Int} {F X T P : Int} {Q : Option Value → xMem → Prop}
theorem tot_n (h : hFeas f c) : 0 ≤ c 0 ∧ 0 ≤ c 1 ∧ 0 ≤ c 2 ∧ 0 ≤ c 3 := (hF16.mp h).1
theorem kept_next {mo : Int} (ha : askOK f) (hk : keptC f T P k (befC F X)) (h1 : f 1 ≤ F) (hX1 : rsv f F 1 ≤ X) (hm : ∀ j : Nat, j < 4 → rsv f F (2 * j + 1) ≤ mo) (hm0 : 0 ≤ mo) (hx : mo < X ∨ T < F + X + max (rsv f F 2 + rsv f F 4) (rsv f F 6)) (hb : F ≤ 99 ∧ 0 ≤ F ∧ X ≤ 200) : keptC f T P k (befC (F + 1) 0) := by
  obtain ⟨k1, k2⟩ := hk
  have b := ha.b
  have m1 := hm 0 (by decide)
  have m3 := hm 1 (by decide)
  have m5 := hm 2 (by decide)
  have m7 := hm 3 (by decide)
  have r1 : rsv f F (2 * 0 + 1) = max (f 2) (f 3 - F) := rfl
  have r3 : rsv f F (2 * 1 + 1) = max (f 6) (f 7 - F) := rfl
  have r5 : rsv f F (2 * 2 + 1) = max (f 10) (f 11 - F) := rfl
  have r7 : rsv f F (2 * 3 + 1) = max (f 14) (f 15 - F) := rfl
  rw [r1] at m1
  rw [r3] at m3
  rw [r5] at m5
  rw [r7] at m7
  refine ⟨fun c' hc hd => ?_, k2.elim Or.inl (fun z => Or.inr ⟨z.1, z.2.1, z.2.2.1, z.2.2.2.1, z.2.2.2.2.1, ?_⟩)⟩
  · by_cases bf : befC F X c'
    · exact k1 c' hc bf
    · have n0 := tot_n hc
      have c0 : c' 0 = F ∧ X ≤ c' 1 := by unfold befC at *; omega
      rcases hx with hx | hx
      · have fe : hFeas f (mkC F mo (c' 2) (c' 3)) := by
          rw [hF16] at hc ⊢
          obtain ⟨q0, q1, q2, q3⟩ := mkC0 (a := F) (b := mo) (c := c' 2) (d := c' 3)
          rw [q0, q1, q2, q3]
          rw [c0.1] at hc
          obtain ⟨⟨z0, z1, z2, z3⟩, y0, y1, y2, y3, y4, y5, y6, y7, y8, y9, y10, y11, y12, y13, y14, y15⟩ := hc
          refine ⟨⟨by omega, hm0, z2, z3⟩, y0, y1, by omega, by omega, y4, y5, by omega, by omega, y8, y9, by omega, by omega, y12, y13, by omega, by omega⟩
        have o := k1 _ fe (Or.inr ⟨rfl, hx⟩)
        refine ⟨o.1, better_tr o.2 (Or.inl ?_)⟩
        have e : hTot (mkC F mo (c' 2) (c' 3)) = F + mo + c' 2 + c' 3 := rfl
        rw [e]; unfold hTot; omega
      · have e2 : rsv f F 2 = max (f 4) (f 5 - F) := rfl
        have e4 : rsv f F 4 = max (f 8) (f 9 - F) := rfl
        have e6 : rsv f F 6 = max (f 12) (f 13 - F) := rfl
        have g2 : rsv f F 2 ≤ c' 2 ∧ rsv f F 4 ≤ c' 3 ∧ rsv f F 6 ≤ c' 2 + c' 3 := by
          have := (hF16.mp hc).2
          rw [c0.1] at this
          omega
        have tl' : T < hTot c' := by unfold hTot; omega
        have b6 : rsv f F 6 ≤ 99 ∧ rsv f F 2 ≤ 99 ∧ rsv f F 4 ≤ 99 := by omega
        rcases k2 with z | z
        · omega
        · exact ⟨by omega, Or.inl (by omega)⟩
  · have := z.2.2.2.2.2
    unfold befC at *; omega
theorem kept_end {mo : Int} (ha : askOK f) (hk : keptC f T P k (befC F 0)) (h1 : f 1 ≤ F) (hm : ∀ j : Nat, j < 8 → f (2 * j + 1) ≤ mo) (hm0 : 0 ≤ mo) (hx : mo < F ∨ T < F) (hF : F ≤ 200) : hBest f k ∧ T = hTot k ∧ P = hPay f k := by
  obtain ⟨k1, k2⟩ := hk
  have b := ha.b
  have dom : ∀ c' : Nat → Int, hFeas f c' → T < 2147483647 ∧ betterC f k c' := by
    intro c' hc
    have n0 := tot_n hc
    by_cases bf : befC F 0 c'
    · exact k1 c' hc bf
    · have c0 : F ≤ c' 0 := by unfold befC at *; omega
      rcases hx with hx | hx
      · have m1 := hm 0 (by decide)
        have m3 : f 3 ≤ mo := hm 1 (by decide)
        have m5 : f 5 ≤ mo := hm 2 (by decide)
        have m7 : f 7 ≤ mo := hm 3 (by decide)
        have m9 : f 9 ≤ mo := hm 4 (by decide)
        have m11 : f 11 ≤ mo := hm 5 (by decide)
        have m13 : f 13 ≤ mo := hm 6 (by decide)
        have m15 : f 15 ≤ mo := hm 7 (by decide)
        have fe : hFeas f (mkC mo (c' 1) (c' 2) (c' 3)) := by
          rw [hF16] at hc ⊢
          obtain ⟨q0, q1, q2, q3⟩ := mkC0 (a := mo) (b := c' 1) (c := c' 2) (d := c' 3)
          rw [q0, q1, q2, q3]
          obtain ⟨⟨z0, z1, z2, z3⟩, y0, y1, y2, y3, y4, y5, y6, y7, y8, y9, y10, y11, y12, y13, y14, y15⟩ := hc
          refine ⟨⟨hm0, z1, z2, z3⟩, y0, m1, y2, by omega, y4, by omega, y6, by omega, y8, by omega, y10, by omega, y12, by omega, y14, by omega⟩
        have o := k1 _ fe (Or.inl hx)
        refine ⟨o.1, better_tr o.2 (Or.inl ?_)⟩
        have e : hTot (mkC mo (c' 1) (c' 2) (c' 3)) = mo + c' 1 + c' 2 + c' 3 := rfl
        rw [e]; unfold hTot; omega
      · have tl' : T < hTot c' := by unfold hTot; omega
        rcases k2 with z | z
        · omega
        · exact ⟨by omega, Or.inl (by omega)⟩
  have fe : hFeas f (mkC 99 99 99 99) := by
    rw [hF16]
    obtain ⟨q0, q1, q2, q3⟩ := mkC0 (a := 99) (b := 99) (c := 99) (d := 99)
    rw [q0, q1, q2, q3]
    obtain ⟨b0, b1, b2, b3, b4, b5, b6, b7, b8, b9, b10, b11, b12, b13, b14, b15⟩ := b
    refine ⟨⟨by decide, by decide, by decide, by decide⟩, by omega, by omega, by omega, by omega, by omega, by omega, by omega, by omega, by omega, by omega, by omega, by omega, by omega, by omega, by omega, by omega⟩
  have o := dom _ fe
  have kv := k2.elim (fun z => by omega) id
  exact ⟨⟨kv.2.2.1, fun c' hc => (dom c' hc).2⟩, kv.2.2.2.1, kv.2.2.2.2.1⟩
theorem second_loop (ha : askOK f) (hF : 0 ≤ F ∧ F ≤ 99) (h1 : f 1 ≤ F) (e1 : a1.toInt = F) (e2 : a2.toInt = max (rsv f F 2 + rsv f F 4) (rsv f F 6)) {mo : Int} (e3 : a3.toInt = mo) (hmo : 0 ≤ mo ∧ mo ≤ 99) (hm : ∀ j : Nat, j < 4 → rsv f F (2 * j + 1) ≤ mo) (e4 : (a4 = 1 ∧ f 18 < f 19) ∨ (a4 = 0 ∧ ¬ f 18 < f 19)) : ∀ (m : Nat) (i : Int32) (I : Nat → Nat → Int32), mo + 1 - i.toInt < m → 0 ≤ i.toInt → i.toInt ≤ 100 → rsv f F 1 ≤ i.toInt → (∀ j : Nat, j < 20 → fI I j = f j) → (∀ g : Nat, g < 8 → (I 65 g).toInt = rsv f F g) → KC f I (befC F i.toInt) → (∀ I1 : Nat → Nat → Int32, frH I I1 → KC f I1 (befC (F + 1) 0) → Q none (xSH L dr tl, I1, J)) → WP ((d + 2), 35, 69, [some (.ref 62), some (.int a1), some (.int a2), some (.int a3), some (.int a4), some (.int i), none, none, none], [], (xSH L dr tl, I, J)) Q := by
  have b := ha.b
  have rb : ∀ g : Nat, g < 8 → 0 ≤ rsv f F g ∧ rsv f F g ≤ 99 := by
    intro g hg
    have x1 := ha.2.1 (2 * g) (by omega)
    have x2 := ha.2.1 (2 * g + 1) (by omega)
    unfold rsv; omega
  have rb2 := rb 2 (by decide)
  have rb3 := rb 3 (by decide)
  have rb4 := rb 4 (by decide)
  have rb5 := rb 5 (by decide)
  have rb6 := rb 6 (by decide)
  have rb7 := rb 7 (by decide)
  intro m
  induction m with
  | zero =>
    intro i I hm' h0 h100 hi hf h65 hk K
    exact w35_69 (brz lt_ti (fun z => K I frH_refl (kept_next ha hk h1 hi hm hmo.1 (Or.inl (by omega)) (by omega))) (fun z => by omega))
  | succ m ih =>
    intro i I hm' h0 h100 hi hf h65 hk K
    refine w35_69 (brz lt_ti (fun z => K I frH_refl (kept_next ha hk h1 hi hm hmo.1 (Or.inl (by omega)) (by omega))) (fun z => brz lt_ti (fun y => K I frH_refl (kept_next ha hk h1 hi hm hmo.1 (Or.inr ?_) (by omega))) (fun y => s_max.u fun r3 g3 => s_max.u fun r4 g4 => s_max.u fun r5 g5 => ?_)))
    · rw [addn (by rw [addn (by omega) (by omega) (by omega) (by omega)]; omega) (by rw [addn (by omega) (by omega) (by omega) (by omega)]; omega) (by omega) (by omega), addn (by omega) (by omega) (by omega) (by omega), e1, e2] at y; exact y
    · have u2 := h65 2 (by decide)
      have u3 := h65 3 (by decide)
      have u4 := h65 4 (by decide)
      have u5 := h65 5 (by decide)
      have u6 := h65 6 (by decide)
      have u7 := h65 7 (by decide)
      have v3 : r3.toInt = cT0 f F i.toInt := by rw [g3, sub_ti (by omega) (by omega), u2, u3]; rfl
      have v4 : r4.toInt = cU0 f F i.toInt := by rw [g4, sub_ti (by omega) (by omega), u4, u5]; rfl
      have v5 : r5.toInt = max (rsv f F 6) (rsv f F 7 - i.toInt) := by rw [g5, sub_ti (by omega) (by omega), u6, u7]
      have cb := cand_b (F := F) (X := i.toInt) ha hF (by omega)
      have s1 : (r5 - r3).toInt = r5.toInt - r3.toInt := sub_ti (by omega) (by omega)
      have v6 : (r5 - r3 - r4).toInt = cLk f F i.toInt := by rw [sub_ti (by omega) (by omega), s1, v3, v4, v5]; rfl
      have i1 : (i + 1).toInt = i.toInt + 1 := add1 (by omega) (by omega)
      have go : ∀ {x3 x4 : Int32}, x3.toInt = cT f F i.toInt → x4.toInt = cU f F i.toInt → WP ((d + 1), 36, 0, [some (.ref 62), some (.int a1), some (.int i), some (.int x3), some (.int x4), none, none], [], (xSH L dr tl, I, J)) (fun v M => ∃ (I13 : Nat → Nat → Int32) (J13 : Nat → Nat → Int64), v = none ∧ M = (xSH L dr tl, I13, J13) ∧ WP ((d + 2), 35, 69, [some (.ref 62), some (.int a1), some (.int a2), some (.int a3), some (.int a4), some (.int (i + 1)), none, none, none], [], (xSH L dr tl, I13, J13)) Q) := by
        intro x3 x4 w3 w4
        refine s_keep ha hf e1 rfl w3 w4 hF (by omega) h1 hi hk fun I1 fr1 k1 e65 => ih _ I1 (by omega) (by omega) (by omega) (by omega) (fun j hj => ?_) (fun g hg => by rw [e65]; exact h65 g hg) (by rw [i1]; exact k1) fun I2 fr2 k2 => K I2 (fr1.tr fr2) k2
        unfold fI; rw [fr1.1 63 (by decide) (by decide) (by decide)]; exact hf j hj
      have ea : ∀ {x y : Int32}, -1000 ≤ x.toInt → x.toInt ≤ 1000 → -1000 ≤ y.toInt → y.toInt ≤ 1000 → (x + y).toInt = x.toInt + y.toInt := fun h1 h2 h3 h4 => addn (by omega) (by omega) (by omega) (by omega)
      refine brz gt0 (fun w => ?_) (fun w => sk (fun y => w (by rw [gt0] at y; exact y)) (go ?_ ?_))
      · rw [v6] at w
        rcases e4 with ⟨rfl, cc⟩ | ⟨rfl, cc⟩
        · refine sk (by decide) (go ?_ ?_)
          · rw [ea (by omega) (by omega) (by omega) (by omega), v3, v6]; exact (if_pos ⟨w, cc⟩).symm
          · rw [v4]; exact (if_neg (fun z => z.2 cc)).symm
        · refine hit rfl (hit (by rw [gt0, v6]; exact w) (go ?_ ?_))
          · rw [v3]; exact (if_neg (fun z => cc z.2)).symm
          · rw [ea (by omega) (by omega) (by omega) (by omega), v4, v6]; exact (if_pos ⟨w, cc⟩).symm
      · rw [v6] at w; rw [v3]; exact (if_neg (fun z => w z.1)).symm
      · rw [v6] at w; rw [v4]; exact (if_neg (fun z => w z.1)).symm
theorem s_trySeconds {R : (Nat → Nat → Int32) → (Nat → Nat → Int64) → Prop} (ha : askOK f) (hF : 0 ≤ F ∧ F ≤ 99) (h1 : f 1 ≤ F) (e1 : a1.toInt = F) (hf : ∀ j : Nat, j < 20 → fI I j = f j) (h65 : ∀ g : Nat, g < 8 → (I 65 g).toInt = rsv f F g) (hk : KC f I (befC F 0)) (K : ∀ I1 : Nat → Nat → Int32, frH I I1 → KC f I1 (befC (F + 1) 0) → R I1 J) : WP ((d + 3), 35, 0, [some (.ref 62), some (.int a1), none, none, none, none, none, none, none], [], (xSH L dr tl, I, J)) (fun v M => ∃ (I2 : Nat → Nat → Int32) (J2 : Nat → Nat → Int64), v = none ∧ M = (xSH L dr tl, I2, J2) ∧ R I2 J2) := by
  have rb : ∀ g : Nat, g < 8 → 0 ≤ rsv f F g ∧ rsv f F g ≤ 99 := by
    intro g hg
    have x1 := ha.2.1 (2 * g) (by omega)
    have x2 := ha.2.1 (2 * g + 1) (by omega)
    unfold rsv; omega
  have rb1 := rb 1 (by decide)
  have rb2 := rb 2 (by decide)
  have rb4 := rb 4 (by decide)
  have u1 := h65 1 (by decide)
  have u2 := h65 2 (by decide)
  have u4 := h65 4 (by decide)
  have u6 := h65 6 (by decide)
  have p18 : (I 63 18).toInt = f 18 := hf 18 (by decide)
  have p19 : (I 63 19).toInt = f 19 := hf 19 (by decide)
  refine w35_0 (s_max.u fun r1 g1 => PI.u (w34_0 (Or.inr rfl) (most_loop (Or.inr rfl) (N := 4) (g := fun j => rsv f F (2 * j + 1)) (Or.inl rfl) (by decide) (by decide) rfl (fun j hj => h65 (2 * j + 1) (by omega)) 4 0 0 1 rfl rfl rfl)) fun r2 g2 => ?_)
  have mx := maxI_le (g := fun j => rsv f F (2 * j + 1)) 4
  have mu := maxI_ub (g := fun j => rsv f F (2 * j + 1)) (B := 99) (by decide) 4 (fun j hj => (rb (2 * j + 1) (by omega)).2)
  rw [addn (by omega) (by omega) (by omega) (by omega), u2, u4, u6] at g1
  have k0 : KC f I (befC F (I 65 1).toInt) := by
    obtain ⟨k1, k2⟩ := hk
    refine ⟨fun c' hc hd => k1 c' hc ?_, k2.elim Or.inl (fun z => Or.inr ⟨z.1, z.2.1, z.2.2.1, z.2.2.2.1, z.2.2.2.2.1, ?_⟩)⟩
    · rcases hd with hd | ⟨hd1, hd2⟩
      · exact Or.inl hd
      · exfalso
        have := hF16.mp hc
        rw [hd1] at this
        have e1 : rsv f F 1 = max (f 2) (f 3 - F) := rfl
        omega
    · have := z.2.2.2.2.2
      unfold befC at *; omega
  have st := fun (v : Int32) (hv : (v = 1 ∧ f 18 < f 19) ∨ (v = 0 ∧ ¬ f 18 < f 19)) => second_loop (L := L) (d := d + 1) (dr := dr) (tl := tl) (J := J) (Q := fun v M => ∃ (I2 : Nat → Nat → Int32) (J2 : Nat → Nat → Int64), v = none ∧ M = (xSH L dr tl, I2, J2) ∧ R I2 J2) ha hF h1 e1 g1 g2 ⟨mx.1, mu⟩ (fun j hj => mx.2 j hj) hv 300 (I 65 1) I (by omega) (by omega) (by omega) (by omega) hf h65 k0 (fun I1 f1 k1 => ⟨I1, J, rfl, rfl, K I1 f1 k1⟩)
  refine brz lt_ti (fun y => st 1 (Or.inl ⟨rfl, by omega⟩)) (fun y => st 0 (Or.inr ⟨rfl, by omega⟩))
theorem rest_loop (ha : askOK f) (hF : 0 ≤ F ∧ F ≤ 99) (e2 : a2.toInt = F) (K : ∀ I1 : Nat → Nat → Int32, frH I I1 → KC f I1 (befC F 0) → (∀ g : Nat, g < 8 → (I1 65 g).toInt = rsv f F g) → WP ((d + 3), 35, 0, [some (.ref 62), some (.int a2), none, none, none, none, none, none, none], [], (xSH L dr tl, I1, J)) (fun v M => ∃ (I2 : Nat → Nat → Int32) (J2 : Nat → Nat → Int64), v = none ∧ M = (xSH L dr tl, I2, J2) ∧ WP ((d + 4), 33, 47, [some (.ref 62), some (.int a1), some (.int (a2 + 1)), none], [], (xSH L dr tl, I2, J2)) Q)) : ∀ (m k : Nat) (i : Int32) (I1 : Nat → Nat → Int32), k + m = 8 → i.toInt = k → frH I I1 → (∀ j : Nat, j < 20 → fI I1 j = f j) → KC f I1 (befC F 0) → (∀ g : Nat, g < k → (I1 65 g).toInt = rsv f F g) → WP ((d + 4), 33, 62, [some (.ref 62), some (.int a1), some (.int a2), some (.int i)], [], (xSH L dr tl, I1, J)) Q := by
  have lt8 : ∀ {a : Int32}, a < 8 ↔ a.toInt < 8 := fun {a} => lt_ti
  intro m
  induction m with
  | zero =>
    intro k i I1 hk hi fr1 hf kc h
    exact w33_62 (brz lt8 (fun z => by omega) (fun _ => K I1 fr1 kc (fun g hg => h g (by omega))))
  | succ m ih =>
    intro k i I1 hk hi fr1 hf kc h
    have i1 : (i + 1).toInt = ((k + 1 : Nat) : Int) := by rw [add1 (by omega) (by omega), hi]; rfl
    have e3 : (2 * i).toInt = ((2 * k : Nat) : Int) := by rw [mul2 (by omega) (by omega), hi]; omega
    have e4 : (2 * i + 1).toInt = ((2 * k + 1 : Nat) : Int) := by rw [add1 (by omega) (by omega), e3]; omega
    have x3 : xIx (2 * i) = 2 * k := by rw [xIx_ti, e3]; exact Int.toNat_natCast _
    have x4 : xIx (2 * i + 1) = 2 * k + 1 := by rw [xIx_ti, e4]; exact Int.toNat_natCast _
    have xi : xIx i = k := by rw [xIx_ti, hi]; exact Int.toNat_natCast _
    have b1 := ha.2.1 (2 * k) (by omega)
    have b2 := ha.2.1 (2 * k + 1) (by omega)
    have v1 : (I1 63 (2 * k)).toInt = f (2 * k) := hf _ (by omega)
    have v2 : (I1 63 (2 * k + 1)).toInt = f (2 * k + 1) := hf _ (by omega)
    refine w33_62 (brz lt8 (fun _ => ⟨by rw [xin_iff, e3]; omega, by rw [xin_iff, e4]; omega, s_max.u fun r3 g3 => ⟨by rw [xin_iff, hi]; omega, ?_⟩⟩) (fun z => by omega))
    rw [x3, x4, sub_ti (by omega) (by omega), v1, v2, e2] at g3
    rw [xi]
    refine ih (k + 1) _ _ (by omega) i1 (fr1.tr ⟨fun a g1 g2 g3 => xwI_ne g2, fun j g1 g2 => by rw [xwI_ne (by decide)]⟩) hf kc (fun g hg => ?_)
    by_cases e : g = k
    · rw [e, xg, g3]; rfl
    · rw [xgn e]; exact h g (by omega)
theorem first_loop (ha : askOK f) {mo : Int} (e1 : a1.toInt = mo) (hmo : 0 ≤ mo ∧ mo ≤ 99) (hm : ∀ j : Nat, j < 8 → f (2 * j + 1) ≤ mo) : ∀ (m : Nat) (i : Int32) (I : Nat → Nat → Int32), mo + 1 - i.toInt < m → 0 ≤ i.toInt → i.toInt ≤ 100 → f 1 ≤ i.toInt → (∀ j : Nat, j < 20 → fI I j = f j) → KC f I (befC i.toInt 0) → (∀ I1 : Nat → Nat → Int32, frH I I1 → hBest f (kI I1) → (I1 62 5).toInt = hTot (kI I1) → (I1 62 6).toInt = hPay f (kI I1) → Q none (xSH L dr tl, I1, J)) → WP ((d + 4), 33, 47, [some (.ref 62), some (.int a1), some (.int i), none], [], (xSH L dr tl, I, J)) Q := by
  intro m
  induction m with
  | zero =>
    intro i I hm' h0 h100 hi hf hk K
    refine w33_47 (brz lt_ti (fun z => ?_) (fun z => by omega))
    obtain ⟨w1, w2, w3⟩ := kept_end ha hk hi hm hmo.1 (Or.inl (by omega)) (by omega)
    exact K I frH_refl w1 w2 w3
  | succ m ih =>
    intro i I hm' h0 h100 hi hf hk K
    refine w33_47 (brz lt_ti (fun z => ?_) (fun z => brz lt_ti (fun y => ?_) (fun y => ?_)))
    · obtain ⟨w1, w2, w3⟩ := kept_end ha hk hi hm hmo.1 (Or.inl (by omega)) (by omega)
      exact K I frH_refl w1 w2 w3
    · obtain ⟨w1, w2, w3⟩ := kept_end ha hk hi hm hmo.1 (Or.inr y) (by omega)
      exact K I frH_refl w1 w2 w3
    · have i1 : (i + 1).toInt = i.toInt + 1 := add1 (by omega) (by omega)
      refine rest_loop (F := i.toInt) ha (by omega) rfl (fun I1 fr1 kc1 h65 => ?_) 8 0 0 I rfl rfl frH_refl hf hk (fun g hg => by omega)
      have hf1 : ∀ j : Nat, j < 20 → fI I1 j = f j := fun j hj => by unfold fI; rw [fr1.1 63 (by decide) (by decide) (by decide)]; exact hf j hj
      refine s_trySeconds (F := i.toInt) ha (by omega) hi rfl hf1 h65 kc1 fun I2 fr2 kc2 => ih _ I2 (by omega) (by omega) (by omega) (by omega) (fun j hj => ?_) (by rw [i1]; exact kc2) fun I3 fr3 z1 z2 z3 => K I3 ((fr1.tr fr2).tr fr3) z1 z2 z3
      unfold fI; rw [fr2.1 63 (by decide) (by decide) (by decide)]; exact hf1 j hj
end HIREC2
