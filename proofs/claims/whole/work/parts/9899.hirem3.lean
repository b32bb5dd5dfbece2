/-! ===== hire: the reference's loops ===== -/
section HIREM3
variable {S : aS} {L d dr tl : Nat} {I I0 I1 I2 : Nat → Nat → Int32} {J : Nat → Nat → Int64} {a1 a2 a3 a4 a5 x : Int32} {r q p m n : Nat} {l : Int} {f c c' h : Nat → Int} {A : Int} {Q : Option Value → xMem → Prop} {D D' : (Nat → Int) → Prop}
theorem addm1 {i : Int32} (h : -1000000000 ≤ i.toInt) : (i + (-1)).toInt = i.toInt - 1 := by
  have := ti_hi i
  have z : (i + (-1)).toInt = i.toInt + (-1) := add_ti (by show _ ≤ i.toInt + (-1); omega) (by show i.toInt + (-1) < _; omega)
  omega
theorem sumI_n {h h' : Nat → Int} : ∀ k : Nat, (∀ i : Nat, i < k → h i = h' i) → sumI h k = sumI h' k := fun k e => sumI_eq k e
theorem NB_fr (nb : NB f n I) (h : I1 119 = I 119) : NB f n I1 := by unfold NB at *; rw [h]; exact nb
theorem pgt_step {k : Nat} (hk : k + 1 ≤ n - 1) (hn : n ≤ 4) (hcm : memA n A c) (hc' : memA n A c') (hl : ltC c c') (sA : sumI c (k + 1) = A) (w : pgt (k + 1) c c') : pgt k c c' := by
  have sc : hTot c' = c' 0 + c' 1 + c' 2 + c' 3 := rfl
  obtain ⟨m0, m1, m2, m3, m4, _⟩ := hc'
  rw [sc] at m4
  unfold pgt at *
  have kk : k = 0 ∨ k = 1 ∨ k = 2 := by omega
  clear hl hcm sc
  rcases kk with rfl | rfl | rfl
  · have e : sumI c (0 + 1) = 0 + c 0 := rfl
    rw [e] at sA
    rcases w with ⟨_, w⟩ | ⟨w, _⟩ | ⟨w, _⟩ <;> omega
  · have e : sumI c (1 + 1) = 0 + c 0 + c 1 := rfl
    rw [e] at sA
    rcases w with ⟨_, w⟩ | ⟨_, w, w'⟩ | ⟨w, _⟩
    · exact Or.inl ⟨by decide, w⟩
    · omega
    · omega
  · have e : sumI c (2 + 1) = 0 + c 0 + c 1 + c 2 := rfl
    rw [e] at sA
    rcases w with ⟨_, w⟩ | ⟨_, w, w'⟩ | ⟨_, w, w', w''⟩
    · exact Or.inl ⟨by decide, w⟩
    · exact Or.inr (Or.inl ⟨by decide, w, w'⟩)
    · omega
/-- the odometer -/
theorem odo (h1 : 1 ≤ n) (hn : n ≤ 4) (e1 : a1.toInt = A) (hA : A ≤ 1000) (hcm : memA n A c)
    (Kend : ∀ I1 : Nat → Nat → Int32, frN I I1 → I1 119 = I 119 → I1 121 = I 121 → I1 71 71 = I 71 71 → (∀ c' : Nat → Int, memA n A c' → ¬ ltC c c') → WP ((d + 3), 286, 34, [some (.ref 71), some (.int a1), some (.int a2), some (.int 0), none, none], [], (xSH L dr tl, I1, J)) Q)
    (Kmore : ∀ (I1 : Nat → Nat → Int32) (k : Nat), frN I I1 → I1 119 = I 119 → I1 121 = I 121 → I1 71 71 = I 71 71 → k + 1 ≤ n - 1 → (∀ c' : Nat → Int, memA n A c' → ltC c c' → pgt (k + 1) c c') → (∀ i : Nat, i < k → hI4 I1 i = c i) → hI4 I1 k = c k + 1 → (∀ i : Nat, k < i → i < n - 1 → hI4 I1 i = 0) → (∀ i : Nat, n ≤ i → i < 4 → hI4 I1 i = 0) → sumI c (k + 1) + 1 ≤ A → WP ((d + 3), 286, 34, [some (.ref 71), some (.int a1), some (.int a2), some (.int 1), none, none], [], (xSH L dr tl, I1, J)) Q) :
    ∀ (k : Nat) (s i : Int32) (I1 : Nat → Nat → Int32), k ≤ n - 1 → i.toInt = (k : Int) - 1 → s.toInt = sumI c k → sumI c k ≤ A → frN I I1 → I1 119 = I 119 → I1 121 = I 121 → I1 71 71 = I 71 71 → (∀ j : Nat, j < k → hI4 I1 j = c j) → (∀ j : Nat, k ≤ j → j < n - 1 → hI4 I1 j = 0) → (∀ j : Nat, n ≤ j → j < 4 → hI4 I1 j = 0) → (∀ c' : Nat → Int, memA n A c' → ltC c c' → pgt k c c') → WP ((d + 3), 286, 146, [some (.ref 71), some (.int a1), some (.int a2), none, some (.int s), some (.int i)], [], (xSH L dr tl, I1, J)) Q := by
  have ht : hTot c = c 0 + c 1 + c 2 + c 3 := rfl
  have c0 : ∀ i : Nat, i < 4 → 0 ≤ c i ∧ c i ≤ A := by
    intro i hi
    obtain ⟨m0, m1, m2, m3, m4, _⟩ := hcm
    have : i = 0 ∨ i = 1 ∨ i = 2 ∨ i = 3 := by omega
    rcases this with rfl | rfl | rfl | rfl <;> omega
  intro k
  induction k with
  | zero =>
    intro s i I1 hk hi hs hsA fr1 e119 e121 e71 hp hz hb inv
    refine w286_146 (brz lt0 (fun _ => hit (by rw [lt0]; omega) (Kend I1 fr1 e119 e121 e71 (fun c' hc' hl => ?_))) (fun z => by omega))
    have := inv c' hc' hl
    unfold pgt at this; omega
  | succ k ih =>
    intro s i I1 hk hi hs hsA fr1 e119 e121 e71 hp hz hb inv
    have es : sumI c (k + 1) = sumI c k + c k := rfl
    have ck := c0 k (by omega)
    have xi : xIx i = k := by rw [xIx_ti, hi]; omega
    have hx : xin i 4 = true := by rw [xin_iff, hi]; omega
    have hk' : (I1 120 k).toInt = c k := hp k (by omega)
    have sb := sumI_b (f := c) (B := A) k (fun j hj => c0 j (by omega))
    refine w286_146 (brz lt0 (fun z => by omega) (fun _ => brz eq_ti (fun y => ⟨hx, hx, ?_⟩) (fun y => sk (by rw [lt0]; omega) ⟨hx, hx, ?_⟩)))
    · rw [xi]
      have hk0 : k ≤ n - 1 := by omega
      have hsA0 : sumI c k ≤ A := by omega
      have sA : sumI c (k + 1) = A := by omega
      have i1 : (i + (-1)).toInt = (k : Int) - 1 := by rw [addm1 (by omega)]; omega
      generalize i + (-1) = i' at i1 ⊢
      have hs' : (s - I1 120 k).toInt = sumI c k := by rw [sub_ti (by omega) (by omega), hs, hk', es]; omega
      generalize s - I1 120 k = s' at hs' ⊢
      refine ih _ _ _ hk0 i1 hs' hsA0 (fr1.tr (frN_w (by decide))) ?_ ?_ ?_ (fun j hj => ?_) (fun j h1' h2' => ?_) (fun j h1' h2' => ?_) (fun c' hc' hl => ?_)
      · rw [xwI_ne (by decide)]; exact e119
      · rw [xwI_ne (by decide)]; exact e121
      · rw [xwI_ne (by decide)]; exact e71
      · unfold hI4; rw [xgn (by omega)]; exact hp j (by omega)
      · by_cases e : j = k
        · unfold hI4; rw [e, xg]; rfl
        · unfold hI4; rw [xgn e]; exact hz j (by omega) h2'
      · unfold hI4; rw [xgn (by omega)]; exact hb j h1' h2'
      · exact pgt_step hk hn hcm hc' hl sA (inv c' hc' hl)
    · rw [xi]
      have eh : (I1 120 k + 1).toInt = c k + 1 := by rw [add1 (by omega) (by omega), hk']
      refine Kmore _ k (fr1.tr (frN_w (by decide))) ?_ ?_ ?_ (by omega) inv (fun j hj => ?_) ?_ (fun j h1' h2' => ?_) (fun j h1' h2' => ?_) (by omega)
      · rw [xwI_ne (by decide)]; exact e119
      · rw [xwI_ne (by decide)]; exact e121
      · rw [xwI_ne (by decide)]; exact e71
      · unfold hI4; rw [xgn (by omega)]; exact hp j (by omega)
      · unfold hI4; rw [xg]; exact eh
      · unfold hI4; rw [xgn (by omega)]; exact hz j (by omega) h2'
      · unfold hI4; rw [xgn (by omega)]; exact hb j h1' h2'
theorem copy_loop (K : ∀ I1 : Nat → Nat → Int32, frN I I1 → I1 119 = I 119 → I1 120 = I 120 → I1 71 71 = I 71 71 → (∀ r : Nat, r < 4 → I1 121 r = I 120 r) → WP ((d + 3), 286, 146, [some (.ref 71), some (.int a1), some (.int a2), none, some (.int a4), some (.int (a2 - 1))], [], (xSH L dr tl, I1, J)) Q) : ∀ (m k : Nat) (i : Int32) (I1 : Nat → Nat → Int32), k + m = 4 → i.toInt = k → frN I I1 → I1 119 = I 119 → I1 120 = I 120 → I1 71 71 = I 71 71 → (∀ r : Nat, r < k → I1 121 r = I 120 r) → WP ((d + 3), 286, 115, [some (.ref 71), some (.int a1), some (.int a2), none, some (.int a4), some (.int i)], [], (xSH L dr tl, I1, J)) Q := by
  intro m
  induction m with
  | zero =>
    intro k i I1 hk hi f1 e1 e2 e3 h
    exact w286_115 (brz lt4 (fun z => by omega) (fun _ => K I1 f1 e1 e2 e3 (fun r hr => h r (by omega))))
  | succ m ih =>
    intro k i I1 hk hi f1 e1 e2 e3 h
    have i1 : (i + 1).toInt = ((k + 1 : Nat) : Int) := by rw [add1 (by omega) (by omega), hi]; rfl
    have xi : xIx i = k := by rw [xIx_ti, hi]; exact Int.toNat_natCast _
    have hx : xin i 4 = true := by rw [xin_iff, hi]; omega
    refine w286_115 (brz lt4 (fun _ => ⟨hx, hx, ih (k + 1) _ _ (by omega) i1 (f1.tr (frN_w (by decide))) ?_ ?_ ?_ (fun r hr => ?_)⟩) (fun z => by omega))
    · rw [xwI_ne (by decide)]; exact e1
    · rw [xwI_ne (by decide)]; exact e2
    · rw [xwI_ne (by decide)]; exact e3
    · rw [xi]
      by_cases e : r = k
      · rw [e, xg, e2]
      · rw [xgn e]; exact h r (by omega)
theorem sum44 (hS : ∀ i : Nat, i < n - 1 → 0 ≤ hI4 I i ∧ hI4 I i ≤ 1000) (hn : n ≤ 4) (e2 : a2.toInt = (n : Int) - 1) (K : ∀ s : Int32, s.toInt = sumI (hI4 I) (n - 1) → WP ((d + 3), 286, 44, [some (.ref 71), some (.int a1), some (.int a2), none, some (.int s), some (.int a2)], [], (xSH L dr tl, I, J)) Q) : ∀ (m k : Nat) (s i : Int32), k + m = n - 1 → i.toInt = k → s.toInt = sumI (hI4 I) k → (1 ≤ n) → WP ((d + 3), 286, 44, [some (.ref 71), some (.int a1), some (.int a2), none, some (.int s), some (.int i)], [], (xSH L dr tl, I, J)) Q := by
  intro m
  induction m with
  | zero =>
    intro k s i hk hi hs h1
    have e : i = a2 := eq_ti.mpr (by omega)
    rw [e]
    exact K s (by rw [hs, show n - 1 = k by omega])
  | succ m ih =>
    intro k s i hk hi hs h1
    have i1 : (i + 1).toInt = ((k + 1 : Nat) : Int) := by rw [add1 (by omega) (by omega), hi]; rfl
    have xi : xIx i = k := by rw [xIx_ti, hi]; exact Int.toNat_natCast _
    have sb := sumI_b (f := hI4 I) (B := 1000) k (fun j hj => hS j (by omega))
    have hk0 := hS k (by omega)
    have hk1 : hI4 I k = (I 120 k).toInt := rfl
    refine w286_44 (brz lt_ti (fun _ => ⟨by rw [xin_iff, hi]; omega, ih (k + 1) _ _ (by omega) i1 ?_ h1⟩) (fun z => by omega))
    rw [xi, addn (by omega) (by omega) (by omega) (by omega), hs]; rfl
/-- all ways -/
theorem part_loop (q : MInv S I0 J) (en : sNR S = n) (h1 : 1 ≤ n) (hn : n ≤ 4) (hf : fOK f n) (hp : ∀ r : Nat, r < n → f (16 + r) = S 8 r) (e1 : a1.toInt = A) (hA : 0 ≤ A ∧ A ≤ 1000) (e2 : a2.toInt = (n : Int) - 1) (K : ∀ I2 : Nat → Nat → Int32, frN I0 I2 → NB f n I2 → partI f n A (fun _ => True) I2 → WP ((d + 3), 286, 34, [some (.ref 71), some (.int a1), some (.int a2), some (.int 0), none, none], [], (xSH L dr tl, I2, J)) Q) : ∀ x y z : Nat, ∀ I : Nat → Nat → Int32, x = (A - (if 0 < n - 1 then hI4 I 0 else 0)).toNat → y = (A - (if 1 < n - 1 then hI4 I 1 else 0)).toNat → z = (A - (if 2 < n - 1 then hI4 I 2 else 0)).toNat → rowOK I n A → frN I0 I → NB f n I → partI f n A (fun c' => ltC c' (curC I n A)) I → WP ((d + 3), 286, 34, [some (.ref 71), some (.int a1), some (.int a2), some (.int 1), none, none], [], (xSH L dr tl, I, J)) Q := by
  refine lex3 (fun x y z ih => ?_)
  intro I ex ey ez ro fr nb pi
  have hm := (q.frn fr).mb
  have cm := cur_mem (A := A) h1 hn ro
  have cme := cm
  have ht : hTot (curC I n A) = curC I n A 0 + curC I n A 1 + curC I n A 2 + curC I n A 3 := rfl
  have cur_b : ∀ i : Nat, i < 4 → 0 ≤ curC I n A i ∧ curC I n A i ≤ A := by
    intro i hi
    obtain ⟨m0, m1, m2, m3, m4, _⟩ := cme
    have : i = 0 ∨ i = 1 ∨ i = 2 ∨ i = 3 := by omega
    rcases this with rfl | rfl | rfl | rfl <;> omega
  have cur_lt : ∀ i : Nat, i < n - 1 → curC I n A i = hI4 I i := fun i hi => if_neg (by omega)
  have hS : ∀ i : Nat, i < n - 1 → 0 ≤ hI4 I i ∧ hI4 I i ≤ 1000 := fun i hi => by
    have := cur_b i (by omega)
    rw [cur_lt i hi] at this
    omega
  have x2 : xIx a2 = n - 1 := by rw [xIx_ti, e2]; omega
  have ss : 0 ≤ sumI (hI4 I) (n - 1) := (sumI_b (f := hI4 I) (B := 1000) (n - 1) hS).1
  refine w286_34 (sk (by decide) (sum44 hS hn e2 (fun s hs => ?_) (n - 1) 0 0 0 (by omega) rfl rfl h1))
  refine w286_44 (brz lt_ti (fun z => by omega) (fun _ => ⟨by rw [xin_iff, e2]; omega, ?_⟩))
  rw [x2]
  have eA : (a1 - s).toInt = A - sumI (hI4 I) (n - 1) := by have := ro.2.1; rw [sub_ti (by omega) (by omega), e1, hs]
  -- the memory with the last one set
  have hI1 : ∀ i : Nat, hI4 (xwI I 120 (n - 1) (a1 - s)) i = curC I n A i := by
    intro i
    unfold hI4 curC
    by_cases e : i = n - 1
    · rw [e, xg, if_pos rfl]; exact eA
    · rw [xgn e, if_neg e]; rfl
  have hIf : hI4 (xwI I 120 (n - 1) (a1 - s)) = curC I n A := funext hI1
  have fr1 : frN I (xwI I 120 (n - 1) (a1 - s)) := frN_w (by decide)
  have q1 := q.frn (fr.tr fr1)
  have nb1 : NB f n (xwI I 120 (n - 1) (a1 - s)) := NB_fr nb (xwI_ne (by decide))
  have cm1 : memA n A (hI4 (xwI I 120 (n - 1) (a1 - s))) := by rw [hIf]; exact cm
  have z1 : ∀ r : Nat, n ≤ r → r < 4 → hI4 (xwI I 120 (n - 1) (a1 - s)) r = 0 := fun r hr1 hr2 => by
    rw [hI1]
    have : curC I n A r = hI4 I r := if_neg (by omega)
    rw [this]; exact ro.2.2 r hr1 hr2
  have pi1 : partI f n A (fun c' => ltC c' (curC I n A)) (xwI I 120 (n - 1) (a1 - s)) := partI_m (by rw [xwI_ne (by decide)]) (xwI_ne (by decide)) pi
  have pay0 : 0 ≤ hPay f (curC I n A) ∧ hPay f (curC I n A) ≤ 1000000 := by
    have b0 := cur_b 0 (by decide)
    have b1 := cur_b 1 (by decide)
    have b2 := cur_b 2 (by decide)
    have b3 := cur_b 3 (by decide)
    have p0 : 0 ≤ f 16 ∧ f 16 ≤ 99 := hf.2.2 0 (by decide)
    have p1 : 0 ≤ f 17 ∧ f 17 ≤ 99 := hf.2.2 1 (by decide)
    have p2 : 0 ≤ f 18 ∧ f 18 ≤ 99 := hf.2.2 2 (by decide)
    have p3 : 0 ≤ f 19 ∧ f 19 ≤ 99 := hf.2.2 3 (by decide)
    have mm : ∀ {u v : Int}, 0 ≤ u → u ≤ 1000 → 0 ≤ v → v ≤ 99 → 0 ≤ u * v ∧ u * v ≤ 99000 := fun {u v} g1 g2 g3 g4 => ⟨Int.mul_nonneg g1 g3, by have := Int.mul_le_mul g2 g4 g3 (show (0 : Int) ≤ 1000 by decide); omega⟩
    have q0 := mm b0.1 (by omega) p0.1 p0.2
    have q1 := mm b1.1 (by omega) p1.1 p1.2
    have q2 := mm b2.1 (by omega) p2.1 p2.2
    have q3 := mm b3.1 (by omega) p3.1 p3.2
    unfold hPay
    omega
  -- behind the look: the odometer
  have rest : ∀ I2 : Nat → Nat → Int32, frN I0 I2 → NB f n I2 → hI4 I2 = curC I n A → partI f n A (fun c' => leC c' (curC I n A)) I2 → WP ((d + 3), 286, 146, [some (.ref 71), some (.int a1), some (.int a2), none, some (.int s), some (.int (a2 - 1))], [], (xSH L dr tl, I2, J)) Q := by
    intro I2 fr2 nb2 h2 pi2
    have es : sumI (curC I n A) (n - 1) = sumI (hI4 I) (n - 1) := sumI_eq _ cur_lt
    refine odo (c := curC I n A) h1 hn e1 hA.2 cm (fun I3 f3 e119 e121 e71 nolt => K I3 (fr2.tr f3) (NB_fr nb2 e119) (partI_c (fun c' hc' => ⟨fun _ => trivial, fun _ => (tri _ c').elim id (fun w => absurd w (nolt c' hc'))⟩) (partI_m e71 e121 pi2))) (fun I3 k f3 e119 e121 e71 hk inv p1 p2 p3 p4 sle => ?_) (n - 1) s _ I2 (Nat.le_refl _) (by rw [sub1 (by omega), e2]; omega) (by rw [es]; exact hs) (by rw [es]; exact ro.2.1) frN_refl rfl rfl rfl (fun j hj => by rw [h2]) (fun j g1 g2 => by omega) (fun j g1 g2 => by rw [h2]; have : curC I n A j = hI4 I j := if_neg (by omega); rw [this]; exact ro.2.2 j g1 g2) (fun c' hc' hl => ?_)
    · have ro3 : rowOK I3 n A := by
        refine ⟨fun i hi => ?_, ?_, p4⟩
        · by_cases a : i < k
          · rw [p1 i a]; exact (cur_b i (by omega)).1
          · by_cases b : i = k
            · rw [b, p2]; have := (cur_b k (by omega)).1; omega
            · rw [p3 i (by omega) hi]; exact Int.le_refl _
        · have sk1 : sumI (hI4 I3) k = sumI (curC I n A) k := sumI_eq k p1
          have sk2 : sumI (hI4 I3) (k + 1) = sumI (curC I n A) (k + 1) + 1 := by
            show sumI (hI4 I3) k + hI4 I3 k = sumI (curC I n A) k + curC I n A k + 1
            rw [sk1, p2]; omega
          have sk3 : ∀ j : Nat, k + 1 + j ≤ n - 1 → sumI (hI4 I3) (k + 1 + j) = sumI (hI4 I3) (k + 1) := by
            intro j
            induction j with
            | zero => intro _; rfl
            | succ j ij =>
              intro hj
              show sumI (hI4 I3) (k + 1 + j) + hI4 I3 (k + 1 + j) = _
              rw [ij (by omega), p3 (k + 1 + j) (by omega) (by omega)]; omega
          have := sk3 (n - 1 - (k + 1)) (by omega)
          rw [show k + 1 + (n - 1 - (k + 1)) = n - 1 by omega] at this
          rw [this, sk2]; exact sle
      have cm3 := cur_mem (A := A) h1 hn ro3
      have c3lt : ∀ i : Nat, i < n - 1 → curC I3 n A i = hI4 I3 i := fun i hi => if_neg (by omega)
      have nx := next_c (c := curC I n A) (t := curC I3 n A) h1 hn hk cm cm inv cm3 (fun i hi => by rw [c3lt i (by omega)]; exact p1 i hi) (by rw [c3lt k (by omega)]; exact p2) (fun i g1 g2 => by rw [c3lt i g2]; exact p3 i g1 g2)
      refine ih _ _ _ ?_ I3 rfl rfl rfl ro3 (fr2.tr f3) (NB_fr nb2 e119) (partI_c nx (partI_m e71 e121 pi2))
      rw [ex, ey, ez]
      have w0 : 0 < n - 1 → curC I n A 0 = hI4 I 0 := fun g => cur_lt 0 g
      have w1 : 1 < n - 1 → curC I n A 1 = hI4 I 1 := fun g => cur_lt 1 g
      have w2 : 2 < n - 1 → curC I n A 2 = hI4 I 2 := fun g => cur_lt 2 g
      have ckb := cur_b k (by omega)
      have skk := sumI_b (f := curC I n A) (B := A) k (fun j hj => cur_b j (by omega))
      have ske : sumI (curC I n A) (k + 1) = sumI (curC I n A) k + curC I n A k := rfl
      have kk : k = 0 ∨ k = 1 ∨ k = 2 := by omega
      rcases kk with rfl | rfl | rfl
      · left
        rw [if_pos (by omega), if_pos (by omega), p2]
        have := w0 (by omega)
        omega
      · right
        have g0 := p1 0 (by decide)
        rw [w0 (by omega)] at g0
        have := w1 (by omega)
        refine ⟨by rw [if_pos (by omega), if_pos (by omega), g0], Or.inl ?_⟩
        rw [if_pos (by omega), if_pos (by omega), p2]
        omega
      · right
        have g0 := p1 0 (by decide)
        have g1 := p1 1 (by decide)
        rw [w0 (by omega)] at g0
        rw [w1 (by omega)] at g1
        have := w2 (by omega)
        refine ⟨by rw [if_pos (by omega), if_pos (by omega), g0], Or.inr ⟨by rw [if_pos (by omega), if_pos (by omega), g1], ?_⟩⟩
        rw [if_pos (by omega), if_pos (by omega), p2]
        omega
    · have C' := hc'
      have sc : hTot c' = c' 0 + c' 1 + c' 2 + c' 3 := rfl
      have CC := cm
      unfold memA at C' CC
      have nn : n = 1 ∨ n = 2 ∨ n = 3 ∨ n = 4 := by omega
      rcases nn with rfl | rfl | rfl | rfl
      · unfold ltC at hl; unfold pgt; omega
      · unfold ltC at hl; unfold pgt; omega
      · unfold ltC at hl; unfold pgt; omega
      · unfold ltC at hl; unfold pgt; omega
  have pw := m_payNow (L := L) (d := d) (dr := dr) (tl := tl) q1.mb en hn cm1 hA.2 hp z1
  rw [hIf] at pw
  refine (m_enough q1.mb en hn hf nb1 cm1 hA.2 z1).u (fun y => br1 ?_) (fun y => br0 (rest _ (fr.tr fr1) nb1 hIf (partI_no cm pi1 (Or.inl (by rw [hIf] at y; exact y)))))
  rw [hIf] at y
  have keep : ∀ r5 : Int32, r5.toInt = hPay f (curC I n A) → ((xwI I 120 (n - 1) (a1 - s) 71 71).toInt = -1 ∨ hPay f (curC I n A) < (xwI I 120 (n - 1) (a1 - s) 71 71).toInt) → WP ((d + 3), 286, 115, [some (.ref 71), some (.int a1), some (.int a2), none, some (.int s), some (.int 0)], [], (xSH L dr tl, xwI (xwI I 120 (n - 1) (a1 - s)) 71 71 r5, J)) Q := by
    intro r5 h5 hy
    refine copy_loop (I := xwI (xwI I 120 (n - 1) (a1 - s)) 71 71 r5) (fun I3 f3 e119 e120 e71 h121 => rest I3 ((fr.tr fr1).tr (frN_p.tr f3)) (NB_fr nb1 (by rw [e119, xwI_ne (by decide)])) ?_ (partI_yes cm y pi1 hy pay0.1 ?_ (fun r hr => ?_))) 4 0 0 _ rfl rfl frN_refl rfl rfl rfl (fun r hr => by omega)
    · rw [← hIf]; unfold hI4; rw [e120, xwI_ne (by decide)]
    · rw [e71, xg]; exact h5
    · rw [← hIf]; unfold bI4 hI4; rw [h121 r hr, xwI_ne (by decide)]
  refine brz eqm (fun w => pw.u fun r5 g5 => keep r5 g5 (Or.inl w)) (fun w => pw.u fun r6 g6 => brz lt_ti (fun u => pw.u fun r8 g8 => keep r8 g8 (Or.inr (by omega))) (fun u => rest _ (fr.tr fr1) nb1 hIf (partI_no cm pi1 (Or.inr ⟨w, by omega⟩))))
end HIREM3
