/-! ===== forge, bars: the class ===== -/
/-- no round of the guard in n hours from B on -/
def freeP (S : aS) (B n : Int) : Prop := allF (fun j => ¬ grd S (B + j)) 0 n.toNat
/-- a forger can begin in the hour B: m places from a on -/
def okB (S : aS) (l : Int) (a m : Nat) (pace till n B : Int) : Prop := B + n - 1 ≤ till ∧ freeP S B n ∧ allF (fun i => B + (i : Int) / pace < dH S l (a + i)) 0 m
noncomputable def lat (S : aS) (l : Int) (a : Nat) (pace till n : Int) : Nat → Int
  | 0 => till - n + 1
  | m + 1 => min (lat S l a pace till n m) (dH S l (a + m) - ((m : Int) / pace + 1))
theorem lat_iff {S : aS} {l pace till n B : Int} {a : Nat} : ∀ m : Nat, B ≤ lat S l a pace till n m ↔ B + n - 1 ≤ till ∧ allF (fun i => B + (i : Int) / pace < dH S l (a + i)) 0 m := by
  intro m
  induction m with
  | zero => show B ≤ till - n + 1 ↔ _; exact ⟨fun z => ⟨by omega, allF_e (by omega)⟩, fun z => by omega⟩
  | succ m ih =>
    have e : lat S l a pace till n (m + 1) = min (lat S l a pace till n m) (dH S l (a + m) - ((m : Int) / pace + 1)) := rfl
    rw [e]
    constructor
    · intro z
      obtain ⟨z1, z2⟩ := ih.mp (by omega)
      refine ⟨z1, fun i h1 h2 => ?_⟩
      by_cases y : i = m
      · rw [y]; show B + (m : Int) / pace < dH S l (a + m); omega
      · exact z2 i h1 (by omega)
    · rintro ⟨z1, z2⟩
      have z3 := ih.mpr ⟨z1, fun i h1 h2 => z2 i h1 (by omega)⟩
      have z4 : B + (m : Int) / pace < dH S l (a + m) := z2 m (by omega) (by omega)
      omega
theorem okB_iff {S : aS} {l pace till n B : Int} {a m : Nat} : okB S l a m pace till n B ↔ B ≤ lat S l a pace till n m ∧ freeP S B n := by
  rw [lat_iff]; unfold okB
  exact ⟨fun z => ⟨⟨z.1, z.2.2⟩, z.2.1⟩, fun z => ⟨z.1.1, z.2, z.1.2⟩⟩
def isLast (P : Int → Prop) (s x : Int) (k : Nat) : Prop := (x = -1 ∧ ∀ B : Int, s ≤ B → B < s + k → ¬ P B) ∨ (P x ∧ s ≤ x ∧ x < s + k ∧ ∀ B : Int, x < B → B < s + k → ¬ P B)
theorem isLast_u {P : Int → Prop} {s x x' : Int} {k : Nat} (h : isLast P s x k) (h' : isLast P s x' k) : x = x' := by
  rcases h with ⟨h1, h2⟩ | ⟨h1, h2, h3, h4⟩ <;> rcases h' with ⟨g1, g2⟩ | ⟨g1, g2, g3, g4⟩
  · omega
  · exact absurd g1 (h2 x' g2 g3)
  · exact absurd h1 (g2 x h2 h3)
  · apply Classical.byContradiction
    intro ne
    by_cases c : x < x'
    · exact h4 x' c g3 g1
    · exact g4 x (by omega) h3 h1
/-- the bars: how many, the last barred hour from now on -/
noncomputable def barF (P : Int → Prop) (s n : Int) : Nat → Int × Int
  | 0 => (0, -1)
  | k + 1 => @ite (Int × Int) (P (s + k) ∧ (barF P s n k).2 < k) (Classical.propDecidable _) ((barF P s n k).1 + 1, k + n - 1) (barF P s n k)
section FORGE
variable {S T : aS} {L d dr tl : Nat} {I I0 I1 : Nat → Nat → Int32} {J : Nat → Nat → Int64} {a1 a2 a3 a4 a5 a6 a7 x : Int32} {r k q p m : Nat} {l n B till pace : Int} {P : Int → Prop} {Q : Option Value → xMem → Prop}
theorem barF_y {s : Int} (h : P (s + k) ∧ (barF P s n k).2 < k) : barF P s n (k + 1) = ((barF P s n k).1 + 1, k + n - 1) := if_pos h
theorem barF_n {s : Int} (h : ¬ (P (s + k) ∧ (barF P s n k).2 < k)) : barF P s n (k + 1) = barF P s n k := if_neg h
theorem barF_b {s : Int} : ∀ k : Nat, 0 ≤ (barF P s n k).1 ∧ (barF P s n k).1 ≤ k := by
  intro k
  induction k with
  | zero => exact ⟨(by decide : (0 : Int) ≤ 0), (by decide : (0 : Int) ≤ 0)⟩
  | succ k ih =>
    by_cases h : P (s + k) ∧ (barF P s n k).2 < k
    · rw [barF_y h]; dsimp only; omega
    · rw [barF_n h]; omega
theorem s_hoursFor {a0 : Int32} (h0 : 0 ≤ a0.toInt ∧ a0.toInt ≤ 1000) (h1 : 1 ≤ a1.toInt) : PI ((d + 1), 84, 0, [some (.int a0), some (.int a1)], [], (xSH L dr tl, I, J)) (a0.toInt / a1.toInt + 1) (xSH L dr tl, I, J) := by
  have e := div_ti (a := a0) (b := a1) (by omega) (by omega)
  have k1 : 0 ≤ a0.toInt / a1.toInt := Int.ediv_nonneg (by omega) (by omega)
  have k2 : a0.toInt / a1.toInt ≤ a0.toInt := Int.ediv_le_self _ (by omega)
  refine w84_0 (brz gt0 (fun _ => ⟨fun z => by rw [eq0] at z; omega, _, rfl, ?_, rfl⟩) (fun z => by omega))
  rw [add1 (by omega) (by omega), e]
theorem grd_loop (hc : CB S tl I) (h1 : 0 ≤ a1.toInt ∧ a1.toInt ≤ 100000) (h2 : 0 ≤ a2.toInt ∧ a2.toInt ≤ 100000) : ∀ (m k : Nat) (i : Int32), ((k + m : Nat) : Int) = a2.toInt → i.toInt = a1.toInt + k → PB ((d + 2), 86, 2, [some (.ref 67), some (.int a1), some (.int a2), some (.int i)], [], (xSH L dr tl, I, J)) (¬ allF (fun j => ¬ grd S (a1.toInt + j)) k a2.toInt.toNat) (xSH L dr tl, I, J) := by
  have e0 : (a1 + a2).toInt = a1.toInt + a2.toInt := addn (by omega) (by omega) (by omega) (by omega)
  intro m
  induction m with
  | zero =>
    intro k i hk hi
    exact w86_2 hc.2.1 (brz lt_ti (fun z => by omega) (fun _ => ⟨0, rfl, Or.inr ⟨rfl, fun z => z (allF_e (by omega))⟩, rfl⟩))
  | succ m ih =>
    intro k i hk hi
    have i1 : (i + 1).toInt = a1.toInt + ((k + 1 : Nat) : Int) := by rw [add1 (by omega) (by omega), hi]; omega
    refine w86_2 hc.2.1 (brz lt_ti (fun _ => (s_told hc.2.1).v ((s_isGuarded hc.2.1 hc.2.2.1 (by omega)).u (fun y => br1 ⟨1, rfl, Or.inl ⟨rfl, allF_f (fun z => z ?_) (by omega)⟩, rfl⟩) (fun y => br0 ?_))) (fun z => by omega))
    · rw [hi] at y; exact y
    · rw [hi] at y
      rw [← allF_s (P := fun j : Nat => ¬ grd S (a1.toInt + j)) (k := k) y]
      exact ih (k + 1) _ (by omega) i1
theorem s_barred (hc : CB S tl I) (h1 : 0 ≤ a1.toInt ∧ a1.toInt ≤ 100000) (h2 : 0 ≤ a2.toInt ∧ a2.toInt ≤ 100000) : PB ((d + 2), 86, 0, [some (.ref 67), some (.int a1), some (.int a2), none], [], (xSH L dr tl, I, J)) (¬ freeP S a1.toInt a2.toInt) (xSH L dr tl, I, J) := w86_0 (grd_loop hc h1 h2 a2.toInt.toNat 0 a1 (by omega) (by omega))
theorem lat_b (hw : WF S) (ht : till ≤ 20000 ∧ 0 ≤ till) (hn : 1 ≤ n ∧ n ≤ 1000) (hpc : 1 ≤ pace) (hP : ∀ i : Nat, i < m → isP S l ((p + i : Nat) : Int)) (hm : m ≤ 64) : -2000 ≤ lat S l p pace till n m ∧ lat S l p pace till n m ≤ till - n + 1 := by
  have hh := hw.2.2.2.2.2.2.1
  induction m with
  | zero => show -2000 ≤ till - n + 1 ∧ till - n + 1 ≤ till - n + 1; omega
  | succ m ih =>
    have z1 := ih (fun i hi => hP i (by omega)) (by omega)
    have z2 := dH_b hw (hP m (by omega))
    have e : lat S l p pace till n (m + 1) = min (lat S l p pace till n m) (dH S l (p + m) - ((m : Int) / pace + 1)) := rfl
    have k1 : 0 ≤ (m : Int) / pace := Int.ediv_nonneg (by omega) (by omega)
    have k2 : (m : Int) / pace ≤ (m : Int) := Int.ediv_le_self _ (by omega)
    rw [e]; omega
theorem lat_loop (hc : CB S tl I) (h9 : sHr S ≤ 10000) (h2 : 0 ≤ a2.toInt) (h3 : a3.toInt < plc S a1.toInt) (h4 : 1 ≤ a4.toInt ∧ a4.toInt ≤ 64) (ht : 0 ≤ till ∧ till ≤ 20000) (hn' : 1 ≤ n ∧ n ≤ 1000) {N : Nat} (hN : (N : Int) = a3.toInt - a2.toInt + 1) : ∀ (m k : Nat) (c i : Int32), k + m = N → i.toInt = a2.toInt + k → c.toInt = lat S a1.toInt a2.toInt.toNat a4.toInt till n k → PI ((d + 7), 85, 18, [some (.ref 67), some (.int a1), some (.int a2), some (.int a3), some (.int a4), none, some (.int c), some (.int i)], [], (xSH L dr tl, I, J)) (lat S a1.toInt a2.toInt.toNat a4.toInt till n N) (xSH L dr tl, I, J) := by
  have pb := plc_le hc.1 a1.toInt
  have hh := hc.1.2.2.2.2.2.2.1
  intro m
  induction m with
  | zero =>
    intro k c i hk hi hcn
    have hk' : k = N := by omega
    subst hk'
    exact w85_18 (brz lt_ti (fun _ => ⟨c, rfl, hcn, rfl⟩) (fun z => by omega))
  | succ m ih =>
    intro k c i hk hi hcn
    have i1 : (i + 1).toInt = a2.toInt + ((k + 1 : Nat) : Int) := by rw [add1 (by omega) (by omega), hi]; omega
    have hP : isP S a1.toInt ((a2.toInt.toNat + k : Nat) : Int) := plc_isP.mpr ⟨by omega, by omega⟩
    have e7 : (i - a2).toInt = k := by rw [sub_ti (by omega) (by omega)]; omega
    have db := dH_b hc.1 hP
    have k1 : 0 ≤ (k : Int) / a4.toInt := Int.ediv_nonneg (by omega) (by omega)
    have k2 : (k : Int) / a4.toInt ≤ (k : Int) := Int.ediv_le_self _ (by omega)
    refine w85_18 (brz lt_ti (fun z => by omega) (fun _ => (s_dryHour hc h9 rfl (q := a2.toInt.toNat + k) (by omega) hP).u fun r2 g2 => (s_hoursFor (by omega) (by omega)).u fun r3 g3 => s_min.u fun r4 g4 => ih (k + 1) _ _ (by omega) i1 ?_))
    rw [e7] at g3
    rw [g4, hcn, sub_ti (by omega) (by omega), g2, g3]; rfl
theorem s_latest (hc : CB S tl I) (h9 : sHr S ≤ 10000) (h2 : isP S a1.toInt a2.toInt) (h3 : isP S a1.toInt a3.toInt) (le : a2.toInt ≤ a3.toInt) (h4 : 1 ≤ a4.toInt ∧ a4.toInt ≤ 64) (ht : 0 ≤ a5.toInt ∧ a5.toInt ≤ 20000) : PI ((d + 7), 85, 0, [some (.ref 67), some (.int a1), some (.int a2), some (.int a3), some (.int a4), some (.int a5), none, none], [], (xSH L dr tl, I, J)) (lat S a1.toInt a2.toInt.toNat a4.toInt a5.toInt ((a3.toInt - a2.toInt) / a4.toInt + 1) (a3.toInt - a2.toInt + 1).toNat) (xSH L dr tl, I, J) := by
  have b2 := isP_b hc.1 h2
  have b3 := isP_b hc.1 h3
  have e1 : (a3 - a2).toInt = a3.toInt - a2.toInt := sub_ti (by omega) (by omega)
  have k1 : 0 ≤ (a3.toInt - a2.toInt) / a4.toInt := Int.ediv_nonneg (by omega) (by omega)
  have k2 : (a3.toInt - a2.toInt) / a4.toInt ≤ a3.toInt - a2.toInt := Int.ediv_le_self _ (by omega)
  refine w85_0 ((s_hoursFor (by omega) (by omega)).u fun r1 g1 => ?_)
  rw [e1] at g1
  refine lat_loop hc h9 b2.2.2.1 (plc_isP.mp h3).2 h4 ht (by omega) (by omega) _ 0 _ a2 (Nat.zero_add _) (by omega) ?_
  show _ = a5.toInt - ((a3.toInt - a2.toInt) / a4.toInt + 1) + 1
  rw [add_ti (by rw [sub_ti (by omega) (by omega)]; show _ ≤ _ + (1 : Int); omega) (by rw [sub_ti (by omega) (by omega)]; show _ + (1 : Int) < _; omega), sub_ti (by omega) (by omega), g1]; rfl
theorem begin_loop (hc : CB S tl I) (hs : sHr S ≤ 10000) (h6 : 1 ≤ a6.toInt ∧ a6.toInt ≤ 1000) (hlat : ∀ B : Int, P B ↔ (B ≤ n ∧ freeP S B a6.toInt)) (hn : n < sHr S + 201) (K : ∀ x : Int32, isLast P (sHr S) x.toInt 201 → Q (some (.int x)) (xSH L dr tl, I, J)) : ∀ (m : Nat) (i : Int32), i.toInt - sHr S < m → -5000 ≤ i.toInt → i.toInt ≤ n → (∀ B : Int, i.toInt < B → B < sHr S + 201 → ¬ P B) → WP ((d + 3), 82, 23, [some (.ref 67), none, none, none, none, none, some (.int a6), some (.int i)], [], (xSH L dr tl, I, J)) Q := by
  have hh := hc.1.2.2.2.2.2.2.1.1
  intro m
  induction m with
  | zero =>
    intro i hi hlo hin hno
    refine w82_23 ((s_hour hc.2.2.2).u fun r1 g1 => brz lt_ti (fun _ => K (-1) (Or.inl ⟨rfl, fun B h1 h2 => hno B (by omega) h2⟩)) (fun z => by omega))
  | succ m ih =>
    intro i hi hlo hin hno
    refine w82_23 ((s_hour hc.2.2.2).u fun r1 g1 => brz lt_ti (fun _ => K (-1) (Or.inl ⟨rfl, fun B h1 h2 => hno B (by omega) h2⟩)) (fun z => (s_barred hc (by omega) (by omega)).u (fun y => br1 ?_) (fun y => br0 (K i (Or.inr ⟨(hlat _).mpr ⟨hin, Classical.byContradiction y⟩, by omega, by omega, hno⟩)))))
    have e1 : (i + (-1)).toInt = i.toInt - 1 := by rw [add_ti (by show _ ≤ i.toInt + (-1); omega) (by show i.toInt + (-1) < _; omega)]; show i.toInt + (-1) = _; omega
    refine ih _ (by omega) (by omega) (by omega) (fun B h1 h2 => ?_)
    by_cases e : B = i.toInt
    · rw [e, hlat]; exact fun z => y z.2
    · exact hno B (by omega) h2
theorem bar_loop (hc : CB S tl I) (hs : sHr S ≤ 10000) (h6 : 1 ≤ a6.toInt ∧ a6.toInt ≤ 1000) (hlat : ∀ B : Int, P B ↔ (B ≤ a7.toInt ∧ freeP S B a6.toInt)) (hn : a7.toInt < sHr S + 201) (K : ∀ x : Int32, x.toInt = (barF P (sHr S) a6.toInt 201).1 → Q (some (.int x)) (xSH L dr tl, I, J)) : ∀ (m k : Nat) (lb c i : Int32), k + m = 201 → i.toInt = sHr S + k → c.toInt = (barF P (sHr S) a6.toInt k).1 → (((barF P (sHr S) a6.toInt k).2 = -1 ∧ lb.toInt = -1) ∨ lb.toInt = sHr S + (barF P (sHr S) a6.toInt k).2) → (-1 ≤ (barF P (sHr S) a6.toInt k).2 ∧ (barF P (sHr S) a6.toInt k).2 ≤ 3000) → WP ((d + 3), 83, 38, [some (.ref 67), none, none, none, none, none, some (.int a6), some (.int a7), some (.int lb), some (.int c), some (.int i)], [], (xSH L dr tl, I, J)) Q := by
  have hh := hc.1.2.2.2.2.2.2.1.1
  have rest : ∀ (j k : Nat), a7.toInt < sHr S + k → barF P (sHr S) a6.toInt (k + j) = barF P (sHr S) a6.toInt k := by
    intro j
    induction j with
    | zero => intro k _; rfl
    | succ j ij =>
      intro k hk
      rw [show k + (j + 1) = (k + j) + 1 by omega, barF_n (fun z => by have := ((hlat _).mp z.1).1; omega)]
      exact ij k hk
  intro m
  induction m with
  | zero =>
    intro k lb c i hk hi hcn hlb hb
    have hk' : k = 201 := by omega
    subst hk'
    exact w83_38 (brz lt_ti (fun _ => K c hcn) (fun z => by omega))
  | succ m ih =>
    intro k lb c i hk hi hcn hlb hb
    have i1 : (i + 1).toInt = sHr S + ((k + 1 : Nat) : Int) := by rw [add1 (by omega) (by omega), hi]; omega
    have cb := barF_b (P := P) (n := a6.toInt) (s := sHr S) k
    refine w83_38 (brz lt_ti (fun z => K c ?_) (fun z => brz lt_ti (fun y => (s_barred hc (by omega) (by omega)).u (fun u => br1 ?_) (fun u => br0 ?_)) (fun y => ?_)))
    · have := rest (201 - k) k (by omega)
      rw [show k + (201 - k) = 201 by omega] at this
      rw [this]; exact hcn
    · have nb := barF_n (P := P) (n := a6.toInt) (s := sHr S) (k := k) (fun w => by have := ((hlat _).mp w.1).2; rw [hi] at u; exact u this)
      exact ih (k + 1) _ _ _ (by omega) i1 (by rw [nb]; exact hcn) (by rw [nb]; exact hlb) (by rw [nb]; exact hb)
    · have yb := barF_y (P := P) (n := a6.toInt) (s := sHr S) (k := k) ⟨(hlat _).mpr ⟨by omega, by rw [hi] at u; exact Classical.byContradiction u⟩, by omega⟩
      refine ih (k + 1) _ _ _ (by omega) i1 (by rw [yb, add1 (by omega) (by omega), hcn]) (Or.inr ?_) (by rw [yb]; dsimp only; omega)
      rw [yb]; dsimp only
      rw [sub_ti (by rw [addn (by omega) (by omega) (by omega) (by omega)]; show _ ≤ _ - (1 : Int); omega) (by rw [addn (by omega) (by omega) (by omega) (by omega)]; show _ - (1 : Int) < _; omega), addn (by omega) (by omega) (by omega) (by omega), hi]
      show sHr S + (k : Int) + a6.toInt - 1 = _
      omega
    · have nb := barF_n (P := P) (n := a6.toInt) (s := sHr S) (k := k) (fun w => by have := w.2; omega)
      exact ih (k + 1) _ _ _ (by omega) i1 (by rw [nb]; exact hcn) (by rw [nb]; exact hlb) (by rw [nb]; exact hb)
end FORGE
