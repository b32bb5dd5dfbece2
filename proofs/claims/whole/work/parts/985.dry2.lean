/-! ===== when signs dry: after n hours ===== -/
theorem div_iff {a b n : Int} (hb : 0 < b) : a / b = n ↔ n * b ≤ a ∧ a < n * b + b := by
  constructor
  · intro h
    subst h
    have h1 := Int.ediv_mul_le a (show b ≠ 0 by omega)
    have h2 := Int.lt_ediv_add_one_mul_self a hb
    rw [Int.add_mul, Int.one_mul] at h2
    exact ⟨h1, h2⟩
  · rintro ⟨h1, h2⟩
    have h3 : n ≤ a / b := Int.le_ediv_of_mul_le hb h1
    have h4 : a / b < n + 1 := Int.ediv_lt_of_lt_mul hb (by rw [Int.add_mul, Int.one_mul]; exact h2)
    omega
theorem cntB_add {f g h : Nat → Bool} : ∀ k : Nat, (∀ r, r < k → (h r = true ↔ f r = true ∨ g r = true) ∧ ¬ (f r = true ∧ g r = true)) → cntB f k + cntB g k = cntB h k := by
  intro k
  induction k with
  | zero => intro _; rfl
  | succ k ih =>
    intro H
    have h1 := ih (fun r hr => H r (by omega))
    obtain ⟨h2, h3⟩ := H k (by omega)
    simp only [cntB]
    by_cases a : f k = true
    · have b : ¬ g k = true := fun z => h3 ⟨a, z⟩
      rw [if_pos a, if_neg b, if_pos (h2.mpr (Or.inl a))]; omega
    · by_cases b : g k = true
      · rw [if_neg a, if_pos b, if_pos (h2.mpr (Or.inr b))]; omega
      · rw [if_neg a, if_neg b, if_neg (fun z => (h2.mp z).elim a b)]; omega
theorem cntB_mono {f g : Nat → Bool} : ∀ k : Nat, (∀ r, r < k → f r = true → g r = true) → cntB f k ≤ cntB g k := by
  intro k
  induction k with
  | zero => intro _; exact Int.le_refl _
  | succ k ih =>
    intro H
    have h1 := ih (fun r hr => H r (by omega))
    have h2 := H k (by omega)
    simp only [cntB]
    by_cases a : f k = true
    · rw [if_pos a, if_pos (h2 a)]; omega
    · rw [if_neg a]; split <;> omega
section DRY2
variable {S T : aS} {r k q p m : Nat} {l : Int}
theorem hs_seat (hw : WF S) (h9 : sHr S ≤ 10000) (hr : (r : Int) < sNR S) : ∀ n : Nat, n ≤ 1000 → ((S 19 r = -1 ∨ S 5 (S 19 r).toNat ≤ S 20 r + n * S 6 r) → (hsS S n).1 19 r = -1 ∧ (hsS S n).1 20 r = 0) ∧ (¬ (S 19 r = -1 ∨ S 5 (S 19 r).toNat ≤ S 20 r + n * S 6 r) → (hsS S n).1 19 r = S 19 r ∧ (hsS S n).1 20 r = S 20 r + n * S 6 r) := by
  have hp := hw.2.2.2.1.2.2 r hr
  intro n
  induction n with
  | zero =>
    intro _
    have e0 : S 20 r + ((0 : Nat) : Int) * S 6 r = S 20 r := by rw [show ((0 : Nat) : Int) = 0 from rfl, Int.zero_mul, Int.add_zero]
    rw [e0]
    rcases hw.2.2.2.2.2.2.2.2.1 r hr with z | z
    · exact ⟨fun _ => z, fun y => absurd (Or.inl z.1) y⟩
    · have := z.2.2
      have := z.1.1
      exact ⟨fun y => by omega, fun _ => ⟨rfl, rfl⟩⟩
  | succ n ih =>
    intro hn
    obtain ⟨i1, i2⟩ := ih (by omega)
    have wfn := hw.hsSd h9 n (by omega)
    have f5 := hsS_f (S := S) (f := 5) (by decide) (by decide) (by decide) (by decide) (by decide) (by decide) n
    have f6 := hsS_f (S := S) (f := 6) (by decide) (by decide) (by decide) (by decide) (by decide) (by decide) n
    have f3 : sNR (hsS S n).1 = sNR S := hsS_0 (by decide) n
    obtain ⟨g1, g2⟩ := hour_seat (S := (hsS S n).1) (r := r) (fun k hk => wfn.hrSd k hk) (by omega)
    rw [f5, f6] at g1 g2
    have em : ((n + 1 : Nat) : Int) * S 6 r = n * S 6 r + S 6 r := by rw [Int.natCast_add, Int.add_mul]; show _ + 1 * S 6 r = _; rw [Int.one_mul]
    rw [em]
    show (_ → (hourS (hsS S n).1).1 19 r = -1 ∧ (hourS (hsS S n).1).1 20 r = 0) ∧ (_ → (hourS (hsS S n).1).1 19 r = S 19 r ∧ (hourS (hsS S n).1).1 20 r = _)
    by_cases c : S 19 r = -1 ∨ S 5 (S 19 r).toNat ≤ S 20 r + n * S 6 r
    · obtain ⟨j1, j2⟩ := i1 c
      have k1 := g1 (Or.inl j1)
      exact ⟨fun _ => k1, fun z => absurd (c.elim Or.inl (fun y => Or.inr (by omega))) z⟩
    · obtain ⟨j1, j2⟩ := i2 c
      rw [j1, j2] at g1 g2
      have nm : ¬ S 19 r = -1 := fun z => c (Or.inl z)
      refine ⟨fun z => g1 (Or.inr ?_), fun z => ?_⟩
      · rcases z with z | z
        · exact absurd z nm
        · omega
      · have := g2 (fun y => z (y.elim Or.inl (fun x => Or.inr (by omega))))
        exact ⟨this.1, by rw [this.2]; omega⟩
theorem pass_iff (hw : WF S) (h9 : sHr S ≤ 10000) (hr : (r : Int) < sNR S) (hP : isP S l q) {n : Nat} (hn : n ≤ 1000) : passT (hsS S n).1 l q r ↔ pT S l q r ∧ hIx S q r = n := by
  have hp := hw.2.2.2.1.2.2 r hr
  have hb := isP_b hw hP
  have n0 : 0 ≤ (n : Int) * S 6 r := Int.mul_nonneg (by omega) (by omega)
  have f0 : ∀ {k : Nat}, k ≠ 8 → (hsS S n).1 0 k = S 0 k := fun h => hsS_0 h n
  have f5 := hsS_f (S := S) (f := 5) (by decide) (by decide) (by decide) (by decide) (by decide) (by decide) n
  have f6 := hsS_f (S := S) (f := 6) (by decide) (by decide) (by decide) (by decide) (by decide) (by decide) n
  have f7 := hsS_f (S := S) (f := 7) (by decide) (by decide) (by decide) (by decide) (by decide) (by decide) n
  have lk : looks (hsS S n).1 r q ↔ looks S r q := by unfold looks isRd sNR; rw [f7, f0 (by decide)]
  obtain ⟨i1, i2⟩ := hs_seat hw h9 hr n hn
  unfold passT pT hIx
  rw [lk, div_iff (by omega)]
  by_cases c : S 19 r = -1 ∨ S 5 (S 19 r).toNat ≤ S 20 r + n * S 6 r
  · obtain ⟨j1, j2⟩ := i1 c
    rw [j1]
    constructor
    · intro z; have := z.1; omega
    · rintro ⟨⟨z1, z2, z3⟩, z4, z5⟩
      rcases c with c | c
      · omega
      · rw [z1] at c; omega
  · obtain ⟨j1, j2⟩ := i2 c
    have ee : endP (hsS S n).1 r = min (S 20 r + n * S 6 r + S 6 r) (S 5 (S 19 r).toNat) := by unfold endP; rw [j1, j2, f5, f6]
    rw [j1, j2, ee]
    constructor
    · rintro ⟨z1, z2, z3, z4⟩
      exact ⟨⟨z1, by omega, z4⟩, by omega, by omega⟩
    · rintro ⟨⟨z1, z2, z3⟩, z4, z5⟩
      refine ⟨z1, by omega, ?_, z3⟩
      rw [z1]; omega
theorem hIx_b (hw : WF S) (hr : (r : Int) < sNR S) (hq : q < 64) (h : pT S l q r) (hs : 0 ≤ l) : 0 ≤ hIx S q r ∧ hIx S q r ≤ 63 := by
  have hp := hw.2.2.2.1.2.2 r hr
  have h1 := h.2.1
  have h2 := h.1
  have sb := seat_b hw hr
  unfold hIx
  have k1 : 0 ≤ ((q : Int) - S 20 r) / S 6 r := Int.ediv_nonneg (by omega) (by omega)
  have k2 : ((q : Int) - S 20 r) / S 6 r ≤ (q : Int) - S 20 r := Int.ediv_le_self _ (by omega)
  omega
theorem seenH_y (h : pT S l q r) : seenH S l q r = sHr S + hIx S q r + 1 := if_pos h
theorem seenH_n (h : ¬ pT S l q r) : seenH S l q r = 2147483647 := if_neg h
theorem seenH_le (hw : WF S) (h9 : sHr S ≤ 10000) (hr : (r : Int) < sNR S) (hq : q < 64) (hl : 0 ≤ l) {n : Nat} (hn : n ≤ 1000) : seenH S l q r ≤ sHr S + n ↔ pT S l q r ∧ hIx S q r < n := by
  by_cases c : pT S l q r
  · rw [seenH_y c]; exact ⟨fun z => ⟨c, by omega⟩, fun z => by omega⟩
  · rw [seenH_n c]; exact ⟨fun z => by omega, fun z => absurd z.1 c⟩
theorem hs_16 (hw : WF S) (h9 : sHr S ≤ 10000) (hP : isP S l q) : ∀ n : Nat, n ≤ 1000 → (hsS S n).1 16 (slot l q) = max 0 (S 16 (slot l q) - cntH S l q (sHr S + n)) := by
  have hb := isP_b hw hP
  have hN := hw.2.2.2.1
  have h0 := (sign_b hw hP).2.2.1
  intro n
  induction n with
  | zero =>
    intro _
    have : cntH S l q (sHr S + ((0 : Nat) : Int)) = 0 := by
      unfold cntH
      have h1 : cntB (fun r => decide (seenH S l q r ≤ sHr S + ((0 : Nat) : Int))) (sNR S).toNat ≤ cntB (fun _ => false) (sNR S).toNat := cntB_mono _ (fun r hr z => by
        have z' := (seenH_le hw h9 (r := r) (by omega) (by omega) (by omega) (n := 0) (by omega)).mp (of_decide_eq_true z)
        have := hIx_b hw (r := r) (by omega) (by omega) z'.1 (by omega)
        omega)
      have h2 : ∀ k : Nat, cntB (fun _ => false) k = 0 := by
        intro k
        induction k with
        | zero => rfl
        | succ k ih => simp only [cntB, ih]; rfl
      have h3 := cntB_b (fun r => decide (seenH S l q r ≤ sHr S + ((0 : Nat) : Int))) (sNR S).toNat
      rw [h2] at h1
      omega
    rw [this]
    show S 16 (slot l q) = _
    omega
  | succ n ih =>
    intro hn
    have i1 := ih (by omega)
    have wfn := hw.hsSd h9 n (by omega)
    have f5 := hsS_f (S := S) (f := 5) (by decide) (by decide) (by decide) (by decide) (by decide) (by decide) n
    have f3 : sNR (hsS S n).1 = sNR S := hsS_0 (by decide) n
    have f2 : (hsS S n).1 0 2 = S 0 2 := hsS_0 (by decide) n
    have hP' : isP (hsS S n).1 l q := (isP_f f5 f2).mpr hP
    have g := hrS_16 wfn (fun k hk => wfn.hrSd k hk) hP' (sNR (hsS S n).1).toNat (by omega)
    have E : (hsS S (n + 1)).1 16 (slot l q) = (hrS (hsS S n).1 (sNR (hsS S n).1).toNat).1 16 (slot l q) := rfl
    have add : cntH S l q (sHr S + n) + cntB (passB (hsS S n).1 l q) (sNR S).toNat = cntH S l q (sHr S + ((n + 1 : Nat) : Int)) := by
      unfold cntH
      refine cntB_add _ (fun r hr => ?_)
      rw [decide_eq_true_iff, decide_eq_true_iff, passB_t, pass_iff hw h9 (by omega) hP (by omega), seenH_le (S := S) (l := l) (q := q) (r := r) (n := n) hw h9 (by omega) (by omega) (by omega) (by omega), seenH_le (S := S) (l := l) (q := q) (r := r) (n := n + 1) hw h9 (by omega) (by omega) (by omega) hn]
      constructor
      · constructor
        · rintro ⟨z1, z2⟩
          by_cases y : hIx S q r < n
          · exact Or.inl ⟨z1, y⟩
          · exact Or.inr ⟨z1, by omega⟩
        · rintro (⟨z1, z2⟩ | ⟨z1, z2⟩)
          · exact ⟨z1, by omega⟩
          · exact ⟨z1, by omega⟩
      · rintro ⟨⟨_, z⟩, _, y⟩; omega
    rw [E, g, f3, i1]
    have c0 := cntB_b (passB (hsS S n).1 l q) (sNR S).toNat
    omega
/-- the hour in which a sign is dry -/
theorem dFold_le {h : Int} (hh : h < 2147483647) : ∀ k : Nat, dFold S l q k ≤ h ↔ ∃ r : Nat, r < k ∧ seenH S l q r ≤ h ∧ S 16 (slot l q) ≤ cntH S l q (seenH S l q r) := by
  intro k
  induction k with
  | zero => exact ⟨fun z => by have z' : (2147483647 : Int) ≤ h := z; omega, fun ⟨r, z, _⟩ => by omega⟩
  | succ k ih =>
    by_cases c : seenH S l q k < dFold S l q k ∧ S 16 (slot l q) ≤ cntH S l q (seenH S l q k)
    · have e : dFold S l q (k + 1) = seenH S l q k := if_pos c
      rw [e]
      constructor
      · intro z; exact ⟨k, by omega, z, c.2⟩
      · rintro ⟨r, z1, z2, z3⟩
        by_cases y : r = k
        · subst y; exact z2
        · have := ih.mpr ⟨r, by omega, z2, z3⟩; omega
    · have e : dFold S l q (k + 1) = dFold S l q k := if_neg c
      rw [e, ih]
      constructor
      · rintro ⟨r, z1, z2, z3⟩; exact ⟨r, by omega, z2, z3⟩
      · rintro ⟨r, z1, z2, z3⟩
        by_cases y : r = k
        · subst y
          have : dFold S l q r ≤ seenH S l q r := by
            apply Classical.byContradiction
            intro w; exact c ⟨by omega, z3⟩
          exact ih.mp (by omega)
        · exact ⟨r, by omega, z2, z3⟩
theorem last_seen {h : Int} : ∀ k : Nat, cntB (fun r => decide (seenH S l q r ≤ h)) k = 0 ∨ ∃ r : Nat, r < k ∧ seenH S l q r ≤ h ∧ ∀ r' : Nat, r' < k → seenH S l q r' ≤ h → seenH S l q r' ≤ seenH S l q r := by
  intro k
  induction k with
  | zero => exact Or.inl rfl
  | succ k ih =>
    by_cases c : seenH S l q k ≤ h
    · right
      rcases ih with i | ⟨r, i1, i2, i3⟩
      · refine ⟨k, by omega, c, fun r' h1 h2 => ?_⟩
        by_cases y : r' = k
        · rw [y]; exact Int.le_refl _
        · have : 0 < cntB (fun r => decide (seenH S l q r ≤ h)) k := by
            have : ∀ m : Nat, r' < m → 0 < cntB (fun r => decide (seenH S l q r ≤ h)) m := by
              intro m
              induction m with
              | zero => intro z; omega
              | succ m im =>
                intro z
                simp only [cntB]
                have b := cntB_b (fun r => decide (seenH S l q r ≤ h)) m
                by_cases e : r' = m
                · rw [if_pos (by rw [← e]; exact decide_eq_true h2)]; omega
                · have := im (by omega)
                  split <;> omega
            exact this k (by omega)
          omega
      · by_cases y : seenH S l q r ≤ seenH S l q k
        · refine ⟨k, by omega, c, fun r' h1 h2 => ?_⟩
          by_cases e : r' = k
          · rw [e]; exact Int.le_refl _
          · have := i3 r' (by omega) h2; omega
        · refine ⟨r, by omega, i2, fun r' h1 h2 => ?_⟩
          by_cases e : r' = k
          · rw [e]; omega
          · exact i3 r' (by omega) h2
    · rcases ih with i | ⟨r, i1, i2, i3⟩
      · left
        simp only [cntB]
        rw [i, if_neg (fun z => c (of_decide_eq_true z))]; rfl
      · right
        refine ⟨r, by omega, i2, fun r' h1 h2 => ?_⟩
        by_cases e : r' = k
        · rw [e] at h2; exact absurd h2 c
        · exact i3 r' (by omega) h2
theorem dH_iff (hw : WF S) (hP : isP S l q) {h : Int} (h1 : sHr S ≤ h) (h2 : h < 2147483647) : dH S l q ≤ h ↔ S 16 (slot l q) ≤ cntH S l q h := by
  have h0 := (sign_b hw hP).2.2.1
  have cb := cntB_b (fun r => decide (seenH S l q r ≤ h)) (sNR S).toNat
  unfold dH
  by_cases e : S 16 (slot l q) = 0
  · rw [if_pos e, e]
    exact ⟨fun _ => cb.1, fun _ => h1⟩
  · rw [if_neg e, dFold_le h2]
    constructor
    · rintro ⟨r, z1, z2, z3⟩
      refine Int.le_trans z3 (cntB_mono _ (fun r' hr' z => ?_))
      have := of_decide_eq_true z
      exact decide_eq_true (by omega)
    · intro z
      rcases last_seen (S := S) (l := l) (q := q) (h := h) (sNR S).toNat with y | ⟨r, y1, y2, y3⟩
      · have : cntH S l q h = 0 := y
        omega
      · refine ⟨r, y1, y2, Int.le_trans z (cntB_mono _ (fun r' hr' w => ?_))⟩
        exact decide_eq_true (y3 r' hr' (of_decide_eq_true w))
theorem dry_iff (hw : WF S) (h9 : sHr S ≤ 10000) (hP : isP S l q) {n : Nat} (hn : n ≤ 1000) : (hsS S n).1 16 (slot l q) = 0 ↔ dH S l q ≤ sHr S + n := by
  have h0 := (sign_b hw hP).2.2.1
  have hh := hw.2.2.2.2.2.2.1.1
  rw [hs_16 hw h9 hP n hn, dH_iff hw hP (by omega) (by omega)]
  omega
theorem dFold_v : ∀ k : Nat, dFold S l q k = 2147483647 ∨ ∃ r : Nat, r < k ∧ dFold S l q k = seenH S l q r := by
  intro k
  induction k with
  | zero => exact Or.inl rfl
  | succ k ih =>
    by_cases c : seenH S l q k < dFold S l q k ∧ S 16 (slot l q) ≤ cntH S l q (seenH S l q k)
    · exact Or.inr ⟨k, by omega, if_pos c⟩
    · have e : dFold S l q (k + 1) = dFold S l q k := if_neg c
      rcases ih with i | ⟨r, i1, i2⟩
      · exact Or.inl (e.trans i)
      · exact Or.inr ⟨r, by omega, e.trans i2⟩
theorem dH_b (hw : WF S) (hP : isP S l q) : dH S l q = 2147483647 ∨ (sHr S ≤ dH S l q ∧ dH S l q ≤ sHr S + 64) := by
  have hN := hw.2.2.2.1
  have hb := isP_b hw hP
  unfold dH
  by_cases e : S 16 (slot l q) = 0
  · rw [if_pos e]; right; omega
  · rw [if_neg e]
    rcases dFold_v (S := S) (l := l) (q := q) (sNR S).toNat with y | ⟨r, y1, y2⟩
    · exact Or.inl y
    · rw [y2]
      by_cases c : pT S l q r
      · right
        have := hIx_b hw (r := r) (by omega) (by omega) c (by omega)
        rw [seenH_y c]; omega
      · exact Or.inl (seenH_n c)
/-- somebody is reading -/
def reads (S : aS) : Prop := ∃ r : Nat, (r : Int) < sNR S ∧ S 19 r ≠ -1
theorem not_reads (hw : WF S) (h9 : sHr S ≤ 10000) {n : Nat} (h1 : 64 ≤ n) (hn : n ≤ 1000) : ¬ reads (hsS S n).1 := by
  rintro ⟨r, z1, z2⟩
  have f3 : sNR (hsS S n).1 = sNR S := hsS_0 (by decide) n
  have hr : (r : Int) < sNR S := by omega
  have hp := hw.2.2.2.1.2.2 r hr
  have sb := seat_b hw hr
  have n1 : (n : Int) * 1 ≤ (n : Int) * S 6 r := Int.mul_le_mul_of_nonneg_left (by omega) (by omega)
  refine z2 ((hs_seat hw h9 hr n hn).1 ?_).1
  by_cases c : S 19 r = -1
  · exact Or.inl c
  · have hq : isP S (S 19 r) (S 20 r) := (hw.2.2.2.2.2.2.2.2.1 r hr).elim (fun z => absurd z.1 c) id
    have hl := hw.2.2.1.2.2 (S 19 r).toNat (by have := hq.1.2; have := hq.1.1; omega)
    right; omega
/-- if a sign dries later on, somebody is reading now -/
theorem reads_of (hw : WF S) (h9 : sHr S ≤ 10000) (hP : isP S l q) {n : Nat} (hn : n ≤ 1000) (h1 : sHr S + n < dH S l q) (h2 : dH S l q < 2147483647) : reads (hsS S n).1 := by
  have f3 : sNR (hsS S n).1 = sNR S := hsS_0 (by decide) n
  have hN := hw.2.2.2.1
  have hb := isP_b hw hP
  unfold dH at h1 h2
  by_cases e : S 16 (slot l q) = 0
  · rw [if_pos e] at h1; omega
  · rw [if_neg e] at h1 h2
    rcases dFold_v (S := S) (l := l) (q := q) (sNR S).toNat with y | ⟨r, y1, y2⟩
    · omega
    · rw [y2] at h1 h2
      by_cases c : pT S l q r
      · rw [seenH_y c] at h1
        have hr : (r : Int) < sNR S := by omega
        have hp := hw.2.2.2.1.2.2 r hr
        refine ⟨r, by omega, fun z => ?_⟩
        have c2 := c.1
        have nn : ¬ (S 19 r = -1 ∨ S 5 (S 19 r).toNat ≤ S 20 r + n * S 6 r) := by
          rintro (w | w)
          · omega
          · have k1 : (n : Int) ≤ hIx S q r := by omega
            have k2 : (n : Int) * S 6 r ≤ hIx S q r * S 6 r := Int.mul_le_mul_of_nonneg_right k1 (by omega)
            have k3 : hIx S q r * S 6 r ≤ (q : Int) - S 20 r := Int.ediv_mul_le _ (by omega)
            rw [c2] at w; omega
        have := ((hs_seat hw h9 hr n hn).2 nn).1
        rw [this] at z; omega
      · rw [seenH_n c] at h2; omega
end DRY2
