/-! ===== book: the reference's draft ===== -/
def lim (a : Nat) : Nat := if a = 93 then 5 else if a = 95 then 6 else if a = 96 then 8 else if a = 99 then 12 else if a = 100 then 16 else if a = 101 then 192 else if a = 102 then 2 else if a = 103 then 1600 else if a = 105 ∨ a = 106 ∨ a = 107 then 8 else 0
def fre (j : Nat) : Prop := j = 2 ∨ j = 4 ∨ j = 5 ∨ j = 6 ∨ j = 9 ∨ j = 29 ∨ j = 31 ∨ j = 44 ∨ j = 46 ∨ j = 47 ∨ j = 51
/-- what a text's reading leaves as it was -/
def frB (I I1 : Nat → Nat → Int32) (J J1 : Nat → Nat → Int64) : Prop := (∀ a : Nat, a ≠ 71 → a ≠ 92 → a ≠ 97 → a ≠ 98 → a ≠ 104 → ∀ j : Nat, lim a ≤ j → I1 a j = I a j) ∧ (∀ j : Nat, ¬ fre j → I1 71 j = I 71 j) ∧ (∀ a : Nat, a ≠ 94 → J1 a = J a) ∧ ∀ j : Nat, 10 ≤ j → J1 94 j = J 94 j
def MD (B : aS) (I : Nat → Nat → Int32) (J : Nat → Nat → Int64) : Prop :=
  ((I 93 0).toInt = sNI B ∧ (I 93 2).toInt = sNL B ∧ (I 93 1).toInt = sNR B ∧ (I 93 3).toInt = sNW B ∧ (I 93 4).toInt = sNU B ∧ (I 102 0).toInt = sGE B ∧ (0 < sGE B → (I 102 1).toInt = sGF B)) ∧
  (∀ i : Nat, (i : Int) < sNI B → (I 95 i).toInt = B 2 i ∧ (J 94 i).toInt = nameN (fun k => B 4 (6 * i + k)) (B 3 i).toNat) ∧
  (∀ l : Nat, (l : Int) < sNL B → (I 96 l).toInt = B 5 l ∧ (I 97 l).toInt = B 26 l ∧ ∀ k : Nat, (k : Int) < B 5 l → (I 98 (64 * l + k)).toInt = B 25 (64 * l + k)) ∧
  (∀ r : Nat, (r : Int) < sNR B → (I 99 (3 * r)).toInt = B 6 r ∧ (I 99 (3 * r + 1)).toInt = B 7 r ∧ (I 99 (3 * r + 2)).toInt = B 8 r ∧ (J 94 (6 + r)).toInt = nameN (fun k => B 10 (6 * r + k)) (B 9 r).toNat) ∧
  (∀ w : Nat, (w : Int) < sNW B → (I 100 w).toInt = B 11 w ∧ ∀ k : Nat, (k : Int) < B 11 w → (I 101 (12 * w + k)).toInt = B 12 (12 * w + k)) ∧
  (∀ u : Nat, (u : Int) < sNU B → (I 105 u).toInt = B 13 (2 * u) ∧ (I 106 u).toInt = B 13 (2 * u + 1) ∧ (I 107 u).toInt = B 13 (2 * u + 2))
def SMo (t : Tp) (x : RX St) (I : Nat → Nat → Int32) (J : Nat → Nat → Int64) : Prop := match x with
  | .ok y => MR t y.1 I ∧ MC y.2.2 I ∧ MD y.2.1 I J
  | .error e => MZ e I
def nfI (f : Nat → Int) (v : Int) : Nat → Nat → Int
  | 0, _ => -1
  | m + 1, i => if f i = v then (i : Int) else nfI f v m (i + 1)
section MDRAFT
variable {t : Tp} {L d dr tl : Nat} {I I0 I1 I2 : Nat → Nat → Int32} {J J1 J2 : Nat → Nat → Int64} {a0 a1 a2 a3 a4 : Int32} {b2 : Int64} {s s' : Lx} {v o k l : Int} {R : (Nat → Nat → Int32) → (Nat → Nat → Int64) → Prop} {Q : Option Value → xMem → Prop} {x : RX Lx} {c : List Int} {B : aS} {e : Int × Int}
theorem frB_refl : frB I I J J := ⟨fun _ _ _ _ _ _ _ _ => rfl, fun _ _ => rfl, fun _ _ => rfl, fun _ _ => rfl⟩
theorem frB.tr (h : frB I I1 J J1) (h' : frB I1 I2 J1 J2) : frB I I2 J J2 := ⟨fun a g1 g2 g3 g4 g5 j hj => (h'.1 a g1 g2 g3 g4 g5 j hj).trans (h.1 a g1 g2 g3 g4 g5 j hj), fun j g => (h'.2.1 j g).trans (h.2.1 j g), fun a g => (h'.2.2.1 a g).trans (h.2.2.1 a g), fun j g => (h'.2.2.2 j g).trans (h.2.2.2 j g)⟩
theorem frX.toB (h : frX I I1) : frB I I1 J J := ⟨fun a g1 _ _ _ _ j _ => by rw [h.1 a g1], fun j g => h.2 j (fun z => g (by unfold fre; omega)) (fun z => g (by unfold fre; omega)) (fun z => g (by unfold fre; omega)) (fun z => g (by unfold fre; omega)) (fun z => g (by unfold fre; omega)), fun _ _ => rfl, fun _ _ => rfl⟩
theorem frNm.toB (h : frNm I I1) : frB I I1 J J := ⟨fun a g1 g2 _ _ _ j _ => by rw [h.1 a g1 g2], fun j g => h.2 j (fun z => g (by unfold fre; omega)) (fun z => g (by unfold fre; omega)) (fun z => g (by unfold fre; omega)) (fun z => g (by unfold fre; omega)) (fun z => g (by unfold fre; omega)) (fun z => g (by unfold fre; omega)) (fun z => g (by unfold fre; omega)), fun _ _ => rfl, fun _ _ => rfl⟩
theorem frS.toB (h : frS I I1) : frB I I1 J J := by
  refine ⟨fun a g1 g2 _ _ g5 j hj => ?_, fun j g => h.2.2 j (fun z => g (by unfold fre; omega)) (fun z => g (by unfold fre; omega)) (fun z => g (by unfold fre; omega)) (fun z => g (by unfold fre; omega)) (fun z => g (by unfold fre; omega)) (fun z => g (by unfold fre; omega)) (fun z => g (by unfold fre; omega)) (fun z => g (by unfold fre; omega)), fun _ _ => rfl, fun _ _ => rfl⟩
  by_cases e : a = 103
  · subst e
    exact h.2.1 j hj
  · rw [h.1 a g1 e g5]
theorem frB_w {a k : Nat} {z : Int32} (h : k < lim a ∨ a = 92 ∨ a = 97 ∨ a = 98 ∨ a = 104) (h71 : a ≠ 71) : frB I (xwI I a k z) J J := by
  refine ⟨fun a' g1 g2 g3 g4 g5 j hj => ?_, fun j _ => by rw [xwI_ne (fun z => h71 z.symm)], fun _ _ => rfl, fun _ _ => rfl⟩
  by_cases e : a' = a
  · subst e
    rw [xgn (by omega)]
  · rw [xwI_ne e]
theorem frB_71 {k : Nat} {z : Int32} (h : fre k) : frB I (xwI I 71 k z) J J := ⟨fun a g1 _ _ _ _ j _ => by rw [xwI_ne g1], fun j g => xgn (fun z => g (by rw [z]; exact h)), fun _ _ => rfl, fun _ _ => rfl⟩
theorem frB_J {k : Nat} {z : Int64} (h : k < 10) : frB I I J (xwJ J 94 k z) := ⟨fun _ _ _ _ _ _ _ _ => rfl, fun _ _ => rfl, fun a g => by funext j; unfold xwJ; rw [beqF g]; rfl, fun j g => jgn (by omega)⟩
theorem MT.fb (h : MT t I) (f : frB I I1 J J1) : MT t I1 := by
  refine ⟨h.1, by rw [f.2.1 3 (by unfold fre; omega)]; exact h.2.1, fun j hj => by rw [f.1 72 (by decide) (by decide) (by decide) (by decide) (by decide) j (Nat.zero_le _)]; exact h.2.2 j hj⟩
theorem lim_w {k : Nat} (h : k < 19) : lim (73 + k) = 0 := by unfold lim; rw [if_neg (by omega), if_neg (by omega), if_neg (by omega), if_neg (by omega), if_neg (by omega), if_neg (by omega), if_neg (by omega), if_neg (by omega), if_neg (by omega)]
theorem WA.fb (h : WA I) (f : frB I I1 J J1) : WA I1 := fun k hk j hj => by rw [f.1 (73 + k) (by omega) (by omega) (by omega) (by omega) (by omega) j (by rw [lim_w hk]; exact Nat.zero_le _)]; exact h k hk j hj
/-- the cells of the draft -/
def dcell (a : Nat) : Prop := a = 93 ∨ a = 95 ∨ a = 96 ∨ a = 97 ∨ a = 98 ∨ a = 99 ∨ a = 100 ∨ a = 101 ∨ a = 102 ∨ a = 105 ∨ a = 106 ∨ a = 107
theorem MD.f (h : MD B I J) (f : ∀ a : Nat, dcell a → I1 a = I a) : MD B I1 J := by
  unfold MD at *
  rw [f 93 (by unfold dcell; omega), f 95 (by unfold dcell; omega), f 96 (by unfold dcell; omega), f 97 (by unfold dcell; omega), f 98 (by unfold dcell; omega), f 99 (by unfold dcell; omega), f 100 (by unfold dcell; omega), f 101 (by unfold dcell; omega), f 102 (by unfold dcell; omega), f 105 (by unfold dcell; omega), f 106 (by unfold dcell; omega), f 107 (by unfold dcell; omega)]
  exact h
theorem MD.fx (h : MD B I J) (f : frX I I1) : MD B I1 J := h.f fun a g => f.1 a (by unfold dcell at g; omega)
theorem MD.fn (h : MD B I J) (f : frNm I I1) : MD B I1 J := h.f fun a g => f.1 a (by unfold dcell at g; omega) (by unfold dcell at g; omega)
theorem MD.fs (h : MD B I J) (f : frS I I1) : MD B I1 J := h.f fun a g => f.1 a (by unfold dcell at g; omega) (by unfold dcell at g; omega) (by unfold dcell at g; omega)
theorem MC.fx (h : MC c I) (f : frX I I1) : MC c I1 := by unfold MC at *; rw [f.1 103 (by decide), f.2 44 (by decide) (by decide) (by decide) (by decide) (by decide)]; exact h
theorem MC.fn (h : MC c I) (f : frNm I I1) : MC c I1 := by unfold MC at *; rw [f.1 103 (by decide) (by decide), f.2 44 (by decide) (by decide) (by decide) (by decide) (by decide) (by decide) (by decide)]; exact h
theorem name_inj {f g : Nat → Int} : ∀ n m : Nat, (∀ k : Nat, k < n → 1 ≤ f k ∧ f k ≤ 26) → (∀ k : Nat, k < m → 1 ≤ g k ∧ g k ≤ 26) → nameN f n = nameN g m → n = m ∧ ∀ k : Nat, k < n → f k = g k := by
  intro n
  induction n with
  | zero =>
    intro m hf hg e
    cases m with
    | zero => exact ⟨rfl, fun k hk => absurd hk (Nat.not_lt_zero _)⟩
    | succ m =>
      have b := (nameN_b m (fun k hk => hg k (by omega))).1
      have s := (nameN_s (hg m (by omega)) b).2.2
      have e0 : nameN f 0 = 0 := rfl
      omega
  | succ n ih =>
    intro m hf hg e
    have bn := (nameN_b n (fun k hk => hf k (by omega))).1
    have hn := hf n (by omega)
    cases m with
    | zero =>
      have s := (nameN_s hn bn).2.2
      have e0 : nameN g 0 = 0 := rfl
      omega
    | succ m =>
      have bm := (nameN_b m (fun k hk => hg k (by omega))).1
      have hm := hg m (by omega)
      have e1 : 27 * nameN f n + f n = 27 * nameN g m + g m := e
      obtain ⟨q1, q2⟩ := ih m (fun k hk => hf k (by omega)) (fun k hk => hg k (by omega)) (by omega)
      refine ⟨by omega, fun k hk => ?_⟩
      by_cases u : k = n
      · subst u
        have : f k = g m := by omega
        rw [this, q1]
      · exact q2 k (by omega)
theorem nf_fd {f : Nat → Int} {ln : Nat → Int} {lt : Nat → Nat → Int} {N : Nat} (k2 : kd t s = 2) (hl : ps t s ≤ qq t s + 6) (hs : s.1 ≤ t.2) (hv : v = nameN (ltr t (qq t s)) (ps t s - qq t s)) (hf : ∀ i : Nat, i < N → f i = nameN (lt i) (ln i).toNat ∧ (0 ≤ ln i ∧ ln i ≤ 6) ∧ ∀ k : Nat, (k : Int) < ln i → 1 ≤ lt i k ∧ lt i k ≤ 26) : ∀ m i : Nat, i + m = N → nfI f v m i = fdI t (qq t s : Int) (ps t s : Int) ln lt m i := by
  have lets := word_let k2
  have hle := ps_le (t := t) (s := s) hs
  have hpn := ps_n (t := t) (s := s) hs
  intro m
  induction m with
  | zero => intro i _; rfl
  | succ m ih =>
    intro i hi
    have E : fdI t (qq t s : Int) (ps t s : Int) ln lt (m + 1) i = @ite Int (spE t (qq t s : Int) (ps t s : Int) (ln i) (lt i)) (Classical.propDecidable _) (i : Int) (fdI t (qq t s : Int) (ps t s : Int) ln lt m (i + 1)) := rfl
    have E2 : nfI f v (m + 1) i = if f i = v then (i : Int) else nfI f v m (i + 1) := rfl
    obtain ⟨f1, f2, f3⟩ := hf i (by omega)
    have tbk : ∀ k : Nat, k < ps t s - qq t s → tb t ((qq t s : Int) + k) - 96 = ltr t (qq t s) k := by
      intro k hk
      have : ((qq t s : Int) + k) = ((qq t s + k : Nat) : Int) := by omega
      rw [this, tb_in (by omega)]
      rfl
    rw [E, E2]
    by_cases z : spE t (qq t s : Int) (ps t s : Int) (ln i) (lt i)
    · have z1 := z.1
      have en : (ln i).toNat = ps t s - qq t s := by omega
      have ef : f i = v := by
        rw [f1, hv, en]
        have : ∀ n : Nat, n ≤ ps t s - qq t s → nameN (lt i) n = nameN (ltr t (qq t s)) n := by
          intro n
          induction n with
          | zero => intro _; rfl
          | succ n ihn =>
            intro hn
            show 27 * nameN (lt i) n + lt i n = 27 * nameN (ltr t (qq t s)) n + ltr t (qq t s) n
            rw [ihn (by omega), z.2 n (by omega), tbk n (by omega)]
        exact this _ (Nat.le_refl _)
      rw [if_pos ef, if_pos z]
    · have nf : ¬ f i = v := by
        intro y
        rw [f1, hv] at y
        obtain ⟨q1, q2⟩ := name_inj _ _ (fun k hk => f3 k (by omega)) (fun k hk => lets k (by omega)) y
        refine z ⟨by omega, fun k hk => ?_⟩
        rw [q2 k (by omega), tbk k (by omega)]
        rfl
      rw [if_neg nf, if_neg z]
      exact ih (i + 1) (by omega)
end MDRAFT
