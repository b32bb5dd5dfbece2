/-! ===== when signs dry: the hours to come in closed form ===== -/
def pT (S : aS) (l : Int) (q : Nat) (r : Nat) : Prop := S 19 r = l ∧ S 20 r ≤ q ∧ looks S r q
/-- a reader passes a place in the coming hour -/
def passT (S : aS) (l : Int) (q : Nat) (r : Nat) : Prop := S 19 r = l ∧ S 20 r ≤ q ∧ (q : Int) < endP S r ∧ looks S r q
noncomputable def passB (S : aS) (l : Int) (q : Nat) (r : Nat) : Bool := @decide (passT S l q r) (Classical.propDecidable _)
def hIx (S : aS) (q r : Nat) : Int := (q - S 20 r) / S 6 r
noncomputable def seenH (S : aS) (l : Int) (q r : Nat) : Int := @ite Int (pT S l q r) (Classical.propDecidable _) (sHr S + hIx S q r + 1) 2147483647
noncomputable def cntH (S : aS) (l : Int) (q : Nat) (h : Int) : Int := cntB (fun r => decide (seenH S l q r ≤ h)) (sNR S).toNat
noncomputable def dFold (S : aS) (l : Int) (q : Nat) : Nat → Int
  | 0 => 2147483647
  | k + 1 => if seenH S l q k < dFold S l q k ∧ S 16 (slot l q) ≤ cntH S l q (seenH S l q k) then seenH S l q k else dFold S l q k
noncomputable def dH (S : aS) (l : Int) (q : Nat) : Int := if S 16 (slot l q) = 0 then sHr S else dFold S l q (sNR S).toNat
theorem slot_inj {l l' : Int} {p p' : Nat} (h1 : 0 ≤ l) (h2 : 0 ≤ l') (h3 : p < 64) (h4 : p' < 64) (e : slot l p = slot l' p') : l = l' ∧ p = p' := by unfold slot at e; omega
section DRY
variable {S T : aS} {r k q p m n : Nat} {l l' : Int}
theorem passB_t : passB S l q r = true ↔ passT S l q r := by unfold passB; exact @decide_eq_true_iff _ (Classical.propDecidable _)
theorem seen16 {x y : Nat} {t : Int} (h0 : 0 ≤ S 16 y) : seenS S x 1 t 16 y = if y = x then max 0 (S 16 y - 1) else S 16 y := by
  unfold seenS
  by_cases e : y = x
  · subst e
    rw [if_pos rfl]
    by_cases h : 0 < S 16 y
    · rw [if_pos h, ink16]
    · rw [if_neg h]; omega
  · rw [if_neg e]
    by_cases h : 0 < S 16 x
    · rw [if_pos h, ink16n e]
    · rw [if_neg h]
theorem goS_16 (h0 : 0 ≤ S 16 (slot l' q)) (hl : 0 ≤ l) (hl' : 0 ≤ l') (hq : q < 64) : ∀ m : Nat, p + m ≤ 64 → ((l' = l ∧ p ≤ q ∧ q < p + m ∧ looks S r q) → (goS S r l p m).1 16 (slot l' q) = max 0 (S 16 (slot l' q) - 1)) ∧ (¬ (l' = l ∧ p ≤ q ∧ q < p + m ∧ looks S r q) → (goS S r l p m).1 16 (slot l' q) = S 16 (slot l' q)) := by
  intro m
  induction m with
  | zero => intro _; exact ⟨fun z => by omega, fun _ => rfl⟩
  | succ m ih =>
    intro hm
    obtain ⟨i1, i2⟩ := ih (by omega)
    by_cases lk : looks S r (p + m : Nat)
    · rw [goS_y lk]
      dsimp only
      by_cases e : slot l' q = slot l (p + m : Nat)
      · obtain ⟨e1, e2⟩ := slot_inj hl' hl hq (by omega) e
        have g := i2 (fun z => by omega)
        rw [seen16 (by rw [g]; exact h0), if_pos e, g]
        refine ⟨fun _ => rfl, fun z => absurd ⟨e1, by omega, by omega, ?_⟩ z⟩
        rw [e2]; exact lk
      · have h0' : 0 ≤ (goS S r l p m).1 16 (slot l' q) := by
          by_cases c : (l' = l ∧ p ≤ q ∧ q < p + m ∧ looks S r q)
          · rw [i1 c]; omega
          · rw [i2 c]; exact h0
        rw [seen16 h0', if_neg e]
        have ne : ¬ (l' = l ∧ q = p + m) := fun z => e (by rw [z.1, z.2])
        exact ⟨fun z => i1 ⟨z.1, z.2.1, by have := z.1; omega, z.2.2.2⟩, fun z => i2 fun y => z ⟨y.1, y.2.1, by omega, y.2.2.2⟩⟩
    · rw [goS_n lk]
      refine ⟨fun z => i1 ⟨z.1, z.2.1, ?_, z.2.2.2⟩, fun z => i2 fun y => z ⟨y.1, y.2.1, by omega, y.2.2.2⟩⟩
      have : q ≠ p + m := fun e => lk (by rw [← e]; exact z.2.2.2)
      omega
theorem rdOn_16 (hw : WF S) (hr : (r : Int) < sNR S) (hP : isP S l q) : (passT S l q r → (rdOn S r).1 16 (slot l q) = max 0 (S 16 (slot l q) - 1)) ∧ (¬ passT S l q r → (rdOn S r).1 16 (slot l q) = S 16 (slot l q)) := by
  have hb := isP_b hw hP
  have h0 := (sign_b hw hP).2.2.1
  by_cases h1 : S 19 r = -1
  · have e : rdOn S r = (S, 0) := if_pos h1
    rw [e]
    exact ⟨fun z => by have := z.1; omega, fun _ => rfl⟩
  · have hq : isP S (S 19 r) (S 20 r) := (hw.2.2.2.2.2.2.2.2.1 r hr).elim (fun z => absurd z.1 h1) id
    have qb := isP_b hw hq
    have hp := hw.2.2.2.1.2.2 r hr
    have hl := hw.2.2.1.2.2 (S 19 r).toNat (by have := hq.1.2; omega)
    have e1 : endP S r ≤ S 5 (S 19 r).toNat := by unfold endP; omega
    have e2 : S 20 r ≤ endP S r := by unfold endP; omega
    obtain ⟨g1, g2⟩ := goS_16 (S := S) (r := r) (l := S 19 r) (l' := l) (q := q) (p := (S 20 r).toNat) h0 (by omega) (by omega) (by omega) (endP S r - S 20 r).toNat (by omega)
    have E : (rdOn S r).1 16 (slot l q) = (goS S r (S 19 r) (S 20 r).toNat (endP S r - S 20 r).toNat).1 16 (slot l q) := by
      unfold rdOn
      rw [if_neg h1]
      split <;> (dsimp only; rw [sit_f (by decide) (by decide)]; rfl)
    rw [E]
    exact ⟨fun z => g1 ⟨z.1.symm, by have := z.2.1; omega, by have := z.2.2.1; omega, z.2.2.2⟩, fun z => g2 fun y => z ⟨y.1.symm, by omega, by omega, y.2.2.2⟩⟩
theorem WF.seen {t : Int} (hw : WF S) (hP : isP S l q) : WF (seenS S (slot l q) 1 t) := by
  have hb := hw.2.2.2.2.2.2.2.1 l q hP
  unfold seenS
  by_cases h : 0 < S 16 (slot l q)
  · rw [if_pos h]; exact hw.inked ⟨hb.1, hb.2.1⟩ (by omega) (fun z => by have := hb.2.2.2.2.1 z; omega)
  · rw [if_neg h]; exact hw
theorem WF.went (hw : WF S) (hl : isL S l) : ∀ m : Nat, ((p + m : Nat) : Int) ≤ S 5 l.toNat → WF (goS S r l p m).1 := by
  intro m
  induction m with
  | zero => intro _; exact hw
  | succ m ih =>
    intro hm
    have h1 := ih (by omega)
    by_cases lk : looks S r (p + m : Nat)
    · rw [goS_y lk]
      have f0 := goS_f (S := S) (r := r) (l := l) (p := p) (f := 0) (by decide) (by decide) (by decide) m
      have f5 := goS_f (S := S) (r := r) (l := l) (p := p) (f := 5) (by decide) (by decide) (by decide) m
      exact h1.seen ((isP_c f0 f5 _ _).mpr ⟨hl, by omega, by omega⟩)
    · rw [goS_n lk]; exact h1
theorem WF.readOn (hw : WF S) (hr : (r : Int) < sNR S) : WF (rdOn S r).1 := by
  by_cases h1 : S 19 r = -1
  · have e : rdOn S r = (S, 0) := if_pos h1
    rw [e]; exact hw
  · have hq : isP S (S 19 r) (S 20 r) := (hw.2.2.2.2.2.2.2.2.1 r hr).elim (fun z => absurd z.1 h1) id
    have qb := isP_b hw hq
    have hp := hw.2.2.2.1.2.2 r hr
    have e1 : endP S r ≤ S 5 (S 19 r).toNat := by unfold endP; omega
    have e2 : S 20 r ≤ endP S r := by unfold endP; omega
    have g := hw.went (r := r) (p := (S 20 r).toNat) hq.1 (endP S r - S 20 r).toNat (by omega)
    unfold rdOn goE
    rw [if_neg h1]
    split
    · rename_i hlt
      dsimp only
      have f0 := goS_f (S := S) (r := r) (l := S 19 r) (p := (S 20 r).toNat) (f := 0) (by decide) (by decide) (by decide) (endP S r - S 20 r).toNat
      have f5 := goS_f (S := S) (r := r) (l := S 19 r) (p := (S 20 r).toNat) (f := 5) (by decide) (by decide) (by decide) (endP S r - S 20 r).toNat
      exact g.sits (Or.inr ((isP_c f0 f5 _ _).mpr ⟨hq.1, by omega, hlt⟩))
    · exact g.sits (Or.inl ⟨rfl, rfl⟩)
theorem WF.hrSd (hw : WF S) : ∀ k : Nat, (k : Int) ≤ sNR S → WF (hrS S k).1 := by
  intro k
  induction k with
  | zero => intro _; exact hw
  | succ k ih =>
    intro hk
    have f0 := hrS_f (S := S) (f := 0) (by decide) (by decide) (by decide) (by decide) (by decide) k
    exact (ih (by omega)).readOn (by unfold sNR; rw [f0]; show (k : Int) < sNR S; omega)
theorem WF.hourSd (hw : WF S) (h9 : sHr S < 20000) : WF (hourS S).1 := by
  have hN := hw.2.2.2.1.1
  have f0 := hrS_f (S := S) (f := 0) (by decide) (by decide) (by decide) (by decide) (by decide) (sNR S).toNat
  have e8 : sHr (hrS S (sNR S).toNat).1 = sHr S := by unfold sHr; rw [f0]
  have := (hw.hrSd (sNR S).toNat (by omega)).houred (by omega)
  rw [e8] at this
  exact this
theorem rdOn_seat (h : k ≠ r) : (rdOn S r).1 19 k = S 19 k ∧ (rdOn S r).1 20 k = S 20 k := by
  unfold rdOn
  split
  · exact ⟨rfl, rfl⟩
  · split
    · dsimp only
      rw [sit19n h, sit20n h]
      unfold goE
      rw [goS_f (f := 19) (by decide) (by decide) (by decide), goS_f (f := 20) (by decide) (by decide) (by decide)]; exact ⟨rfl, rfl⟩
    · dsimp only
      rw [sit19n h, sit20n h]
      unfold goE
      rw [goS_f (f := 19) (by decide) (by decide) (by decide), goS_f (f := 20) (by decide) (by decide) (by decide)]; exact ⟨rfl, rfl⟩
theorem hrS_seat : ∀ k : Nat, k ≤ r → (hrS S k).1 19 r = S 19 r ∧ (hrS S k).1 20 r = S 20 r := by
  intro k
  induction k with
  | zero => intro _; exact ⟨rfl, rfl⟩
  | succ k ih =>
    intro h
    have h1 := ih (by omega)
    have h2 := rdOn_seat (S := (hrS S k).1) (r := k) (k := r) (by omega)
    exact ⟨h2.1.trans h1.1, h2.2.trans h1.2⟩
theorem endP_c (h5 : T 5 = S 5) (h6 : T 6 = S 6) (h19 : T 19 r = S 19 r) (h20 : T 20 r = S 20 r) : endP T r = endP S r := by unfold endP; rw [h5, h6, h19, h20]
theorem passT_c (h0 : T 0 = S 0) (h5 : T 5 = S 5) (h6 : T 6 = S 6) (h7 : T 7 = S 7) (h19 : T 19 r = S 19 r) (h20 : T 20 r = S 20 r) : passT T l q r ↔ passT S l q r := by
  unfold passT
  rw [endP_c h5 h6 h19 h20, h19, h20, looks_c h7 h0]
theorem hrS_16 (hw0 : WF S) (hw : ∀ k : Nat, (k : Int) ≤ sNR S → WF (hrS S k).1) (hP : isP S l q) : ∀ k : Nat, (k : Int) ≤ sNR S → (hrS S k).1 16 (slot l q) = max 0 (S 16 (slot l q) - cntB (passB S l q) k) := by
  have h0 := (sign_b hw0 hP).2.2.1
  intro k
  induction k with
  | zero => intro _; show S 16 (slot l q) = max 0 (S 16 (slot l q) - 0); omega
  | succ k ih =>
    intro hk
    have i1 := ih (by omega)
    have F : ∀ {f : Nat}, f ≠ 15 → f ≠ 16 → f ≠ 17 → f ≠ 19 → f ≠ 20 → (hrS S k).1 f = S f := fun a b c d e => hrS_f a b c d e k
    have f0 := F (f := 0) (by decide) (by decide) (by decide) (by decide) (by decide)
    have f5 := F (f := 5) (by decide) (by decide) (by decide) (by decide) (by decide)
    have f6 := F (f := 6) (by decide) (by decide) (by decide) (by decide) (by decide)
    have f7 := F (f := 7) (by decide) (by decide) (by decide) (by decide) (by decide)
    obtain ⟨s1, s2⟩ := hrS_seat (S := S) (r := k) k (Nat.le_refl _)
    have pc := passT_c (T := (hrS S k).1) (S := S) (l := l) (q := q) (r := k) f0 f5 f6 f7 s1 s2
    have hr : (k : Int) < sNR (hrS S k).1 := by unfold sNR; rw [f0]; show (k : Int) < sNR S; omega
    have hP' : isP (hrS S k).1 l q := (isP_c f0 f5 _ _).mpr hP
    obtain ⟨g1, g2⟩ := rdOn_16 (hw k (by omega)) hr hP'
    have cb := cntB_b (passB S l q) k
    show (rdOn (hrS S k).1 k).1 16 (slot l q) = max 0 (S 16 (slot l q) - (cntB (passB S l q) k + (if passB S l q k = true then 1 else 0)))
    by_cases c : passT S l q k
    · rw [g1 (pc.mpr c), i1, if_pos (passB_t.mpr c)]; omega
    · rw [g2 (fun z => c (pc.mp z)), i1, if_neg (fun z => c (passB_t.mp z))]; omega
/-- the seat of a reader after a coming hour -/
theorem rdOn_own (hw : WF S) (hr : (r : Int) < sNR S) : ((S 19 r = -1 ∨ S 5 (S 19 r).toNat ≤ S 20 r + S 6 r) → (rdOn S r).1 19 r = -1 ∧ (rdOn S r).1 20 r = 0) ∧ (¬ (S 19 r = -1 ∨ S 5 (S 19 r).toNat ≤ S 20 r + S 6 r) → (rdOn S r).1 19 r = S 19 r ∧ (rdOn S r).1 20 r = S 20 r + S 6 r) := by
  by_cases h1 : S 19 r = -1
  · have e : rdOn S r = (S, 0) := if_pos h1
    have : (S 19 r = -1 ∧ S 20 r = 0) := (hw.2.2.2.2.2.2.2.2.1 r hr).elim id (fun z => by have := z.1.1; omega)
    rw [e]
    exact ⟨fun _ => this, fun z => absurd (Or.inl h1) z⟩
  · refine ⟨fun z => ?_, fun z => ?_⟩
    · have hle : S 5 (S 19 r).toNat ≤ S 20 r + S 6 r := z.elim (fun y => absurd y h1) id
      have : ¬ endP S r < S 5 (S 19 r).toNat := by unfold endP; omega
      have e : rdOn S r = (sit (goE S r).1 r (-1) 0, (goE S r).2) := by unfold rdOn; rw [if_neg h1, if_neg this]
      rw [e]
      exact ⟨sit19 (p := 0), sit20 (l := -1)⟩
    · have hlt : ¬ S 5 (S 19 r).toNat ≤ S 20 r + S 6 r := fun y => z (Or.inr y)
      have e0 : endP S r = S 20 r + S 6 r := by unfold endP; omega
      have : endP S r < S 5 (S 19 r).toNat := by omega
      have e : rdOn S r = (sit (goE S r).1 r (S 19 r) (endP S r), (goE S r).2) := by unfold rdOn; rw [if_neg h1, if_pos this]
      rw [e]
      exact ⟨sit19 (p := endP S r), (sit20 (l := S 19 r)).trans e0⟩
theorem hrS_seat2 : ∀ j k : Nat, r < k → (hrS S (k + j)).1 19 r = (hrS S k).1 19 r ∧ (hrS S (k + j)).1 20 r = (hrS S k).1 20 r := by
  intro j
  induction j with
  | zero => intro k _; exact ⟨rfl, rfl⟩
  | succ j ih =>
    intro k h
    have h1 := ih k h
    have h2 := rdOn_seat (S := (hrS S (k + j)).1) (r := k + j) (k := r) (by omega)
    exact ⟨h2.1.trans h1.1, h2.2.trans h1.2⟩
theorem hour_seat (hw : ∀ k : Nat, (k : Int) ≤ sNR S → WF (hrS S k).1) (hr : (r : Int) < sNR S) : ((S 19 r = -1 ∨ S 5 (S 19 r).toNat ≤ S 20 r + S 6 r) → (hourS S).1 19 r = -1 ∧ (hourS S).1 20 r = 0) ∧ (¬ (S 19 r = -1 ∨ S 5 (S 19 r).toNat ≤ S 20 r + S 6 r) → (hourS S).1 19 r = S 19 r ∧ (hourS S).1 20 r = S 20 r + S 6 r) := by
  have F : ∀ {f : Nat}, f ≠ 15 → f ≠ 16 → f ≠ 17 → f ≠ 19 → f ≠ 20 → (hrS S r).1 f = S f := fun a b c d e => hrS_f a b c d e r
  have f0 := F (f := 0) (by decide) (by decide) (by decide) (by decide) (by decide)
  have f5 := F (f := 5) (by decide) (by decide) (by decide) (by decide) (by decide)
  have f6 := F (f := 6) (by decide) (by decide) (by decide) (by decide) (by decide)
  obtain ⟨s1, s2⟩ := hrS_seat (S := S) (r := r) r (Nat.le_refl _)
  have own := rdOn_own (S := (hrS S r).1) (r := r) (hw r (by omega)) (by unfold sNR; rw [f0]; exact hr)
  rw [s1, s2, f5, f6] at own
  obtain ⟨t1, t2⟩ := hrS_seat2 (S := S) (r := r) ((sNR S).toNat - (r + 1)) (r + 1) (by omega)
  rw [show r + 1 + ((sNR S).toNat - (r + 1)) = (sNR S).toNat by omega] at t1 t2
  have E1 : (hourS S).1 19 r = (rdOn (hrS S r).1 r).1 19 r := t1
  have E2 : (hourS S).1 20 r = (rdOn (hrS S r).1 r).1 20 r := t2
  rw [E1, E2]
  exact own
theorem hour_f {f : Nat} (h0 : f ≠ 0) (h1 : f ≠ 15) (h2 : f ≠ 16) (h3 : f ≠ 17) (h4 : f ≠ 19) (h5 : f ≠ 20) : (hourS S).1 f = S f := by
  have : (hourS S).1 f = (hrS S (sNR S).toNat).1 f := by
    funext k
    unfold hourS sset
    dsimp only
    rw [if_neg (fun z => h0 z.1)]
  rw [this]; exact hrS_f h1 h2 h3 h4 h5 _
theorem hsS_f {f : Nat} (h0 : f ≠ 0) (h1 : f ≠ 15) (h2 : f ≠ 16) (h3 : f ≠ 17) (h4 : f ≠ 19) (h5 : f ≠ 20) : ∀ n : Nat, (hsS S n).1 f = S f := by
  intro n
  induction n with
  | zero => rfl
  | succ n ih => exact (hour_f h0 h1 h2 h3 h4 h5).trans ih
theorem WF.hsSd (hw : WF S) (h9 : sHr S ≤ 10000) : ∀ n : Nat, n ≤ 1000 → WF (hsS S n).1 := by
  intro n
  induction n with
  | zero => intro _; exact hw
  | succ n ih =>
    intro hn
    exact (ih (by omega)).hourSd (by rw [hsS_h]; omega)
theorem hsS_0 {k : Nat} (h : k ≠ 8) : ∀ n : Nat, (hsS S n).1 0 k = S 0 k := by
  intro n
  induction n with
  | zero => rfl
  | succ n ih => exact (hour_0 h).trans ih
end DRY
