/-! ===== book: sums and tests, as a text tells them ===== -/
abbrev RX (α : Type) : Type := Except (Int × Int) α
abbrev RL : Type := RX (Lx × List Int)
def bnd {α β : Type} (x : RX α) (f : α → RX β) : RX β := match x with
  | .ok a => f a
  | .error e => .error e
noncomputable def mkF (t : Tp) (m : Int) (s : Lx) : RX Lx := @ite _ (isMk t m s) (Classical.propDecidable _) (.ok (adv t s)) (.error (1, (qq t s : Int)))
noncomputable def owF (t : Tp) (w : Int) (s : Lx) : RX Lx := if ow t s = w then .ok (adv t s) else .error (1, (qq t s : Int))
def dvF (t : Tp) (q : Nat) : Nat → Int
  | 0 => 0
  | j + 1 => 10 * dvF t q j + (t.1 (q + j) - 48)
def numF (t : Tp) (lo hi : Int) (s : Lx) : RX (Lx × Int) := if kd t s ≠ 3 then .error (1, (qq t s : Int)) else if qq t s + 4 < ps t s then .error (1, ((qq t s + 4 : Nat) : Int)) else if dvF t (qq t s) (ps t s - qq t s) < lo ∨ hi < dvF t (qq t s) (ps t s - qq t s) then .error (2, (qq t s : Int)) else .ok (adv t s, dvF t (qq t s) (ps t s - qq t s))
noncomputable def pairF (t : Tp) (sf : Lx → RL) (op : Bool) (s : Lx) : RL := @ite _ (isMk t 40 s) (Classical.propDecidable _) (if op = true then bnd (sf (adv t s)) fun x => bnd (mkF t 44 x.1) fun s3 => bnd (sf s3) fun y => bnd (mkF t 41 y.1) fun s5 => .ok (s5, x.2 ++ y.2) else .error (4, (qq t s : Int))) (.error (1, (qq t s : Int)))
noncomputable def partF (t : Tp) (sf : Lx → RL) (op : Bool) (s : Lx) : RL := if ow t s = 14 then .ok (adv t s, [7]) else if ow t s = 2 then .ok (adv t s, [8]) else if ow t s = 15 then .ok (adv t s, [9]) else if ow t s = 16 then .ok (adv t s, [10]) else if ow t s = 17 then bnd (pairF t sf op (adv t s)) fun x => .ok (x.1, x.2 ++ [5]) else if ow t s = 18 then bnd (pairF t sf op (adv t s)) fun x => .ok (x.1, x.2 ++ [6]) else @ite _ (isMk t 40 s) (Classical.propDecidable _) (if op = true then bnd (sf (adv t s)) fun x => bnd (mkF t 41 x.1) fun s3 => .ok (s3, x.2) else .error (4, (qq t s : Int))) (bnd (numF t 0 9999 s) fun x => .ok (x.1, [1000 + x.2]))
noncomputable def loopM (t : Tp) (m1 m2 c1 c2 : Int) (f : Lx → RL) : Nat → Lx → List Int → RL
  | 0, s, c => .ok (s, c)
  | m + 1, s, c => @ite _ (isMk t m1 s) (Classical.propDecidable _) (bnd (f (adv t s)) fun x => loopM t m1 m2 c1 c2 f m x.1 (c ++ x.2 ++ [c1])) (@ite _ (isMk t m2 s) (Classical.propDecidable _) (bnd (f (adv t s)) fun x => loopM t m1 m2 c1 c2 f m x.1 (c ++ x.2 ++ [c2])) (.ok (s, c)))
noncomputable def loopT (t : Tp) (w cd : Int) (f : Lx → RL) : Nat → Lx → List Int → RL
  | 0, s, c => .ok (s, c)
  | m + 1, s, c => if ow t s = w then bnd (f (adv t s)) fun x => loopT t w cd f m x.1 (c ++ x.2 ++ [cd]) else .ok (s, c)
noncomputable def prodF (t : Tp) (pf : Lx → RL) (s : Lx) : RL := bnd (pf s) fun x => loopM t 42 47 3 4 pf 1600 x.1 x.2
noncomputable def sumX (t : Tp) (pf : Lx → RL) (s : Lx) : RL := bnd (pf s) fun x => loopM t 43 45 1 2 pf 1600 x.1 x.2
noncomputable def sumF (t : Tp) (pf : Lx → RL) (s : Lx) : RL := sumX t (prodF t pf) s
noncomputable def partO (t : Tp) (sO : Nat → Lx → RL) : Nat → Lx → RL
  | 0 => partF t (fun _ => .error (4, 0)) false
  | k + 1 => partF t (sO k) true
noncomputable def sumO (t : Tp) : Nat → Lx → RL
  | 0 => sumF t (partF t (fun _ => .error (4, 0)) false)
  | k + 1 => sumF t (partF t (sumO t k) true)
noncomputable def cmpF (t : Tp) (sf : Lx → RL) (x : Lx × List Int) (c : Int) : RL := bnd (sf (adv t x.1)) fun y => .ok (y.1, x.2 ++ y.2 ++ [c])
noncomputable def cmpA (t : Tp) (sf : Lx → RL) (x : Lx × List Int) : RL := @ite _ (isMk t 60 x.1) (Classical.propDecidable _) (cmpF t sf x 11) (@ite _ (isMk t 62 x.1) (Classical.propDecidable _) (cmpF t sf x 12) (@ite _ (isMk t 61 x.1) (Classical.propDecidable _) (cmpF t sf x 13) (.error (1, (qq t x.1 : Int)))))
noncomputable def factB (t : Tp) (sf nf tf : Lx → RL) (op : Bool) (s : Lx) : RL := if ow t s = 13 then .ok (adv t s, [17]) else if ow t s = 12 then (if op = true then bnd (nf (adv t s)) fun x => .ok (x.1, x.2 ++ [16]) else .error (4, (qq t s : Int))) else @ite _ (isMk t 91 s) (Classical.propDecidable _) (if op = true then bnd (tf (adv t s)) fun x => bnd (mkF t 93 x.1) fun s3 => .ok (s3, x.2) else .error (4, (qq t s : Int))) (bnd (sf s) fun x => cmpA t sf x)
noncomputable def bothF (t : Tp) (ff : Lx → RL) (s : Lx) : RL := bnd (ff s) fun x => loopT t 11 14 ff 1600 x.1 x.2
noncomputable def testX (t : Tp) (pf : Lx → RL) (s : Lx) : RL := bnd (pf s) fun x => loopT t 10 15 pf 1600 x.1 x.2
noncomputable def testF (t : Tp) (ff : Lx → RL) (s : Lx) : RL := testX t (bothF t ff) s
noncomputable def factO (t : Tp) : Nat → Lx → RL
  | 0 => factB t (sumO t 0) (fun _ => .error (4, 0)) (fun _ => .error (4, 0)) false
  | k + 1 => factB t (sumO t (k + 1)) (factO t k) (testF t (factO t k)) true
/-- what is read grows no faster than the text is taken -/
def lenOK (t : Tp) (f : Lx → RL) : Prop := ∀ (s s' : Lx) (c : List Int), s.1 ≤ t.2 → f s = .ok (s', c) → s'.1 ≤ t.2 ∧ c.length + s.1 ≤ s'.1
section GRAM
variable {t : Tp} {s s' : Lx} {c c0 : List Int} {f sf nf tf pf : Lx → RL} {op : Bool} {m1 m2 c1 c2 w cd : Int}
theorem bnd_ok {α β : Type} {x : RX α} {g : α → RX β} {y : β} (h : bnd x g = .ok y) : ∃ a : α, x = .ok a ∧ g a = .ok y := by
  cases x with
  | ok a => exact ⟨a, rfl, h⟩
  | error e => exact absurd h (by intro z; cases z)
theorem isMk_0 {m : Int} (h : isMk t m s) : kd t s ≠ 0 := by rw [h.1]; decide
theorem ow_2 (h : ow t s ≠ -1) : kd t s = 2 := by
  apply Classical.byContradiction
  intro z
  exact h (if_neg z)
theorem ow_0 (h : ow t s ≠ -1) : kd t s ≠ 0 := by rw [ow_2 h]; decide
theorem mkF_ok {m : Int} (hn : s.1 ≤ t.2) (h : mkF t m s = .ok s') : s'.1 ≤ t.2 ∧ s.1 + 1 ≤ s'.1 := by
  unfold mkF at h
  by_cases z : isMk t m s
  · rw [if_pos z] at h
    cases h
    exact ⟨adv_n hn, adv_gt (isMk_0 z)⟩
  · rw [if_neg z] at h; cases h
theorem numF_ok {lo hi v : Int} (hn : s.1 ≤ t.2) (h : numF t lo hi s = .ok (s', v)) : s'.1 ≤ t.2 ∧ s.1 + 1 ≤ s'.1 ∧ lo ≤ v ∧ v ≤ hi := by
  unfold numF at h
  by_cases z : kd t s ≠ 3
  · rw [if_pos z] at h; cases h
  · rw [if_neg z] at h
    split at h
    · cases h
    · split at h
      · cases h
      · rename_i y
        cases h
        exact ⟨adv_n hn, adv_gt (by omega), by omega, by omega⟩
theorem len_loopM (hf : lenOK t f) : ∀ (m : Nat) (s : Lx) (c : List Int) (p : Nat), s.1 ≤ t.2 → c.length + p ≤ s.1 → ∀ s' c', loopM t m1 m2 c1 c2 f m s c = .ok (s', c') → s'.1 ≤ t.2 ∧ c'.length + p ≤ s'.1 := by
  intro m
  induction m with
  | zero => intro s c p hn hc s' c' h; cases h; exact ⟨hn, hc⟩
  | succ m ih =>
    intro s c p hn hc s' c' h
    have E : loopM t m1 m2 c1 c2 f (m + 1) s c = @ite _ (isMk t m1 s) (Classical.propDecidable _) (bnd (f (adv t s)) fun x => loopM t m1 m2 c1 c2 f m x.1 (c ++ x.2 ++ [c1])) (@ite _ (isMk t m2 s) (Classical.propDecidable _) (bnd (f (adv t s)) fun x => loopM t m1 m2 c1 c2 f m x.1 (c ++ x.2 ++ [c2])) (.ok (s, c))) := rfl
    have step : ∀ cc : Int, kd t s ≠ 0 → (bnd (f (adv t s)) fun x => loopM t m1 m2 c1 c2 f m x.1 (c ++ x.2 ++ [cc])) = .ok (s', c') → s'.1 ≤ t.2 ∧ c'.length + p ≤ s'.1 := by
      intro cc k0 hb
      obtain ⟨x, hx, hy⟩ := bnd_ok hb
      have gt := adv_gt k0
      have l := hf _ x.1 x.2 (adv_n hn) hx
      refine ih x.1 _ p l.1 ?_ s' c' hy
      simp only [List.length_append, List.length_cons, List.length_nil]
      omega
    rw [E] at h
    by_cases z1 : isMk t m1 s
    · rw [if_pos z1] at h; exact step _ (isMk_0 z1) h
    · rw [if_neg z1] at h
      by_cases z2 : isMk t m2 s
      · rw [if_pos z2] at h; exact step _ (isMk_0 z2) h
      · rw [if_neg z2] at h; cases h; exact ⟨hn, hc⟩
theorem len_loopT (hw : w ≠ -1) (hf : lenOK t f) : ∀ (m : Nat) (s : Lx) (c : List Int) (p : Nat), s.1 ≤ t.2 → c.length + p ≤ s.1 → ∀ s' c', loopT t w cd f m s c = .ok (s', c') → s'.1 ≤ t.2 ∧ c'.length + p ≤ s'.1 := by
  intro m
  induction m with
  | zero => intro s c p hn hc s' c' h; cases h; exact ⟨hn, hc⟩
  | succ m ih =>
    intro s c p hn hc s' c' h
    have E : loopT t w cd f (m + 1) s c = if ow t s = w then bnd (f (adv t s)) fun x => loopT t w cd f m x.1 (c ++ x.2 ++ [cd]) else .ok (s, c) := rfl
    rw [E] at h
    by_cases z1 : ow t s = w
    · rw [if_pos z1] at h
      obtain ⟨x, hx, hy⟩ := bnd_ok h
      have gt := adv_gt (ow_0 (t := t) (s := s) (by rw [z1]; exact hw))
      have l := hf _ x.1 x.2 (adv_n hn) hx
      refine ih x.1 _ p l.1 ?_ s' c' hy
      simp only [List.length_append, List.length_cons, List.length_nil]
      omega
    · rw [if_neg z1] at h; cases h; exact ⟨hn, hc⟩
theorem len_prod (hf : lenOK t pf) : lenOK t (prodF t pf) := by
  intro s s' c hn h
  obtain ⟨x, hx, hy⟩ := bnd_ok h
  have l := hf _ x.1 x.2 hn hx
  exact len_loopM hf 1600 x.1 x.2 s.1 l.1 l.2 s' c hy
theorem len_sum (hf : lenOK t pf) : lenOK t (sumF t pf) := by
  intro s s' c hn h
  obtain ⟨x, hx, hy⟩ := bnd_ok h
  have l := len_prod hf _ x.1 x.2 hn hx
  exact len_loopM (len_prod hf) 1600 x.1 x.2 s.1 l.1 l.2 s' c hy
theorem len_both (hf : lenOK t f) : lenOK t (bothF t f) := by
  intro s s' c hn h
  obtain ⟨x, hx, hy⟩ := bnd_ok h
  have l := hf _ x.1 x.2 hn hx
  exact len_loopT (by decide) hf 1600 x.1 x.2 s.1 l.1 l.2 s' c hy
theorem len_test (hf : lenOK t f) : lenOK t (testF t f) := by
  intro s s' c hn h
  obtain ⟨x, hx, hy⟩ := bnd_ok h
  have l := len_both hf _ x.1 x.2 hn hx
  exact len_loopT (by decide) (len_both hf) 1600 x.1 x.2 s.1 l.1 l.2 s' c hy
theorem len_pair (hf : lenOK t sf) (hn : s.1 ≤ t.2) (h : pairF t sf op s = .ok (s', c)) : s'.1 ≤ t.2 ∧ c.length + s.1 ≤ s'.1 := by
  unfold pairF at h
  by_cases z : isMk t 40 s
  · rw [if_pos z] at h
    split at h
    · obtain ⟨x, hx, h⟩ := bnd_ok h
      obtain ⟨s3, h3, h⟩ := bnd_ok h
      obtain ⟨y, hy, h⟩ := bnd_ok h
      obtain ⟨s5, h5, h⟩ := bnd_ok h
      cases h
      have g := adv_gt (isMk_0 z)
      have l1 := hf _ x.1 x.2 (adv_n hn) hx
      have l3 := mkF_ok l1.1 h3
      have l4 := hf _ y.1 y.2 l3.1 hy
      have l5 := mkF_ok l4.1 h5
      simp only [List.length_append]
      omega
    · cases h
  · rw [if_neg z] at h; cases h
theorem len_part (hf : lenOK t sf) : lenOK t (partF t sf op) := by
  intro s s' c hn h
  have one : ∀ (k w : Int), w ≠ -1 → ow t s = w → (Except.ok (adv t s, [k]) : RL) = .ok (s', c) → s'.1 ≤ t.2 ∧ c.length + s.1 ≤ s'.1 := by
    intro k w hw e h
    cases h
    have g := adv_gt (ow_0 (t := t) (s := s) (by rw [e]; exact hw))
    refine ⟨adv_n hn, ?_⟩
    show 1 + s.1 ≤ _
    omega
  have two : ∀ (k w : Int), w ≠ -1 → ow t s = w → (bnd (pairF t sf op (adv t s)) fun x => (Except.ok (x.1, x.2 ++ [k]) : RL)) = .ok (s', c) → s'.1 ≤ t.2 ∧ c.length + s.1 ≤ s'.1 := by
    intro k w hw e h
    obtain ⟨x, hx, h⟩ := bnd_ok h
    cases h
    have g := adv_gt (ow_0 (t := t) (s := s) (by rw [e]; exact hw))
    have l := len_pair (s' := x.1) (c := x.2) hf (adv_n hn) hx
    refine ⟨l.1, ?_⟩
    simp only [List.length_append, List.length_cons, List.length_nil]
    omega
  unfold partF at h
  by_cases e1 : ow t s = 14
  · rw [if_pos e1] at h; exact one _ _ (by decide) e1 h
  rw [if_neg e1] at h
  by_cases e2 : ow t s = 2
  · rw [if_pos e2] at h; exact one _ _ (by decide) e2 h
  rw [if_neg e2] at h
  by_cases e3 : ow t s = 15
  · rw [if_pos e3] at h; exact one _ _ (by decide) e3 h
  rw [if_neg e3] at h
  by_cases e4 : ow t s = 16
  · rw [if_pos e4] at h; exact one _ _ (by decide) e4 h
  rw [if_neg e4] at h
  by_cases e5 : ow t s = 17
  · rw [if_pos e5] at h; exact two _ _ (by decide) e5 h
  rw [if_neg e5] at h
  by_cases e6 : ow t s = 18
  · rw [if_pos e6] at h; exact two _ _ (by decide) e6 h
  rw [if_neg e6] at h
  by_cases z : isMk t 40 s
  · rw [if_pos z] at h
    split at h
    · obtain ⟨x, hx, h⟩ := bnd_ok h
      obtain ⟨s3, h3, h⟩ := bnd_ok h
      cases h
      have g := adv_gt (isMk_0 z)
      have l1 := hf _ x.1 x.2 (adv_n hn) hx
      have l3 := mkF_ok l1.1 h3
      omega
    · cases h
  · rw [if_neg z] at h
    obtain ⟨x, hx, h⟩ := bnd_ok h
    cases h
    have l := numF_ok (s' := x.1) (v := x.2) hn hx
    refine ⟨l.1, ?_⟩
    show 1 + s.1 ≤ _
    omega
theorem len_err : lenOK t (fun _ => .error (4, 0)) := fun s s' c _ h => by cases h
theorem len_sumO : ∀ k : Nat, lenOK t (sumO t k) := by
  intro k
  induction k with
  | zero => exact len_sum (len_part len_err)
  | succ k ih => exact len_sum (len_part ih)
theorem len_fact (h1 : lenOK t sf) (h2 : lenOK t nf) (h3 : lenOK t tf) : lenOK t (factB t sf nf tf op) := by
  intro s s' c hn h
  unfold factB at h
  by_cases e1 : ow t s = 13
  · rw [if_pos e1] at h
    cases h
    have g := adv_gt (ow_0 (t := t) (s := s) (by rw [e1]; decide))
    refine ⟨adv_n hn, ?_⟩
    show 1 + s.1 ≤ _
    omega
  rw [if_neg e1] at h
  by_cases e2 : ow t s = 12
  · rw [if_pos e2] at h
    split at h
    · obtain ⟨x, hx, h⟩ := bnd_ok h
      cases h
      have g := adv_gt (ow_0 (t := t) (s := s) (by rw [e2]; decide))
      have l1 := h2 _ x.1 x.2 (adv_n hn) hx
      refine ⟨l1.1, ?_⟩
      simp only [List.length_append, List.length_cons, List.length_nil]
      omega
    · cases h
  rw [if_neg e2] at h
  by_cases z : isMk t 91 s
  · rw [if_pos z] at h
    split at h
    · obtain ⟨x, hx, h⟩ := bnd_ok h
      obtain ⟨s3, y3, h⟩ := bnd_ok h
      cases h
      have g := adv_gt (isMk_0 z)
      have l1 := h3 _ x.1 x.2 (adv_n hn) hx
      have l3 := mkF_ok l1.1 y3
      omega
    · cases h
  rw [if_neg z] at h
  obtain ⟨x, hx, h⟩ := bnd_ok h
  have l1 := h1 _ x.1 x.2 hn hx
  have cmp : ∀ k : Int, kd t x.1 ≠ 0 → cmpF t sf x k = .ok (s', c) → s'.1 ≤ t.2 ∧ c.length + s.1 ≤ s'.1 := by
    intro k k0 h
    obtain ⟨y, hy, h⟩ := bnd_ok h
    cases h
    have g := adv_gt k0
    have l2 := h1 _ y.1 y.2 (adv_n l1.1) hy
    refine ⟨l2.1, ?_⟩
    simp only [List.length_append, List.length_cons, List.length_nil]
    omega
  unfold cmpA at h
  by_cases y1 : isMk t 60 x.1
  · rw [if_pos y1] at h; exact cmp _ (isMk_0 y1) h
  rw [if_neg y1] at h
  by_cases y2 : isMk t 62 x.1
  · rw [if_pos y2] at h; exact cmp _ (isMk_0 y2) h
  rw [if_neg y2] at h
  by_cases y3 : isMk t 61 x.1
  · rw [if_pos y3] at h; exact cmp _ (isMk_0 y3) h
  rw [if_neg y3] at h
  cases h
theorem len_factO : ∀ k : Nat, lenOK t (factO t k) := by
  intro k
  induction k with
  | zero => exact len_fact (len_sumO 0) len_err len_err
  | succ k ih => exact len_fact (len_sumO (k + 1)) ih (len_test ih)
end GRAM
