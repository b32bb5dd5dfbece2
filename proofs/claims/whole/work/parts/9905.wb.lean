/-! ===== book: every draft is sound ===== -/
def tyL : List Int → List Bool → Option (List Bool)
  | [], st => some st
  | c :: y, st => match tyOp c st with
    | none => none
    | some st' => if st'.length ≤ 64 then tyL y st' else none
def tyOK (m : Nat) (b : Bool) (f : Lx → RL) : Prop := ∀ (s s' : Lx) (y : List Int), f s = .ok (s', y) → ∀ st : List Bool, st.length + m ≤ 64 → tyL y st = some (b :: st)
section TYL
variable {t : Tp} {s s' : Lx} {c y z : List Int} {f g sf nf tf pf : Lx → RL} {op b : Bool} {m1 m2 c1 c2 w cd : Int} {st st' : List Bool} {m n : Nat}
theorem tyRun_L {f : Nat → Int} : ∀ (y : List Int) (k : Nat) (st : List Bool), (∀ j : Nat, j < y.length → f (k + j) = y.getD j 0) → tyRun f k y.length st = tyL y st := by
  intro y
  induction y with
  | nil => intro k st _; rfl
  | cons c y ih =>
    intro k st h
    have h0 : f k = c := h 0 (by simp)
    show (match tyOp (f k) st with
      | none => none
      | some st' => if st'.length ≤ 64 then tyRun f (k + 1) y.length st' else none) = (match tyOp c st with
      | none => none
      | some st' => if st'.length ≤ 64 then tyL y st' else none)
    rw [h0]
    cases tyOp c st with
    | none => rfl
    | some st' =>
      show (if st'.length ≤ 64 then tyRun f (k + 1) y.length st' else none) = (if st'.length ≤ 64 then tyL y st' else none)
      rw [ih (k + 1) st' (fun j hj => ?_)]
      have := h (j + 1) (by simp; omega)
      rw [show k + 1 + j = k + (j + 1) by omega, this]
      rfl
theorem tyRun_c {f g : Nat → Int} : ∀ (n k : Nat) (st : List Bool), (∀ j : Nat, k ≤ j → j < k + n → f j = g j) → tyRun f k n st = tyRun g k n st := by
  intro n
  induction n with
  | zero => intro k st _; rfl
  | succ n ih =>
    intro k st h
    show (match tyOp (f k) st with
      | none => none
      | some st' => if st'.length ≤ 64 then tyRun f (k + 1) n st' else none) = (match tyOp (g k) st with
      | none => none
      | some st' => if st'.length ≤ 64 then tyRun g (k + 1) n st' else none)
    rw [h k (by omega) (by omega)]
    cases tyOp (g k) st with
    | none => rfl
    | some st' =>
      show (if st'.length ≤ 64 then tyRun f (k + 1) n st' else none) = (if st'.length ≤ 64 then tyRun g (k + 1) n st' else none)
      rw [ih (k + 1) st' (fun j h1 h2 => h j (by omega) (by omega))]
theorem tyL_a : ∀ (y : List Int) (st : List Bool), tyL y st = some st' → tyL (y ++ z) st = tyL z st' := by
  intro y
  induction y with
  | nil => intro st h; cases h; rfl
  | cons c y ih =>
    intro st h
    have E : ∀ y' : List Int, tyL (c :: y') st = (match tyOp c st with
      | none => none
      | some st' => if st'.length ≤ 64 then tyL y' st' else none) := fun _ => rfl
    show tyL (c :: (y ++ z)) st = _
    rw [E] at h ⊢
    cases ho : tyOp c st with
    | none => rw [ho] at h; cases h
    | some s1 =>
      rw [ho] at h
      have h' : (if s1.length ≤ 64 then tyL y s1 else none) = some st' := h
      show (if s1.length ≤ 64 then tyL (y ++ z) s1 else none) = _
      by_cases u : s1.length ≤ 64
      · rw [if_pos u] at h' ⊢; exact ih s1 h'
      · rw [if_neg u] at h'; cases h'
theorem tyL_1 {c : Int} (h : tyOp c st = some st') (hl : st'.length ≤ 64) : tyL [c] st = some st' := by
  show (match tyOp c st with
      | none => none
      | some st' => if st'.length ≤ 64 then tyL [] st' else none) = _
  rw [h]
  show (if st'.length ≤ 64 then some st' else none) = _
  rw [if_pos hl]
theorem op_bin {c : Int} (h : 1 ≤ c ∧ c ≤ 6) : tyOp c (false :: false :: st) = some (false :: st) := by
  unfold tyOp
  rw [if_neg (by omega), if_neg (by omega), if_neg (by omega), if_neg (by omega), if_pos h]
theorem op_cmp {c : Int} (h : 11 ≤ c ∧ c ≤ 13) : tyOp c (false :: false :: st) = some (true :: st) := by
  unfold tyOp
  rw [if_neg (by omega), if_neg (by omega), if_neg (by omega), if_neg (by omega), if_neg (by omega), if_pos h]
theorem op_tst {c : Int} (h : c = 14 ∨ c = 15) : tyOp c (true :: true :: st) = some (true :: st) := by
  unfold tyOp
  rw [if_neg (by omega), if_neg (by omega), if_neg (by omega), if_neg (by omega), if_neg (by omega), if_neg (by omega), if_pos h]
theorem op_giv {c : Int} (h : 7 ≤ c ∧ c ≤ 10) : tyOp c st = some (false :: st) := by
  unfold tyOp
  rw [if_neg (by omega), if_pos h]
theorem op_num {c : Int} (h : 1000 ≤ c ∧ c ≤ 10999) : tyOp c st = some (false :: st) := by
  unfold tyOp
  rw [if_pos h]
theorem ty_mono (h : tyOK m b f) (hm : m ≤ n) : tyOK n b f := fun s s' y e st hl => h s s' y e st (by omega)
theorem ty_err : tyOK m b (fun _ => .error (4, 0)) := fun s s' c h => by cases h
theorem ty_loopM (hf : tyOK m false f) (h1 : 1 ≤ c1 ∧ c1 ≤ 6) (h2 : 1 ≤ c2 ∧ c2 ≤ 6) : ∀ (k : Nat) (s : Lx) (c : List Int) (st : List Bool), st.length + (m + 1) ≤ 64 → tyL c st = some (false :: st) → ∀ s' c', loopM t m1 m2 c1 c2 f k s c = .ok (s', c') → tyL c' st = some (false :: st) := by
  intro k
  induction k with
  | zero => intro s c st _ hc s' c' h; cases h; exact hc
  | succ k ih =>
    intro s c st hl hc s' c' h
    have E : loopM t m1 m2 c1 c2 f (k + 1) s c = @ite _ (isMk t m1 s) (Classical.propDecidable _) (bnd (f (adv t s)) fun x => loopM t m1 m2 c1 c2 f k x.1 (c ++ x.2 ++ [c1])) (@ite _ (isMk t m2 s) (Classical.propDecidable _) (bnd (f (adv t s)) fun x => loopM t m1 m2 c1 c2 f k x.1 (c ++ x.2 ++ [c2])) (.ok (s, c))) := rfl
    have step : ∀ cc : Int, 1 ≤ cc ∧ cc ≤ 6 → (bnd (f (adv t s)) fun x => loopM t m1 m2 c1 c2 f k x.1 (c ++ x.2 ++ [cc])) = .ok (s', c') → tyL c' st = some (false :: st) := by
      intro cc hcc hb
      obtain ⟨x, hx, hy⟩ := bnd_ok hb
      refine ih x.1 _ st hl ?_ s' c' hy
      rw [List.append_assoc, tyL_a c st hc, tyL_a x.2 _ (hf _ x.1 x.2 hx (false :: st) (by simp; omega))]
      exact tyL_1 (op_bin hcc) (by simp; omega)
    rw [E] at h
    by_cases z1 : isMk t m1 s
    · rw [if_pos z1] at h; exact step _ h1 h
    · rw [if_neg z1] at h
      by_cases z2 : isMk t m2 s
      · rw [if_pos z2] at h; exact step _ h2 h
      · rw [if_neg z2] at h; cases h; exact hc
theorem ty_loopT (hf : tyOK m true f) (h1 : cd = 14 ∨ cd = 15) : ∀ (k : Nat) (s : Lx) (c : List Int) (st : List Bool), st.length + (m + 1) ≤ 64 → tyL c st = some (true :: st) → ∀ s' c', loopT t w cd f k s c = .ok (s', c') → tyL c' st = some (true :: st) := by
  intro k
  induction k with
  | zero => intro s c st _ hc s' c' h; cases h; exact hc
  | succ k ih =>
    intro s c st hl hc s' c' h
    have E : loopT t w cd f (k + 1) s c = if ow t s = w then bnd (f (adv t s)) fun x => loopT t w cd f k x.1 (c ++ x.2 ++ [cd]) else .ok (s, c) := rfl
    rw [E] at h
    by_cases z1 : ow t s = w
    · rw [if_pos z1] at h
      obtain ⟨x, hx, hy⟩ := bnd_ok h
      refine ih x.1 _ st hl ?_ s' c' hy
      rw [List.append_assoc, tyL_a c st hc, tyL_a x.2 _ (hf _ x.1 x.2 hx (true :: st) (by simp; omega))]
      exact tyL_1 (op_tst h1) (by simp; omega)
    · rw [if_neg z1] at h; cases h; exact hc
theorem ty_prod (hf : tyOK m false pf) : tyOK (m + 1) false (prodF t pf) := by
  intro s s' c h st hl
  obtain ⟨x, hx, hy⟩ := bnd_ok h
  exact ty_loopM hf (by decide) (by decide) 1600 x.1 x.2 st hl (hf _ x.1 x.2 hx st (by omega)) s' c hy
theorem ty_sum (hf : tyOK m false pf) : tyOK (m + 2) false (sumF t pf) := by
  intro s s' c h st hl
  obtain ⟨x, hx, hy⟩ := bnd_ok h
  exact ty_loopM (ty_prod hf) (by decide) (by decide) 1600 x.1 x.2 st hl (ty_prod hf _ x.1 x.2 hx st (by omega)) s' c hy
theorem ty_both (hf : tyOK m true f) : tyOK (m + 1) true (bothF t f) := by
  intro s s' c h st hl
  obtain ⟨x, hx, hy⟩ := bnd_ok h
  exact ty_loopT hf (by decide) 1600 x.1 x.2 st hl (hf _ x.1 x.2 hx st (by omega)) s' c hy
theorem ty_test (hf : tyOK m true f) : tyOK (m + 2) true (testF t f) := by
  intro s s' c h st hl
  obtain ⟨x, hx, hy⟩ := bnd_ok h
  exact ty_loopT (ty_both hf) (by decide) 1600 x.1 x.2 st hl (ty_both hf _ x.1 x.2 hx st (by omega)) s' c hy
theorem ty_pair (hf : tyOK m false sf) (h : pairF t sf op s = .ok (s', c)) (st : List Bool) (hl : st.length + (m + 1) ≤ 64) : tyL c st = some (false :: false :: st) := by
  unfold pairF at h
  by_cases z : isMk t 40 s
  · rw [if_pos z] at h
    split at h
    · obtain ⟨x, hx, h⟩ := bnd_ok h
      obtain ⟨s3, h3, h⟩ := bnd_ok h
      obtain ⟨y, hy, h⟩ := bnd_ok h
      obtain ⟨s5, h5, h⟩ := bnd_ok h
      cases h
      rw [tyL_a x.2 st (hf _ x.1 x.2 hx st (by omega))]
      exact hf _ y.1 y.2 hy (false :: st) (by simp; omega)
    · cases h
  · rw [if_neg z] at h; cases h
theorem ty_part (hf : tyOK m false sf) (hm : 1 ≤ m) : tyOK (m + 1) false (partF t sf op) := by
  intro s s' c h st hl
  have one : ∀ (k : Int), 7 ≤ k ∧ k ≤ 10 → (Except.ok (adv t s, [k]) : RL) = .ok (s', c) → tyL c st = some (false :: st) := by
    intro k hk h
    cases h
    exact tyL_1 (op_giv hk) (by simp; omega)
  have two : ∀ (k : Int), 1 ≤ k ∧ k ≤ 6 → (bnd (pairF t sf op (adv t s)) fun x => (Except.ok (x.1, x.2 ++ [k]) : RL)) = .ok (s', c) → tyL c st = some (false :: st) := by
    intro k hk h
    obtain ⟨x, hx, h⟩ := bnd_ok h
    cases h
    rw [tyL_a x.2 st (ty_pair (s' := x.1) (c := x.2) hf hx st hl)]
    exact tyL_1 (op_bin hk) (by simp; omega)
  unfold partF at h
  by_cases e1 : ow t s = 14
  · rw [if_pos e1] at h; exact one _ (by decide) h
  rw [if_neg e1] at h
  by_cases e2 : ow t s = 2
  · rw [if_pos e2] at h; exact one _ (by decide) h
  rw [if_neg e2] at h
  by_cases e3 : ow t s = 15
  · rw [if_pos e3] at h; exact one _ (by decide) h
  rw [if_neg e3] at h
  by_cases e4 : ow t s = 16
  · rw [if_pos e4] at h; exact one _ (by decide) h
  rw [if_neg e4] at h
  by_cases e5 : ow t s = 17
  · rw [if_pos e5] at h; exact two _ (by decide) h
  rw [if_neg e5] at h
  by_cases e6 : ow t s = 18
  · rw [if_pos e6] at h; exact two _ (by decide) h
  rw [if_neg e6] at h
  by_cases z : isMk t 40 s
  · rw [if_pos z] at h
    split at h
    · obtain ⟨x, hx, h⟩ := bnd_ok h
      obtain ⟨s3, h3, h⟩ := bnd_ok h
      cases h
      exact hf _ x.1 x.2 hx st (by omega)
    · cases h
  · rw [if_neg z] at h
    obtain ⟨x, hx, h⟩ := bnd_ok h
    cases h
    have nb : 0 ≤ x.2 ∧ x.2 ≤ 9999 := by
      unfold numF at hx
      split at hx
      · cases hx
      · split at hx
        · cases hx
        · split at hx
          · cases hx
          · rename_i y
            cases hx
            exact ⟨by omega, by omega⟩
    exact tyL_1 (op_num (by omega)) (by simp; omega)
theorem ty_sumO : ∀ k : Nat, tyOK (3 * k + 4) false (sumO t k) := by
  intro k
  induction k with
  | zero => exact ty_sum (ty_part (m := 1) ty_err (by decide))
  | succ k ih => exact ty_sum (ty_part ih (by omega))
theorem ty_fact (h1 : tyOK m false sf) (h2 : tyOK (m + 1) true nf) (h3 : tyOK (m + 1) true tf) : tyOK (m + 1) true (factB t sf nf tf op) := by
  intro s s' c h st hl
  unfold factB at h
  by_cases e1 : ow t s = 13
  · rw [if_pos e1] at h
    cases h
    exact tyL_1 (st' := true :: st) rfl (by simp; omega)
  rw [if_neg e1] at h
  by_cases e2 : ow t s = 12
  · rw [if_pos e2] at h
    split at h
    · obtain ⟨x, hx, h⟩ := bnd_ok h
      cases h
      rw [tyL_a x.2 st (h2 _ x.1 x.2 hx st hl)]
      exact tyL_1 (st' := true :: st) rfl (by simp; omega)
    · cases h
  rw [if_neg e2] at h
  by_cases z : isMk t 91 s
  · rw [if_pos z] at h
    split at h
    · obtain ⟨x, hx, h⟩ := bnd_ok h
      obtain ⟨s3, y3, h⟩ := bnd_ok h
      cases h
      exact h3 _ x.1 x.2 hx st hl
    · cases h
  rw [if_neg z] at h
  obtain ⟨x, hx, h⟩ := bnd_ok h
  have l1 := h1 _ x.1 x.2 hx st (by omega)
  have cmp : ∀ k : Int, 11 ≤ k ∧ k ≤ 13 → cmpF t sf x k = .ok (s', c) → tyL c st = some (true :: st) := by
    intro k hk h
    obtain ⟨y, hy, h⟩ := bnd_ok h
    cases h
    rw [List.append_assoc, tyL_a x.2 st l1, tyL_a y.2 _ (h1 _ y.1 y.2 hy (false :: st) (by simp; omega))]
    exact tyL_1 (op_cmp hk) (by simp; omega)
  unfold cmpA at h
  by_cases y1 : isMk t 60 x.1
  · rw [if_pos y1] at h; exact cmp _ (by decide) h
  rw [if_neg y1] at h
  by_cases y2 : isMk t 62 x.1
  · rw [if_pos y2] at h; exact cmp _ (by decide) h
  rw [if_neg y2] at h
  by_cases y3 : isMk t 61 x.1
  · rw [if_pos y3] at h; exact cmp _ (by decide) h
  rw [if_neg y3] at h
  cases h
theorem ty_factO : ∀ k : Nat, tyOK (3 * k + 5) true (factO t k) := by
  intro k
  induction k with
  | zero => exact ty_fact (ty_sumO 0) ty_err ty_err
  | succ k ih => exact ty_fact (ty_sumO (k + 1)) (ty_mono ih (by omega)) (ty_mono (ty_test ih) (by omega))
end TYL
/-- the bytes are bytes -/
def TB (t : Tp) : Prop := t.2 ≤ 1600 ∧ ∀ j : Nat, j < t.2 → 0 ≤ t.1 j ∧ t.1 j ≤ 255
section WBS
variable {t : Tp} {s s' s2 : Lx} {b : Bk} {B : aS} {c : List Int} {v v1 v2 v3 : Int}
theorem word_let (h : kd t s = 2) : ∀ k : Nat, qq t s + k < ps t s → 1 ≤ t.1 (qq t s + k) - 96 ∧ t.1 (qq t s + k) - 96 ≤ 26 := by
  intro k hk
  rw [(kd_2 h).2.1] at hk
  have := kA_2 (rE_in (t := t) (c := 2) (by decide) _ (by omega) hk)
  omega
theorem word_len (h : kd t s = 2) : qq t s + 1 ≤ ps t s := ps_lt (kd_lt (by rw [h]; decide))
theorem WB.ink {q r : Nat} (w : WB b) (lt : sNI b.1 < 6) (hv : 1 ≤ v ∧ v ≤ 20) (hr : q + 1 ≤ r ∧ r ≤ q + 6) (hl : ∀ k : Nat, q + k < r → 1 ≤ t.1 (q + k) - 96 ∧ t.1 (q + k) - 96 ≤ 26) : WB (bInk t b.1 q r v, b.2) := by
  obtain ⟨w1, w2, w3, w4, w5, w6⟩ := w
  have w1' := w1.1
  obtain ⟨N, hN⟩ : ∃ N : Nat, (N : Int) = sNI b.1 := ⟨(sNI b.1).toNat, by omega⟩
  have tn : (sNI b.1).toNat = N := by omega
  have nn : sNI (bInk t b.1 q r v) = sNI b.1 + 1 := rfl
  refine ⟨⟨by rw [nn]; omega, by rw [nn]; omega, fun i hi => ?_⟩, ⟨w2.1, w2.2.1, fun l hl => ?_⟩, w3, w4, w5, w6⟩
  · have hi' : (i : Int) < sNI b.1 + 1 := hi
    by_cases e : i = N
    · subst e
      have b2 : bInk t b.1 q r v 2 i = v := by
        show sset _ 2 (sNI b.1).toNat v 2 i = v
        rw [tn]; exact sg
      have b3 : bInk t b.1 q r v 3 i = (r : Int) - q := by
        show sset _ 3 (sNI b.1).toNat ((r : Int) - q) 3 i = _
        rw [tn]; exact sg
      show 1 ≤ bInk t b.1 q r v 2 i ∧ bInk t b.1 q r v 2 i ≤ 20 ∧ 1 ≤ bInk t b.1 q r v 3 i ∧ bInk t b.1 q r v 3 i ≤ 6 ∧ ∀ k : Nat, (k : Int) < bInk t b.1 q r v 3 i → 1 ≤ bInk t b.1 q r v 4 (6 * i + k) ∧ bInk t b.1 q r v 4 (6 * i + k) ≤ 26
      rw [b2, b3]
      refine ⟨hv.1, hv.2, by omega, by omega, fun k hk => ?_⟩
      have b4 : bInk t b.1 q r v 4 (6 * i + k) = t.1 (q + k) - 96 := by
        show sput b.1 4 (6 * (sNI b.1).toNat) (ltr t q) 4 (6 * i + k) = _
        rw [tn]; exact sput_i
      rw [b4]; exact hl k (by omega)
    · have lt' : (i : Int) < sNI b.1 := by omega
      have b2 : bInk t b.1 q r v 2 i = b.1 2 i := by
        show sset _ 2 (sNI b.1).toNat v 2 i = _
        rw [tn]; exact sgn e
      have b3 : bInk t b.1 q r v 3 i = b.1 3 i := by
        show sset _ 3 (sNI b.1).toNat ((r : Int) - q) 3 i = _
        rw [tn]; exact sgn e
      obtain ⟨y1, y2, y3, y4, y5⟩ := w1.2.2 i lt'
      show 1 ≤ bInk t b.1 q r v 2 i ∧ bInk t b.1 q r v 2 i ≤ 20 ∧ 1 ≤ bInk t b.1 q r v 3 i ∧ bInk t b.1 q r v 3 i ≤ 6 ∧ ∀ k : Nat, (k : Int) < bInk t b.1 q r v 3 i → 1 ≤ bInk t b.1 q r v 4 (6 * i + k) ∧ bInk t b.1 q r v 4 (6 * i + k) ≤ 26
      rw [b2, b3]
      refine ⟨y1, y2, y3, y4, fun k hk => ?_⟩
      have b4 : bInk t b.1 q r v 4 (6 * i + k) = b.1 4 (6 * i + k) := by
        show sput b.1 4 (6 * (sNI b.1).toNat) (ltr t q) 4 (6 * i + k) = _
        rw [tn]; exact sput_o (by omega)
      rw [b4]; exact y5 k hk
  · obtain ⟨y1, y2, y3, y4⟩ := w2.2.2 l hl
    refine ⟨y1, y2, ⟨y3.1, ?_⟩, y4⟩
    show b.1 26 l < sNI b.1 + 1
    omega
theorem WB.leaf {q r : Nat} (w : WB b) (lt : sNL b.1 < 8) (hv : 0 ≤ v ∧ v < sNI b.1) (hr : q + 1 ≤ r ∧ r ≤ q + 64) (hl : ∀ k : Nat, q + k < r → 1 ≤ t.1 (q + k) - 96 ∧ t.1 (q + k) - 96 ≤ 26) : WB (bLeaf t b.1 q r v, b.2) := by
  obtain ⟨w1, w2, w3, w4, w5, w6⟩ := w
  have w1' := w2.1
  obtain ⟨N, hN⟩ : ∃ N : Nat, (N : Int) = sNL b.1 := ⟨(sNL b.1).toNat, by omega⟩
  have tn : (sNL b.1).toNat = N := by omega
  have nn : sNL (bLeaf t b.1 q r v) = sNL b.1 + 1 := rfl
  refine ⟨w1, ⟨by rw [nn]; omega, by rw [nn]; omega, fun i hi => ?_⟩, w3, w4, w5, w6⟩
  have hi' : (i : Int) < sNL b.1 + 1 := hi
  show 1 ≤ bLeaf t b.1 q r v 5 i ∧ bLeaf t b.1 q r v 5 i ≤ 64 ∧ (0 ≤ bLeaf t b.1 q r v 26 i ∧ bLeaf t b.1 q r v 26 i < sNI b.1) ∧ ∀ k : Nat, (k : Int) < bLeaf t b.1 q r v 5 i → 1 ≤ bLeaf t b.1 q r v 25 (64 * i + k) ∧ bLeaf t b.1 q r v 25 (64 * i + k) ≤ 26
  by_cases e : i = N
  · subst e
    have b2 : bLeaf t b.1 q r v 26 i = v := by
      show sset _ 26 (sNL b.1).toNat v 26 i = v
      rw [tn]; exact sg
    have b3 : bLeaf t b.1 q r v 5 i = (r : Int) - q := by
      show sset _ 5 (sNL b.1).toNat ((r : Int) - q) 5 i = _
      rw [tn]; exact sg
    rw [b2, b3]
    refine ⟨by omega, by omega, hv, fun k hk => ?_⟩
    have b4 : bLeaf t b.1 q r v 25 (64 * i + k) = t.1 (q + k) - 96 := by
      show sput b.1 25 (64 * (sNL b.1).toNat) (ltr t q) 25 (64 * i + k) = _
      rw [tn]; exact sput_i
    rw [b4]; exact hl k (by omega)
  · have lt' : (i : Int) < sNL b.1 := by omega
    have b2 : bLeaf t b.1 q r v 26 i = b.1 26 i := by
      show sset _ 26 (sNL b.1).toNat v 26 i = _
      rw [tn]; exact sgn e
    have b3 : bLeaf t b.1 q r v 5 i = b.1 5 i := by
      show sset _ 5 (sNL b.1).toNat ((r : Int) - q) 5 i = _
      rw [tn]; exact sgn e
    obtain ⟨y1, y2, y3, y5⟩ := w2.2.2 i lt'
    rw [b2, b3]
    refine ⟨y1, y2, y3, fun k hk => ?_⟩
    have b4 : bLeaf t b.1 q r v 25 (64 * i + k) = b.1 25 (64 * i + k) := by
      show sput b.1 25 (64 * (sNL b.1).toNat) (ltr t q) 25 (64 * i + k) = _
      rw [tn]; exact sput_o (by omega)
    rw [b4]; exact y5 k hk
theorem WB.word {q r : Nat} (w : WB b) (lt : sNW b.1 < 16) (hr : q + 1 ≤ r ∧ r ≤ q + 12) (hl : ∀ k : Nat, q + k < r → 1 ≤ t.1 (q + k) - 96 ∧ t.1 (q + k) - 96 ≤ 26) : WB (bWd t b.1 q r, b.2) := by
  obtain ⟨w1, w2, w3, w4, w5, w6⟩ := w
  have w1' := w4.1
  obtain ⟨N, hN⟩ : ∃ N : Nat, (N : Int) = sNW b.1 := ⟨(sNW b.1).toNat, by omega⟩
  have tn : (sNW b.1).toNat = N := by omega
  have nn : sNW (bWd t b.1 q r) = sNW b.1 + 1 := rfl
  refine ⟨w1, w2, w3, ⟨by rw [nn]; omega, by rw [nn]; omega, fun i hi => ?_⟩, w5, w6⟩
  have hi' : (i : Int) < sNW b.1 + 1 := hi
  show 1 ≤ bWd t b.1 q r 11 i ∧ bWd t b.1 q r 11 i ≤ 12 ∧ ∀ k : Nat, (k : Int) < bWd t b.1 q r 11 i → 1 ≤ bWd t b.1 q r 12 (12 * i + k) ∧ bWd t b.1 q r 12 (12 * i + k) ≤ 26
  by_cases e : i = N
  · subst e
    have b3 : bWd t b.1 q r 11 i = (r : Int) - q := by
      show sset _ 11 (sNW b.1).toNat ((r : Int) - q) 11 i = _
      rw [tn]; exact sg
    rw [b3]
    refine ⟨by omega, by omega, fun k hk => ?_⟩
    have b4 : bWd t b.1 q r 12 (12 * i + k) = t.1 (q + k) - 96 := by
      show sput b.1 12 (12 * (sNW b.1).toNat) (ltr t q) 12 (12 * i + k) = _
      rw [tn]; exact sput_i
    rw [b4]; exact hl k (by omega)
  · have lt' : (i : Int) < sNW b.1 := by omega
    have b3 : bWd t b.1 q r 11 i = b.1 11 i := by
      show sset _ 11 (sNW b.1).toNat ((r : Int) - q) 11 i = _
      rw [tn]; exact sgn e
    obtain ⟨y1, y2, y5⟩ := w4.2.2 i lt'
    rw [b3]
    refine ⟨y1, y2, fun k hk => ?_⟩
    have b4 : bWd t b.1 q r 12 (12 * i + k) = b.1 12 (12 * i + k) := by
      show sput b.1 12 (12 * (sNW b.1).toNat) (ltr t q) 12 (12 * i + k) = _
      rw [tn]; exact sput_o (by omega)
    rw [b4]; exact y5 k hk
theorem WB.rdr {q r : Nat} (w : WB b) (lt : sNR b.1 < 4) (h1 : 1 ≤ v1 ∧ v1 ≤ 64) (h2 : 0 ≤ v2 ∧ v2 ≤ 9 ∧ v2 ≠ 1) (h3 : 0 ≤ v3 ∧ v3 ≤ 99) (hr : q + 1 ≤ r ∧ r ≤ q + 6) (hl : ∀ k : Nat, q + k < r → 1 ≤ t.1 (q + k) - 96 ∧ t.1 (q + k) - 96 ≤ 26) : WB (bRd t b.1 q r v1 v2 v3, b.2) := by
  obtain ⟨w1, w2, w3, w4, w5, w6⟩ := w
  have w1' := w3.1
  obtain ⟨N, hN⟩ : ∃ N : Nat, (N : Int) = sNR b.1 := ⟨(sNR b.1).toNat, by omega⟩
  have tn : (sNR b.1).toNat = N := by omega
  have nn : sNR (bRd t b.1 q r v1 v2 v3) = sNR b.1 + 1 := rfl
  refine ⟨w1, w2, ⟨by rw [nn]; omega, by rw [nn]; omega, fun i hi => ?_⟩, w4, w5, w6⟩
  have hi' : (i : Int) < sNR b.1 + 1 := hi
  show 1 ≤ bRd t b.1 q r v1 v2 v3 6 i ∧ bRd t b.1 q r v1 v2 v3 6 i ≤ 64 ∧ 0 ≤ bRd t b.1 q r v1 v2 v3 7 i ∧ bRd t b.1 q r v1 v2 v3 7 i ≤ 9 ∧ bRd t b.1 q r v1 v2 v3 7 i ≠ 1 ∧ 0 ≤ bRd t b.1 q r v1 v2 v3 8 i ∧ bRd t b.1 q r v1 v2 v3 8 i ≤ 99 ∧ 1 ≤ bRd t b.1 q r v1 v2 v3 9 i ∧ bRd t b.1 q r v1 v2 v3 9 i ≤ 6 ∧ ∀ k : Nat, (k : Int) < bRd t b.1 q r v1 v2 v3 9 i → 1 ≤ bRd t b.1 q r v1 v2 v3 10 (6 * i + k) ∧ bRd t b.1 q r v1 v2 v3 10 (6 * i + k) ≤ 26
  by_cases e : i = N
  · subst e
    have b6 : bRd t b.1 q r v1 v2 v3 6 i = v1 := by
      show sset _ 6 (sNR b.1).toNat v1 6 i = v1
      rw [tn]; exact sg
    have b7 : bRd t b.1 q r v1 v2 v3 7 i = v2 := by
      show sset _ 7 (sNR b.1).toNat v2 7 i = v2
      rw [tn]; exact sg
    have b8 : bRd t b.1 q r v1 v2 v3 8 i = v3 := by
      show sset _ 8 (sNR b.1).toNat v3 8 i = v3
      rw [tn]; exact sg
    have b9 : bRd t b.1 q r v1 v2 v3 9 i = (r : Int) - q := by
      show sset _ 9 (sNR b.1).toNat ((r : Int) - q) 9 i = _
      rw [tn]; exact sg
    rw [b6, b7, b8, b9]
    refine ⟨h1.1, h1.2, h2.1, h2.2.1, h2.2.2, h3.1, h3.2, by omega, by omega, fun k hk => ?_⟩
    have b4 : bRd t b.1 q r v1 v2 v3 10 (6 * i + k) = t.1 (q + k) - 96 := by
      show sput b.1 10 (6 * (sNR b.1).toNat) (ltr t q) 10 (6 * i + k) = _
      rw [tn]; exact sput_i
    rw [b4]; exact hl k (by omega)
  · have lt' : (i : Int) < sNR b.1 := by omega
    have b6 : bRd t b.1 q r v1 v2 v3 6 i = b.1 6 i := by
      show sset _ 6 (sNR b.1).toNat v1 6 i = _
      rw [tn]; exact sgn e
    have b7 : bRd t b.1 q r v1 v2 v3 7 i = b.1 7 i := by
      show sset _ 7 (sNR b.1).toNat v2 7 i = _
      rw [tn]; exact sgn e
    have b8 : bRd t b.1 q r v1 v2 v3 8 i = b.1 8 i := by
      show sset _ 8 (sNR b.1).toNat v3 8 i = _
      rw [tn]; exact sgn e
    have b9 : bRd t b.1 q r v1 v2 v3 9 i = b.1 9 i := by
      show sset _ 9 (sNR b.1).toNat ((r : Int) - q) 9 i = _
      rw [tn]; exact sgn e
    obtain ⟨y1, y2, y3, y4, y5, y6, y7, y8, y9, y10⟩ := w3.2.2 i lt'
    rw [b6, b7, b8, b9]
    refine ⟨y1, y2, y3, y4, y5, y6, y7, y8, y9, fun k hk => ?_⟩
    have b4 : bRd t b.1 q r v1 v2 v3 10 (6 * i + k) = b.1 10 (6 * i + k) := by
      show sput b.1 10 (6 * (sNR b.1).toNat) (ltr t q) 10 (6 * i + k) = _
      rw [tn]; exact sput_o (by omega)
    rw [b4]; exact y10 k hk
theorem gd_app {y1 y2 : List Int} {j : Nat} (h : j < y2.length) : (y1 ++ y2).getD (y1.length + j) 0 = y2.getD j 0 := by
  simp [List.getD, List.getElem?_append_right]
theorem WB.rule {y1 y2 : List Int} (w : WB b) (lt : sNU b.1 < 8) (hl : (b.2 ++ y1 ++ y2).length ≤ 1600) (t1 : tyL y1 [] = some [false]) (t2 : tyL y2 [] = some [true]) : WB (bRule b.1 b.2 y1 y2, b.2 ++ y1 ++ y2) := by
  obtain ⟨w1, w2, w3, w4, w5, w6⟩ := w
  obtain ⟨w60, w61, w62, w63, w64, w65⟩ := w6
  obtain ⟨N, hN⟩ : ∃ N : Nat, (N : Int) = sNU b.1 := ⟨(sNU b.1).toNat, by omega⟩
  have tn : (sNU b.1).toNat = N := by omega
  have nn : sNU (bRule b.1 b.2 y1 y2) = sNU b.1 + 1 := rfl
  have n1 : (sNU (bRule b.1 b.2 y1 y2)).toNat = N + 1 := by rw [nn]; omega
  have e14 : ∀ j : Nat, bRule b.1 b.2 y1 y2 14 j = (b.2 ++ y1 ++ y2).getD j 0 := by
    intro j
    show sput b.1 14 0 (fun k => (b.2 ++ y1 ++ y2).getD k 0) 14 j = _
    have := sput_i (S := b.1) (f := 14) (o := 0) (k := j) (g := fun k => (b.2 ++ y1 ++ y2).getD k 0)
    rw [Nat.zero_add] at this
    exact this
  have e2 : bRule b.1 b.2 y1 y2 13 (2 * N + 2) = ((b.2 ++ y1 ++ y2).length : Int) := by
    show sset _ 13 (2 * (sNU b.1).toNat + 2) _ 13 (2 * N + 2) = _
    rw [tn]; exact sg
  have e1 : bRule b.1 b.2 y1 y2 13 (2 * N + 1) = ((b.2 ++ y1).length : Int) := by
    show sset (sset _ 13 (2 * (sNU b.1).toNat + 1) _) 13 (2 * (sNU b.1).toNat + 2) _ 13 (2 * N + 1) = _
    rw [tn, sgn (by omega)]; exact sg
  have e0 : ∀ j : Nat, j ≤ 2 * N → bRule b.1 b.2 y1 y2 13 j = b.1 13 j := by
    intro j hj
    show sset (sset _ 13 (2 * (sNU b.1).toNat + 1) _) 13 (2 * (sNU b.1).toNat + 2) _ 13 j = _
    rw [tn, sgn (by omega), sgn (by omega)]; rfl
  have L1 : (b.2 ++ y1).length = b.2.length + y1.length := List.length_append
  have L2 : (b.2 ++ y1 ++ y2).length = b.2.length + y1.length + y2.length := by rw [List.length_append, L1]
  rw [tn] at w62
  refine ⟨w1, w2, w3, w4, w5, ⟨by rw [nn]; omega, by rw [nn]; omega⟩, ?_, ?_, hl, fun j hj => e14 j, fun u hu => ?_⟩
  · show bRule b.1 b.2 y1 y2 13 0 = 0
    rw [e0 0 (by omega)]; exact w61
  · rw [n1]; exact e2
  · have hu' : (u : Int) < sNU b.1 + 1 := hu
    show 0 ≤ bRule b.1 b.2 y1 y2 13 (2 * u) ∧ bRule b.1 b.2 y1 y2 13 (2 * u) ≤ bRule b.1 b.2 y1 y2 13 (2 * u + 1) ∧ bRule b.1 b.2 y1 y2 13 (2 * u + 1) ≤ bRule b.1 b.2 y1 y2 13 (2 * u + 2) ∧ bRule b.1 b.2 y1 y2 13 (2 * u + 2) ≤ ((b.2 ++ y1 ++ y2).length : Int) ∧
      tyRun (bRule b.1 b.2 y1 y2 14) (bRule b.1 b.2 y1 y2 13 (2 * u)).toNat (bRule b.1 b.2 y1 y2 13 (2 * u + 1) - bRule b.1 b.2 y1 y2 13 (2 * u)).toNat [] = some [false] ∧ tyRun (bRule b.1 b.2 y1 y2 14) (bRule b.1 b.2 y1 y2 13 (2 * u + 1)).toNat (bRule b.1 b.2 y1 y2 13 (2 * u + 2) - bRule b.1 b.2 y1 y2 13 (2 * u + 1)).toNat [] = some [true]
    by_cases e : u = N
    · subst e
      rw [e2, e1, e0 (2 * u) (by omega), w62]
      refine ⟨by omega, by omega, by omega, by omega, ?_, ?_⟩
      · rw [Int.toNat_natCast, show (((b.2 ++ y1).length : Int) - (b.2.length : Int)).toNat = y1.length by omega]
        rw [tyRun_L y1 b.2.length [] (fun j hj => ?_)]
        · exact t1
        · rw [e14, List.append_assoc, gd_app (by rw [List.length_append]; omega), gd_l hj]
      · rw [Int.toNat_natCast, show (((b.2 ++ y1 ++ y2).length : Int) - ((b.2 ++ y1).length : Int)).toNat = y2.length by omega]
        rw [tyRun_L y2 (b.2 ++ y1).length [] (fun j hj => ?_)]
        · exact t2
        · rw [e14, gd_app hj]
    · obtain ⟨q1, q2, q3, q4, q5, q6⟩ := w65 u (by omega)
      rw [e0 (2 * u) (by omega), e0 (2 * u + 1) (by omega), e0 (2 * u + 2) (by omega)]
      refine ⟨q1, q2, q3, by omega, ?_, ?_⟩
      · rw [tyRun_c (g := b.1 14) _ _ _ (fun j h1 h2 => ?_)]
        · exact q5
        · have hj : j < b.2.length := by omega
          rw [e14, List.append_assoc, gd_l hj, w64 j hj]
      · rw [tyRun_c (g := b.1 14) _ _ _ (fun j h1 h2 => ?_)]
        · exact q6
        · have hj : j < b.2.length := by omega
          rw [e14, List.append_assoc, gd_l hj, w64 j hj]
theorem fdI_b2 {a b' : Int} {ln : Nat → Int} {lt : Nat → Nat → Int} : ∀ m i : Nat, fdI t a b' ln lt m i = -1 ∨ ((i : Int) ≤ fdI t a b' ln lt m i ∧ fdI t a b' ln lt m i < ((i + m : Nat) : Int)) := by
  intro m
  induction m with
  | zero => intro i; exact Or.inl rfl
  | succ m ih =>
    intro i
    have E : fdI t a b' ln lt (m + 1) i = @ite Int (spE t a b' (ln i) (lt i)) (Classical.propDecidable _) (i : Int) (fdI t a b' ln lt m (i + 1)) := rfl
    rw [E]
    by_cases y : spE t a b' (ln i) (lt i)
    · rw [if_pos y]; omega
    · rw [if_neg y]
      rcases ih (i + 1) with h | h
      · exact Or.inl h
      · omega
/-- a statement read keeps the draft sound -/
theorem stm_wb {x : St} (hn : t.2 ≤ 1600) (w : WB b) (hs : s.1 ≤ t.2) (hc : b.2.length ≤ s.1) (h : stmF t b s = .ok x) : WB x.2 ∧ x.1.1 ≤ t.2 ∧ x.2.2.length ≤ x.1.1 := by
  have W := w
  obtain ⟨w1, w2, w3, w4, w5, w6⟩ := W
  have as := adv_n (t := t) (s := s) hs
  have ge := adv_ge (t := t) (s := s) hs
  unfold stmF at h
  by_cases k0 : ow t s = 0
  · rw [if_pos k0] at h
    unfold inkF at h
    obtain ⟨s1, h1, h⟩ := bnd_ok h
    obtain ⟨s2, h2, h⟩ := bnd_ok h
    obtain ⟨s4, h4, h⟩ := bnd_ok h
    obtain ⟨y, hy, h⟩ := bnd_ok h
    cases h
    obtain ⟨rfl, o1⟩ := opn_ok h1
    obtain ⟨rfl, q2, q3, q4, -, -⟩ := chW_ok h2
    obtain ⟨rfl, o4⟩ := owF_ok h4
    have a2 := adv_n (t := t) (s := adv t s) as
    have a3 := adv_n (t := t) (s := adv t (adv t s)) a2
    have g2 := adv_ge (t := t) (s := adv t s) as
    have g3 := adv_ge (t := t) (s := adv t (adv t s)) a2
    obtain ⟨n1, n2, n3, n4⟩ := numF_ok (s' := y.1) (v := y.2) a3 hy
    exact ⟨WB.ink w (by omega) ⟨n3, n4⟩ ⟨word_len q2, q3⟩ (word_let q2), n1, by show b.2.length ≤ y.1.1; omega⟩
  rw [if_neg k0] at h
  by_cases k2 : ow t s = 2
  · rw [if_pos k2] at h
    unfold leafF at h
    obtain ⟨s1, h1, h⟩ := bnd_ok h
    obtain ⟨s2, h2, h⟩ := bnd_ok h
    obtain ⟨s4, h4, h⟩ := bnd_ok h
    obtain ⟨s5, h5, h⟩ := bnd_ok h
    obtain ⟨rfl, o1⟩ := opn_ok h1
    obtain ⟨rfl, q2, q3⟩ := chS_ok h2
    obtain ⟨rfl, o4⟩ := owF_ok h4
    obtain ⟨rfl, r2, r3, r4⟩ := chN_ok h5
    have a2 := adv_n (t := t) (s := adv t s) as
    have a3 := adv_n (t := t) (s := adv t (adv t s)) a2
    have a4 := adv_n (t := t) (s := adv t (adv t (adv t s))) a3
    have g2 := adv_ge (t := t) (s := adv t s) as
    have g3 := adv_ge (t := t) (s := adv t (adv t s)) a2
    have g4 := adv_ge (t := t) (s := adv t (adv t (adv t s))) a3
    unfold lfI at h
    split at h
    · cases h
    · rename_i z
      cases h
      have fb := fdI_b2 (t := t) (a := (qq t (adv t (adv t (adv t s))) : Int)) (b' := (ps t (adv t (adv t (adv t s))) : Int)) (ln := b.1 3) (lt := fun i k => b.1 4 (6 * i + k)) (sNI b.1).toNat 0
      have fb' : fdK t b.1 (adv t (adv t (adv t s))) = -1 ∨ (((0 : Nat) : Int) ≤ fdK t b.1 (adv t (adv t (adv t s))) ∧ fdK t b.1 (adv t (adv t (adv t s))) < ((0 + (sNI b.1).toNat : Nat) : Int)) := fb
      exact ⟨WB.leaf w (by omega) (by omega) ⟨word_len q2, q3⟩ (word_let q2), a4, by show b.2.length ≤ (adv t (adv t (adv t (adv t s)))).1; omega⟩
  rw [if_neg k2] at h
  by_cases k3 : ow t s = 3
  · rw [if_pos k3] at h
    unfold readF at h
    obtain ⟨s1, h1, h⟩ := bnd_ok h
    obtain ⟨s2, h2, h⟩ := bnd_ok h
    obtain ⟨s4, h4, h⟩ := bnd_ok h
    obtain ⟨y6, h6, h⟩ := bnd_ok h
    obtain ⟨s7, h7, h⟩ := bnd_ok h
    obtain ⟨y8, h8, h⟩ := bnd_ok h
    obtain ⟨s9, h9, h⟩ := bnd_ok h
    obtain ⟨s10, h10, h⟩ := bnd_ok h
    obtain ⟨y, hy, h⟩ := bnd_ok h
    cases h
    obtain ⟨rfl, o1⟩ := opn_ok h1
    obtain ⟨rfl, q2, q3, q4, -, -⟩ := chW_ok h2
    obtain ⟨rfl, o4⟩ := owF_ok h4
    obtain ⟨rfl, o7⟩ := owF_ok h7
    obtain ⟨rfl, o10⟩ := owF_ok h10
    have a2 := adv_n (t := t) (s := adv t s) as
    have a3 := adv_n (t := t) (s := adv t (adv t s)) a2
    have g2 := adv_ge (t := t) (s := adv t s) as
    have g3 := adv_ge (t := t) (s := adv t (adv t s)) a2
    obtain ⟨n1, n2, n3, n4⟩ := numF_ok (s' := y6.1) (v := y6.2) a3 h6
    have a7 := adv_n (t := t) (s := y6.1) n1
    have g7 := adv_ge (t := t) (s := y6.1) n1
    obtain ⟨m1, m2, m3, m4⟩ := numF_ok (s' := y8.1) (v := y8.2) a7 h8
    unfold skF at h9
    split at h9
    · cases h9
    · rename_i z
      cases h9
      have a9 := adv_n (t := t) (s := y8.1) m1
      have g9 := adv_ge (t := t) (s := y8.1) m1
      obtain ⟨p1, p2, p3, p4⟩ := numF_ok (s' := y.1) (v := y.2) a9 hy
      exact ⟨WB.rdr w (by omega) ⟨n3, n4⟩ ⟨m3, m4, z⟩ ⟨p3, p4⟩ ⟨word_len q2, q3⟩ (word_let q2), p1, by show b.2.length ≤ y.1.1; omega⟩
  rw [if_neg k3] at h
  by_cases k1 : ow t s = 1
  · rw [if_pos k1] at h
    unfold ruleF at h
    obtain ⟨s1, h1, h⟩ := bnd_ok h
    obtain ⟨x1, h2, h⟩ := bnd_ok h
    obtain ⟨s4, h4, h⟩ := bnd_ok h
    obtain ⟨y, hy, h⟩ := bnd_ok h
    cases h
    obtain ⟨rfl, o1⟩ := opn_ok h1
    obtain ⟨rfl, o4⟩ := owF_ok h4
    have l1 := len_sumO 6 _ x1.1 x1.2 as h2
    have a4 := adv_n (t := t) (s := x1.1) l1.1
    have g4 := adv_ge (t := t) (s := x1.1) l1.1
    have l2 := len_test (len_factO 6) _ y.1 y.2 a4 hy
    have hl : (b.2 ++ x1.2 ++ y.2).length ≤ y.1.1 := by rw [List.length_append, List.length_append]; omega
    exact ⟨WB.rule w (by omega) (by omega) (ty_sumO 6 _ x1.1 x1.2 h2 [] (by decide)) (ty_test (ty_factO 6) _ y.1 y.2 hy [] (by decide)), l2.1, hl⟩
  rw [if_neg k1] at h
  by_cases k8 : ow t s = 8
  · rw [if_pos k8] at h
    unfold wordF at h
    obtain ⟨s1, h1, h⟩ := bnd_ok h
    obtain ⟨s2, h2, h⟩ := bnd_ok h
    obtain ⟨rfl, o1⟩ := opn_ok h1
    obtain ⟨rfl, q2, q3⟩ := chS_ok h2
    have a2 := adv_n (t := t) (s := adv t s) as
    have g2 := adv_ge (t := t) (s := adv t s) as
    unfold wdN at h
    split at h
    · cases h
    · cases h
      exact ⟨WB.word w (by omega) ⟨word_len q2, q3⟩ (word_let q2), a2, by show b.2.length ≤ (adv t (adv t s)).1; omega⟩
  rw [if_neg k8] at h
  by_cases k9 : ow t s = 9
  · rw [if_pos k9] at h
    unfold guardF at h
    obtain ⟨y, h1, h⟩ := bnd_ok h
    obtain ⟨z, h2, h⟩ := bnd_ok h
    cases h
    obtain ⟨n1, n2, n3, n4⟩ := numF_ok (s' := y.1) (v := y.2) as h1
    obtain ⟨m1, m2, m3, m4⟩ := numF_ok (s' := z.1) (v := z.2) n1 h2
    refine ⟨⟨w1, w2, w3, w4, ⟨?_, ?_, fun _ => ⟨?_, ?_⟩⟩, w6⟩, m1, by show b.2.length ≤ z.1.1; omega⟩
    · show 0 ≤ y.2; omega
    · show y.2 ≤ 99; omega
    · show 0 ≤ z.2; omega
    · show z.2 < y.2; omega
  rw [if_neg k9] at h
  cases h
end WBS
