/-! ===== book: sums and tests read with a row that waits ===== -/
abbrev ZT : Type := Lx → List Int → List Int → Int → Prop
def OKR (x : RL) (P : Lx → List Int → Prop) (E : Int × Int → Prop) : Prop := match x with
  | .ok y => P y.1 y.2
  | .error e => E e
def op34 (a : List Int) : Prop := ∀ v : Int, v ∈ a → v = 3 ∨ v = 4
def op14 (a : List Int) : Prop := ∀ v : Int, v ∈ a → 1 ≤ v ∧ v ≤ 4
def hdN (P : Int → Prop) (R : List Int) : Prop := R = [] ∨ ∃ (v : Int) (r : List Int), R = v :: r ∧ P v
def gdW (W : List Int) : Prop := hdN (fun v => 20 ≤ v ∧ v ≤ 24) W
def noOp (t : Tp) (s : Lx) : Prop := ¬ isMk t 42 s ∧ ¬ isMk t 47 s ∧ ¬ isMk t 43 s ∧ ¬ isMk t 45 s
/-- a part is wanted -/
def SYw (t : Tp) (Zw Za : ZT) (E : Int × Int → Prop) : Prop :=
  (∀ (s : Lx) (c w : List Int) (o : Int), s.1 ≤ t.2 → isMk t 40 s → (o < 6 → Zw (adv t s) c (20 :: w) (o + 1)) → (¬ o < 6 → E (4, (qq t s : Int))) → Zw s c w o) ∧
  (∀ (s : Lx) (c w : List Int) (o v : Int), s.1 ≤ t.2 → (ow t s = 17 ∧ v = 21) ∨ (ow t s = 18 ∧ v = 22) → (isMk t 40 (adv t s) → o < 6 → Zw (adv t (adv t s)) c (v :: w) (o + 1)) → (isMk t 40 (adv t s) → ¬ o < 6 → E (4, (qq t (adv t s) : Int))) → (¬ isMk t 40 (adv t s) → E (1, (qq t (adv t s) : Int))) → Zw s c w o) ∧
  (∀ (s : Lx) (c w : List Int) (o v : Int), s.1 ≤ t.2 → (ow t s = 14 ∧ v = 7) ∨ (ow t s = 2 ∧ v = 8) ∨ (ow t s = 15 ∧ v = 9) ∨ (ow t s = 16 ∧ v = 10) → Za (adv t s) (c ++ [v]) w o → Zw s c w o) ∧
  (∀ (s : Lx) (c w : List Int) (o : Int), s.1 ≤ t.2 → ¬ isMk t 40 s → (ow t s ≠ 17 ∧ ow t s ≠ 18 ∧ ow t s ≠ 14 ∧ ow t s ≠ 2 ∧ ow t s ≠ 15 ∧ ow t s ≠ 16) → OKR (bnd (numF t 0 9999 s) fun x => .ok (x.1, [1000 + x.2])) (fun s' y => Za s' (c ++ y) w o) E → Zw s c w o)
/-- a part was read -/
def SYa (t : Tp) (Zw Za : ZT) (E : Int × Int → Prop) : Prop :=
  (∀ (s : Lx) (c p W : List Int) (o v : Int), s.1 ≤ t.2 → isMk t 41 s → op14 p → v = 20 ∨ v = 23 ∨ v = 24 → Za (adv t s) (c ++ p ++ (if v = 20 then [] else if v = 23 then [5] else [6])) W o → Za s c (p ++ v :: W) (o + 1)) ∧
  (∀ (s : Lx) (c a R : List Int) (o v : Int), s.1 ≤ t.2 → (isMk t 42 s ∧ v = 3) ∨ (isMk t 47 s ∧ v = 4) → op34 a → hdN (fun v => v ≠ 3 ∧ v ≠ 4) R → Zw (adv t s) (c ++ a) (v :: R) o → Za s c (a ++ R) o) ∧
  (∀ (s : Lx) (c a R : List Int) (o v : Int), s.1 ≤ t.2 → (isMk t 43 s ∧ v = 1) ∨ (isMk t 45 s ∧ v = 2) → op14 a → hdN (fun v => ¬ (1 ≤ v ∧ v ≤ 4)) R → Zw (adv t s) (c ++ a) (v :: R) o → Za s c (a ++ R) o) ∧
  (∀ (s : Lx) (c p W : List Int) (o v : Int), s.1 ≤ t.2 → noOp t s → op14 p → v = 21 ∨ v = 22 → (isMk t 44 s → Zw (adv t s) (c ++ p) ((v + 2) :: W) o) → (¬ isMk t 44 s → E (1, (qq t s : Int))) → Za s c (p ++ v :: W) o) ∧
  (∀ (s : Lx) (c p W : List Int) (o v : Int), s.1 ≤ t.2 → noOp t s → ¬ isMk t 41 s → op14 p → v = 20 ∨ v = 23 ∨ v = 24 → E (1, (qq t s : Int)) → Za s c (p ++ v :: W) o)
section SHUNT
variable {t : Tp} {Zw Za : ZT} {E : Int × Int → Prop} {s s' : Lx} {c w W R a p : List Int} {o : Int} {pf sf f : Lx → RL} {P P' : Lx → List Int → Prop} {x : RL}
theorem OKR_b {g : Lx × List Int → RL} : OKR (bnd x g) P E ↔ OKR x (fun s y => OKR (g (s, y)) P E) E := by
  cases x with
  | ok y => exact Iff.rfl
  | error e => exact Iff.rfl
theorem OKR_m (h : OKR x P E) (k : ∀ s y, x = .ok (s, y) → P s y → P' s y) : OKR x P' E := by
  cases hx : x with
  | ok y => rw [hx] at h; exact k y.1 y.2 hx h
  | error e => rw [hx] at h; exact h
theorem isMk_x {m m' : Int} (h : isMk t m s) (n : m ≠ m') : ¬ isMk t m' s := fun z => n (h.2.symm.trans z.2)
theorem kd_end (h : t.2 ≤ s.1) : kd t s = 0 := kd_0.mpr (Nat.le_trans h qq_le)
theorem op34_14 (h : op34 a) : op14 a := fun v hv => by rcases h v hv with z | z <;> omega
/-- the products' loop -/
theorem prod_lp (ya : SYa t Zw Za E) (hl : lenOK t pf) (HP : ∀ (s : Lx) (c w : List Int), s.1 ≤ t.2 → OKR (pf s) (fun s' y => Za s' (c ++ y) w o) E → Zw s c w o) (hR : hdN (fun v => v ≠ 3 ∧ v ≠ 4) R) : ∀ (m : Nat) (s : Lx) (acc a : List Int), s.1 ≤ t.2 → t.2 - s.1 ≤ m → op34 a → OKR (loopM t 42 47 3 4 pf m s (acc ++ a)) (fun s' y => (¬ isMk t 42 s' ∧ ¬ isMk t 47 s') → ∀ y' p, op34 p → y = y' ++ p → Za s' (c ++ y') (p ++ R) o) E → Za s (c ++ acc) (a ++ R) o := by
  intro m
  induction m with
  | zero =>
    intro s acc a hs hm ha h
    have k0 := kd_end (t := t) (s := s) (by omega)
    exact h ⟨fun z => isMk_0 z k0, fun z => isMk_0 z k0⟩ acc a ha rfl
  | succ m ih =>
    intro s acc a hs hm ha h
    have e : loopM t 42 47 3 4 pf (m + 1) s (acc ++ a) = @ite _ (isMk t 42 s) (Classical.propDecidable _) (bnd (pf (adv t s)) fun x => loopM t 42 47 3 4 pf m x.1 (acc ++ a ++ x.2 ++ [3])) (@ite _ (isMk t 47 s) (Classical.propDecidable _) (bnd (pf (adv t s)) fun x => loopM t 42 47 3 4 pf m x.1 (acc ++ a ++ x.2 ++ [4])) (.ok (s, acc ++ a))) := rfl
    rw [e] at h
    have step : ∀ v : Int, (isMk t 42 s ∧ v = 3) ∨ (isMk t 47 s ∧ v = 4) → OKR (bnd (pf (adv t s)) fun x => loopM t 42 47 3 4 pf m x.1 (acc ++ a ++ x.2 ++ [v])) (fun s' y => (¬ isMk t 42 s' ∧ ¬ isMk t 47 s') → ∀ y' p, op34 p → y = y' ++ p → Za s' (c ++ y') (p ++ R) o) E → Za s (c ++ acc) (a ++ R) o := by
      intro v hv hb
      have k0 : kd t s ≠ 0 := by rcases hv with z | z <;> exact isMk_0 z.1
      have gt := adv_gt k0
      refine ya.2.1 s (c ++ acc) a R o v hs hv ha hR (HP _ _ _ (adv_n hs) (OKR_m (OKR_b.mp hb) (fun s1 y hy h1 => ?_)))
      have l := hl _ s1 y (adv_n hs) hy
      have hv' : op34 [v] := fun u hu => by
        have : u = v := by simpa using hu
        subst this
        rcases hv with z | z <;> omega
      have r := ih s1 (acc ++ a ++ y) [v] l.1 (by omega) hv' h1
      have q : c ++ (acc ++ a ++ y) = c ++ acc ++ a ++ y := by simp only [List.append_assoc]
      rw [q] at r
      exact r
    by_cases z1 : isMk t 42 s
    · rw [if_pos z1] at h; exact step 3 (Or.inl ⟨z1, rfl⟩) h
    · rw [if_neg z1] at h
      by_cases z2 : isMk t 47 s
      · rw [if_pos z2] at h; exact step 4 (Or.inr ⟨z2, rfl⟩) h
      · rw [if_neg z2] at h
        exact h ⟨z1, z2⟩ acc a ha rfl
theorem nil34 : op34 [] := fun v h => absurd h (by simp)
theorem nil14 : op14 [] := fun v h => absurd h (by simp)
/-- a product -/
theorem prod_sy (n : t.2 ≤ 1600) (ya : SYa t Zw Za E) (hl : lenOK t pf) (HP : ∀ (s : Lx) (c w : List Int), s.1 ≤ t.2 → OKR (pf s) (fun s' y => Za s' (c ++ y) w o) E → Zw s c w o) (hR : hdN (fun v => v ≠ 3 ∧ v ≠ 4) R) (hs : s.1 ≤ t.2) (h : OKR (prodF t pf s) (fun s' y => (¬ isMk t 42 s' ∧ ¬ isMk t 47 s') → ∀ y' p, op34 p → y = y' ++ p → Za s' (c ++ y') (p ++ R) o) E) : Zw s c R o := by
  refine HP s c R hs (OKR_m (OKR_b.mp h) (fun s1 y hy h1 => ?_))
  have l := hl _ s1 y hs hy
  have h2 : OKR (loopM t 42 47 3 4 pf 1600 s1 (y ++ [])) (fun s' y => (¬ isMk t 42 s' ∧ ¬ isMk t 47 s') → ∀ y' p, op34 p → y = y' ++ p → Za s' (c ++ y') (p ++ R) o) E := by rw [List.append_nil]; exact h1
  exact prod_lp ya hl HP hR 1600 s1 y [] l.1 (by omega) nil34 h2
/-- the sums' loop -/
theorem sum_lp (n : t.2 ≤ 1600) (ya : SYa t Zw Za E) (hl : lenOK t pf) (HP : ∀ (s : Lx) (c w : List Int), s.1 ≤ t.2 → OKR (pf s) (fun s' y => Za s' (c ++ y) w o) E → Zw s c w o) (hW : gdW W) : ∀ (m : Nat) (s : Lx) (acc : List Int), s.1 ≤ t.2 → t.2 - s.1 ≤ m → (¬ isMk t 42 s ∧ ¬ isMk t 47 s) → OKR (loopM t 43 45 1 2 (prodF t pf) m s acc) (fun s' y => noOp t s' → ∀ y' p, op14 p → y = y' ++ p → Za s' (c ++ y') (p ++ W) o) E → ∀ y' p, op14 p → acc = y' ++ p → Za s (c ++ y') (p ++ W) o := by
  have hW1 : hdN (fun v => ¬ (1 ≤ v ∧ v ≤ 4)) W := by
    rcases hW with z | ⟨v, r, z1, z2⟩
    · exact Or.inl z
    · exact Or.inr ⟨v, r, z1, by omega⟩
  intro m
  induction m with
  | zero =>
    intro s acc hs hm hn h y' p hp he
    have k0 := kd_end (t := t) (s := s) (by omega)
    exact h ⟨hn.1, hn.2, fun z => isMk_0 z k0, fun z => isMk_0 z k0⟩ y' p hp he
  | succ m ih =>
    intro s acc hs hm hn h y' p hp he
    have e : loopM t 43 45 1 2 (prodF t pf) (m + 1) s acc = @ite _ (isMk t 43 s) (Classical.propDecidable _) (bnd (prodF t pf (adv t s)) fun x => loopM t 43 45 1 2 (prodF t pf) m x.1 (acc ++ x.2 ++ [1])) (@ite _ (isMk t 45 s) (Classical.propDecidable _) (bnd (prodF t pf (adv t s)) fun x => loopM t 43 45 1 2 (prodF t pf) m x.1 (acc ++ x.2 ++ [2])) (.ok (s, acc))) := rfl
    rw [e] at h
    have step : ∀ v : Int, (isMk t 43 s ∧ v = 1) ∨ (isMk t 45 s ∧ v = 2) → OKR (bnd (prodF t pf (adv t s)) fun x => loopM t 43 45 1 2 (prodF t pf) m x.1 (acc ++ x.2 ++ [v])) (fun s' y => noOp t s' → ∀ y' p, op14 p → y = y' ++ p → Za s' (c ++ y') (p ++ W) o) E → Za s (c ++ y') (p ++ W) o := by
      intro v hv hb
      have k0 : kd t s ≠ 0 := by rcases hv with z | z <;> exact isMk_0 z.1
      have gt := adv_gt k0
      have v12 : v = 1 ∨ v = 2 := by rcases hv with z | z <;> omega
      refine ya.2.2.1 s (c ++ y') p W o v hs hv hp hW1 ?_
      refine prod_sy (c := c ++ y' ++ p) n ya hl HP (Or.inr ⟨v, W, rfl, by omega⟩) (adv_n hs) (OKR_m (OKR_b.mp hb) (fun s1 y hy h1 => ?_))
      intro hn1 y1 p1 hp1 e1
      have l := len_prod hl _ s1 y (adv_n hs) hy
      have hpv : op14 (p1 ++ [v]) := fun u hu => by
        rcases List.mem_append.mp hu with z | z
        · exact op34_14 hp1 u z
        · have : u = v := by simpa using z
          omega
      have r := ih s1 _ l.1 (by omega) hn1 h1 (acc ++ y1) (p1 ++ [v]) hpv (by rw [e1]; simp only [List.append_assoc])
      have q1 : c ++ (acc ++ y1) = c ++ y' ++ p ++ y1 := by rw [he]; simp only [List.append_assoc]
      have q2 : p1 ++ [v] ++ W = p1 ++ v :: W := by simp
      rw [q1, q2] at r
      exact r
    by_cases z1 : isMk t 43 s
    · rw [if_pos z1] at h; exact step 1 (Or.inl ⟨z1, rfl⟩) h
    · rw [if_neg z1] at h
      by_cases z2 : isMk t 45 s
      · rw [if_pos z2] at h; exact step 2 (Or.inr ⟨z2, rfl⟩) h
      · rw [if_neg z2] at h
        exact h ⟨hn.1, hn.2, z1, z2⟩ y' p hp he
/-- a sum, read with a row that waits -/
def HS (t : Tp) (Zw Za : ZT) (E : Int × Int → Prop) (sf : Lx → RL) (o : Int) : Prop := ∀ (s : Lx) (c W : List Int), gdW W → s.1 ≤ t.2 → OKR (sf s) (fun s' y => s'.1 ≤ t.2 → noOp t s' → ∀ y' p, op14 p → y = y' ++ p → Za s' (c ++ y') (p ++ W) o) E → Zw s c W o
theorem sum_sy (n : t.2 ≤ 1600) (ya : SYa t Zw Za E) (hl : lenOK t pf) (HP : ∀ (s : Lx) (c w : List Int), s.1 ≤ t.2 → OKR (pf s) (fun s' y => Za s' (c ++ y) w o) E → Zw s c w o) : HS t Zw Za E (sumF t pf) o := by
  intro s c W hW hs h
  have hW1 : hdN (fun v => v ≠ 3 ∧ v ≠ 4) W := by
    rcases hW with z | ⟨v, r, z1, z2⟩
    · exact Or.inl z
    · exact Or.inr ⟨v, r, z1, by omega⟩
  have hb : OKR (bnd (prodF t pf s) fun x => loopM t 43 45 1 2 (prodF t pf) 1600 x.1 x.2) (fun s' y => noOp t s' → ∀ y' p, op14 p → y = y' ++ p → Za s' (c ++ y') (p ++ W) o) E := by
    refine OKR_m (x := sumF t pf s) h (fun s1 y hy h1 => h1 ?_)
    exact (len_sum hl _ s1 y hs hy).1
  refine prod_sy n ya hl HP hW1 hs (OKR_m (OKR_b.mp hb) (fun s1 y hy h1 => ?_))
  intro hn1 y1 p1 hp1 e1
  have l := len_prod hl _ s1 y hs hy
  exact sum_lp n ya hl HP hW 1600 s1 y l.1 (by omega) hn1 h1 y1 p1 (op34_14 hp1) e1
/-- a part, where nothing more may be opened, and where something may -/
theorem part_sy {op : Bool} (yw : SYw t Zw Za E) (ya : SYa t Zw Za E) (ho : op = true ↔ o < 6) (hl : lenOK t sf) (hS : op = true → HS t Zw Za E sf (o + 1)) : ∀ (s : Lx) (c w : List Int), s.1 ≤ t.2 → OKR (partF t sf op s) (fun s' y => Za s' (c ++ y) w o) E → Zw s c w o := by
  intro s c w hs h
  unfold partF at h
  have one : ∀ k v : Int, (ow t s = 14 ∧ v = 7) ∨ (ow t s = 2 ∧ v = 8) ∨ (ow t s = 15 ∧ v = 9) ∨ (ow t s = 16 ∧ v = 10) → OKR (.ok (adv t s, [v])) (fun s' y => Za s' (c ++ y) w o) E → Zw s c w o := fun k v hv h => yw.2.2.1 s c w o v hs hv h
  by_cases e1 : ow t s = 14
  · rw [if_pos e1] at h; exact one 0 7 (by omega) h
  rw [if_neg e1] at h
  by_cases e2 : ow t s = 2
  · rw [if_pos e2] at h; exact one 0 8 (by omega) h
  rw [if_neg e2] at h
  by_cases e3 : ow t s = 15
  · rw [if_pos e3] at h; exact one 0 9 (by omega) h
  rw [if_neg e3] at h
  by_cases e4 : ow t s = 16
  · rw [if_pos e4] at h; exact one 0 10 (by omega) h
  rw [if_neg e4] at h
  have two : ∀ v d : Int, (ow t s = 17 ∧ v = 21 ∧ d = 5) ∨ (ow t s = 18 ∧ v = 22 ∧ d = 6) → OKR (bnd (pairF t sf op (adv t s)) fun x => .ok (x.1, x.2 ++ [d])) (fun s' y => Za s' (c ++ y) w o) E → Zw s c w o := by
    intro v d hv h
    have a1 := adv_n (t := t) (s := s) hs
    refine yw.2.1 s c w o v hs (by rcases hv with z | z; exact Or.inl ⟨z.1, z.2.1⟩; exact Or.inr ⟨z.1, z.2.1⟩) (fun mk lt => ?_) (fun mk lt => ?_) (fun mk => ?_)
    · have o1 : op = true := ho.mpr lt
      have E1 : pairF t sf op (adv t s) = bnd (sf (adv t (adv t s))) fun x => bnd (mkF t 44 x.1) fun s3 => bnd (sf s3) fun y => bnd (mkF t 41 y.1) fun s5 => .ok (s5, x.2 ++ y.2) := by unfold pairF; rw [if_pos mk, if_pos o1]
      rw [E1] at h
      have a2 := adv_n (t := t) (s := adv t s) a1
      refine hS o1 _ c (v :: w) (Or.inr ⟨v, w, rfl, by omega⟩) a2 (OKR_m (OKR_b.mp (OKR_b.mp h)) (fun s1 y hy h1 => ?_))
      intro l1 no y1 p1 hp1 ey
      refine ya.2.2.2.1 s1 (c ++ y1) p1 w (o + 1) v l1 no hp1 (by omega) (fun mk2 => ?_) (fun mk2 => ?_)
      · have E2 : mkF t 44 s1 = .ok (adv t s1) := if_pos mk2
        have a3 := adv_n (t := t) (s := s1) l1
        have h2 : OKR (bnd (sf (adv t s1)) fun z => bnd (mkF t 41 z.1) fun s5 => .ok (s5, y ++ z.2 ++ [d])) (fun s' y => Za s' (c ++ y) w o) E := by
          have h1' : OKR (bnd (bnd (mkF t 44 s1) fun s3 => bnd (sf s3) fun z => bnd (mkF t 41 z.1) fun s5 => .ok (s5, y ++ z.2)) fun x => .ok (x.1, x.2 ++ [d])) (fun s' y => Za s' (c ++ y) w o) E := OKR_b.mpr h1
          rw [E2] at h1'
          have h3 : OKR (bnd (bnd (sf (adv t s1)) fun z => bnd (mkF t 41 z.1) fun s5 => .ok (s5, y ++ z.2)) fun x => .ok (x.1, x.2 ++ [d])) (fun s' y => Za s' (c ++ y) w o) E := h1'
          rw [bnd_a] at h3
          refine OKR_b.mpr (OKR_m (OKR_b.mp h3) (fun s4 z hz h4 => ?_))
          have h5 : OKR (bnd (bnd (mkF t 41 s4) fun s5 => .ok (s5, y ++ z)) fun x => .ok (x.1, x.2 ++ [d])) (fun s' y => Za s' (c ++ y) w o) E := h4
          rw [bnd_a] at h5
          exact h5
        refine hS o1 (adv t s1) (c ++ y1 ++ p1) ((v + 2) :: w) (Or.inr ⟨v + 2, w, rfl, by omega⟩) a3 (OKR_m (OKR_b.mp h2) (fun s4 z hz h4 => ?_))
        intro l4 no4 y4 p4 hp4 ez
        have h4' : OKR (bnd (mkF t 41 s4) fun s5 => .ok (s5, y ++ z ++ [d])) (fun s' y => Za s' (c ++ y) w o) E := h4
        by_cases mk4 : isMk t 41 s4
        · have E3 : mkF t 41 s4 = .ok (adv t s4) := if_pos mk4
          rw [E3] at h4'
          have h6 : Za (adv t s4) (c ++ (y ++ z ++ [d])) w o := h4'
          refine ya.1 s4 (c ++ y1 ++ p1 ++ y4) p4 w o (v + 2) l4 mk4 hp4 (by omega) ?_
          have q : c ++ (y ++ z ++ [d]) = c ++ y1 ++ p1 ++ y4 ++ p4 ++ (if v + 2 = 20 then [] else if v + 2 = 23 then [5] else [6]) := by
            rw [ey, ez, if_neg (by omega)]
            rcases hv with ⟨-, rfl, rfl⟩ | ⟨-, rfl, rfl⟩
            · rw [if_pos (by decide)]; simp only [List.append_assoc]
            · rw [if_neg (by decide)]; simp only [List.append_assoc]
          rw [q] at h6
          exact h6
        · have E3 : mkF t 41 s4 = .error (1, (qq t s4 : Int)) := if_neg mk4
          rw [E3] at h4'
          exact ya.2.2.2.2 s4 (c ++ y1 ++ p1 ++ y4) p4 w (o + 1) (v + 2) l4 no4 mk4 hp4 (by omega) h4'
      · have E2 : mkF t 44 s1 = .error (1, (qq t s1 : Int)) := if_neg mk2
        have h1' : OKR (bnd (bnd (mkF t 44 s1) fun s3 => bnd (sf s3) fun z => bnd (mkF t 41 z.1) fun s5 => .ok (s5, y ++ z.2)) fun x => .ok (x.1, x.2 ++ [d])) (fun s' y => Za s' (c ++ y) w o) E := OKR_b.mpr h1
        rw [E2] at h1'
        exact h1'
    · have o1 : ¬ op = true := fun z => lt (ho.mp z)
      have E1 : pairF t sf op (adv t s) = .error (4, (qq t (adv t s) : Int)) := by unfold pairF; rw [if_pos mk, if_neg o1]
      rw [E1] at h
      exact h
    · have E1 : pairF t sf op (adv t s) = .error (1, (qq t (adv t s) : Int)) := if_neg mk
      rw [E1] at h
      exact h
  by_cases e5 : ow t s = 17
  · rw [if_pos e5] at h; exact two 21 5 (Or.inl ⟨e5, rfl, rfl⟩) h
  rw [if_neg e5] at h
  by_cases e6 : ow t s = 18
  · rw [if_pos e6] at h; exact two 22 6 (Or.inr ⟨e6, rfl, rfl⟩) h
  rw [if_neg e6] at h
  by_cases z : isMk t 40 s
  · rw [if_pos z] at h
    refine yw.1 s c w o hs z (fun lt => ?_) (fun lt => ?_)
    · have o1 : op = true := ho.mpr lt
      rw [if_pos o1] at h
      refine hS o1 _ c (20 :: w) (Or.inr ⟨20, w, rfl, by omega⟩) (adv_n hs) (OKR_m (OKR_b.mp h) (fun s1 y hy h1 => ?_))
      intro l1 no y1 p1 hp1 ey
      have h1' : OKR (bnd (mkF t 41 s1) fun s3 => .ok (s3, y)) (fun s' y => Za s' (c ++ y) w o) E := h1
      by_cases mk4 : isMk t 41 s1
      · have E3 : mkF t 41 s1 = .ok (adv t s1) := if_pos mk4
        rw [E3] at h1'
        have h6 : Za (adv t s1) (c ++ y) w o := h1'
        refine ya.1 s1 (c ++ y1) p1 w o 20 l1 mk4 hp1 (by omega) ?_
        have q : c ++ y = c ++ y1 ++ p1 ++ (if (20 : Int) = 20 then [] else if (20 : Int) = 23 then [5] else [6]) := by
          rw [ey, if_pos rfl]; simp only [List.append_assoc, List.append_nil]
        rw [q] at h6
        exact h6
      · have E3 : mkF t 41 s1 = .error (1, (qq t s1 : Int)) := if_neg mk4
        rw [E3] at h1'
        exact ya.2.2.2.2 s1 (c ++ y1) p1 w (o + 1) 20 l1 no mk4 hp1 (by omega) h1'
    · have o1 : ¬ op = true := fun z => lt (ho.mp z)
      rw [if_neg o1] at h
      exact h
  · rw [if_neg z] at h
    exact yw.2.2.2 s c w o hs z ⟨e5, e6, e1, e2, e3, e4⟩ h
theorem sumO_sy (n : t.2 ≤ 1600) (yw : SYw t Zw Za E) (ya : SYa t Zw Za E) : ∀ (k : Nat) (o : Int), o + k = 6 → HS t Zw Za E (sumO t k) o := by
  intro k
  induction k with
  | zero => intro o ho; exact sum_sy n ya (len_part len_err) (part_sy yw ya ⟨fun z => absurd z (by decide), fun z => by omega⟩ len_err (fun z => absurd z (by decide)))
  | succ k ih => intro o ho; exact sum_sy n ya (len_part (len_sumO k)) (part_sy yw ya ⟨fun _ => by omega, fun _ => rfl⟩ (len_sumO k) (fun _ => ih (o + 1) (by omega)))
end SHUNT
/-! ===== tests ===== -/
def opT (a : List Int) : Prop := ∀ v : Int, v ∈ a → v = 14 ∨ v = 15
def op4 (a : List Int) : Prop := ∀ v : Int, v ∈ a → v = 14
def noAO (t : Tp) (s : Lx) : Prop := ow t s ≠ 11 ∧ ow t s ≠ 10
def gdT (W : List Int) : Prop := hdN (fun v => v = 25) W
noncomputable def cmpX (t : Tp) (k : Nat) (s : Lx) : RL := bnd (sumO t k s) fun x => cmpA t (sumO t k) x
def SYt (t : Tp) (Zw Za : ZT) (E : Int × Int → Prop) : Prop :=
  (∀ (s : Lx) (c w : List Int) (o : Int), s.1 ≤ t.2 → isMk t 91 s → (o < 6 → Zw (adv t s) c (25 :: w) (o + 1)) → (¬ o < 6 → E (4, (qq t s : Int))) → Zw s c w o) ∧
  (∀ (s : Lx) (c w : List Int) (o : Int), s.1 ≤ t.2 → ow t s = 12 → (o < 6 → Zw (adv t s) c (16 :: w) (o + 1)) → (¬ o < 6 → E (4, (qq t s : Int))) → Zw s c w o) ∧
  (∀ (s : Lx) (c w : List Int) (o : Int), s.1 ≤ t.2 → ow t s = 13 → Za (adv t s) (c ++ [17]) w o → Zw s c w o) ∧
  (∀ (s : Lx) (c w : List Int) (o : Int) (k : Nat), s.1 ≤ t.2 → o + k = 6 → ¬ isMk t 91 s → ow t s ≠ 12 → ow t s ≠ 13 → OKR (cmpX t k s) (fun s' y => Za s' (c ++ y) w o) E → Zw s c w o)
def SYb (t : Tp) (Zw Za : ZT) (E : Int × Int → Prop) : Prop :=
  (∀ (s : Lx) (c w : List Int) (o : Int), s.1 ≤ t.2 → Za s (c ++ [16]) w o → Za s c (16 :: w) (o + 1)) ∧
  (∀ (s : Lx) (c p W : List Int) (o : Int), s.1 ≤ t.2 → isMk t 93 s → opT p → Za (adv t s) (c ++ p) W o → Za s c (p ++ 25 :: W) (o + 1)) ∧
  (∀ (s : Lx) (c a R : List Int) (o : Int), s.1 ≤ t.2 → ow t s = 11 → op4 a → hdN (fun v => v = 15 ∨ v = 25) R → Zw (adv t s) (c ++ a) (14 :: R) o → Za s c (a ++ R) o) ∧
  (∀ (s : Lx) (c a R : List Int) (o : Int), s.1 ≤ t.2 → ow t s = 10 → opT a → hdN (fun v => v = 25) R → Zw (adv t s) (c ++ a) (15 :: R) o → Za s c (a ++ R) o) ∧
  (∀ (s : Lx) (c p W : List Int) (o : Int), s.1 ≤ t.2 → noAO t s → ¬ isMk t 93 s → opT p → E (1, (qq t s : Int)) → Za s c (p ++ 25 :: W) o)
section SHUNT2
variable {t : Tp} {Zw Za : ZT} {E : Int × Int → Prop} {s s' : Lx} {c w W R a p : List Int} {o : Int} {pf sf f ff nf tf : Lx → RL} {P P' : Lx → List Int → Prop} {x : RL}
theorem op4_T (h : op4 a) : opT a := fun v hv => Or.inl (h v hv)
theorem nil4 : op4 [] := fun v h => absurd h (by simp)
theorem both_lp (yb : SYb t Zw Za E) (hl : lenOK t ff) (HF : ∀ (s : Lx) (c w : List Int), s.1 ≤ t.2 → OKR (ff s) (fun s' y => Za s' (c ++ y) w o) E → Zw s c w o) (hR : hdN (fun v => v = 15 ∨ v = 25) R) : ∀ (m : Nat) (s : Lx) (acc a : List Int), s.1 ≤ t.2 → t.2 - s.1 ≤ m → op4 a → OKR (loopT t 11 14 ff m s (acc ++ a)) (fun s' y => ow t s' ≠ 11 → ∀ y' p, op4 p → y = y' ++ p → Za s' (c ++ y') (p ++ R) o) E → Za s (c ++ acc) (a ++ R) o := by
  intro m
  induction m with
  | zero =>
    intro s acc a hs hm ha h
    have k0 := kd_end (t := t) (s := s) (by omega)
    exact h (fun z => ow_0 (t := t) (s := s) (by rw [z]; decide) k0) acc a ha rfl
  | succ m ih =>
    intro s acc a hs hm ha h
    have e : loopT t 11 14 ff (m + 1) s (acc ++ a) = if ow t s = 11 then bnd (ff (adv t s)) fun x => loopT t 11 14 ff m x.1 (acc ++ a ++ x.2 ++ [14]) else .ok (s, acc ++ a) := rfl
    rw [e] at h
    by_cases z1 : ow t s = 11
    · rw [if_pos z1] at h
      have gt := adv_gt (ow_0 (t := t) (s := s) (by omega))
      refine yb.2.2.1 s (c ++ acc) a R o hs z1 ha hR (HF _ _ _ (adv_n hs) (OKR_m (OKR_b.mp h) (fun s1 y hy h1 => ?_)))
      have l := hl _ s1 y (adv_n hs) hy
      have r := ih s1 (acc ++ a ++ y) [14] l.1 (by omega) (fun u hu => by simpa using hu) h1
      have q : c ++ (acc ++ a ++ y) = c ++ acc ++ a ++ y := by simp only [List.append_assoc]
      rw [q] at r
      exact r
    · rw [if_neg z1] at h
      exact h z1 acc a ha rfl
theorem both_sy (n : t.2 ≤ 1600) (yb : SYb t Zw Za E) (hl : lenOK t ff) (HF : ∀ (s : Lx) (c w : List Int), s.1 ≤ t.2 → OKR (ff s) (fun s' y => Za s' (c ++ y) w o) E → Zw s c w o) (hR : hdN (fun v => v = 15 ∨ v = 25) R) (hs : s.1 ≤ t.2) (h : OKR (bothF t ff s) (fun s' y => ow t s' ≠ 11 → ∀ y' p, op4 p → y = y' ++ p → Za s' (c ++ y') (p ++ R) o) E) : Zw s c R o := by
  refine HF s c R hs (OKR_m (OKR_b.mp h) (fun s1 y hy h1 => ?_))
  have l := hl _ s1 y hs hy
  have h2 : OKR (loopT t 11 14 ff 1600 s1 (y ++ [])) (fun s' y => ow t s' ≠ 11 → ∀ y' p, op4 p → y = y' ++ p → Za s' (c ++ y') (p ++ R) o) E := by rw [List.append_nil]; exact h1
  exact both_lp yb hl HF hR 1600 s1 y [] l.1 (by omega) nil4 h2
theorem test_lp (n : t.2 ≤ 1600) (yb : SYb t Zw Za E) (hl : lenOK t ff) (HF : ∀ (s : Lx) (c w : List Int), s.1 ≤ t.2 → OKR (ff s) (fun s' y => Za s' (c ++ y) w o) E → Zw s c w o) (hW : gdT W) : ∀ (m : Nat) (s : Lx) (acc : List Int), s.1 ≤ t.2 → t.2 - s.1 ≤ m → ow t s ≠ 11 → OKR (loopT t 10 15 (bothF t ff) m s acc) (fun s' y => noAO t s' → ∀ y' p, opT p → y = y' ++ p → Za s' (c ++ y') (p ++ W) o) E → ∀ y' p, opT p → acc = y' ++ p → Za s (c ++ y') (p ++ W) o := by
  intro m
  induction m with
  | zero =>
    intro s acc hs hm hn h y' p hp he
    have k0 := kd_end (t := t) (s := s) (by omega)
    exact h ⟨hn, fun z => ow_0 (t := t) (s := s) (by rw [z]; decide) k0⟩ y' p hp he
  | succ m ih =>
    intro s acc hs hm hn h y' p hp he
    have e : loopT t 10 15 (bothF t ff) (m + 1) s acc = if ow t s = 10 then bnd (bothF t ff (adv t s)) fun x => loopT t 10 15 (bothF t ff) m x.1 (acc ++ x.2 ++ [15]) else .ok (s, acc) := rfl
    rw [e] at h
    by_cases z1 : ow t s = 10
    · rw [if_pos z1] at h
      have gt := adv_gt (ow_0 (t := t) (s := s) (by omega))
      refine yb.2.2.2.1 s (c ++ y') p W o hs z1 hp hW ?_
      refine both_sy (c := c ++ y' ++ p) n yb hl HF (Or.inr ⟨15, W, rfl, by omega⟩) (adv_n hs) (OKR_m (OKR_b.mp h) (fun s1 y hy h1 => ?_))
      intro hn1 y1 p1 hp1 e1
      have l := len_both hl _ s1 y (adv_n hs) hy
      have hpv : opT (p1 ++ [15]) := fun u hu => by
        rcases List.mem_append.mp hu with z | z
        · exact op4_T hp1 u z
        · exact Or.inr (by simpa using z)
      have r := ih s1 _ l.1 (by omega) hn1 h1 (acc ++ y1) (p1 ++ [15]) hpv (by rw [e1]; simp only [List.append_assoc])
      have q1 : c ++ (acc ++ y1) = c ++ y' ++ p ++ y1 := by rw [he]; simp only [List.append_assoc]
      have q2 : p1 ++ [15] ++ W = p1 ++ 15 :: W := by simp
      rw [q1, q2] at r
      exact r
    · rw [if_neg z1] at h
      exact h ⟨hn, z1⟩ y' p hp he
def HT (t : Tp) (Zw Za : ZT) (E : Int × Int → Prop) (tf : Lx → RL) (o : Int) : Prop := ∀ (s : Lx) (c W : List Int), gdT W → s.1 ≤ t.2 → OKR (tf s) (fun s' y => s'.1 ≤ t.2 → noAO t s' → ∀ y' p, opT p → y = y' ++ p → Za s' (c ++ y') (p ++ W) o) E → Zw s c W o
theorem test_sy (n : t.2 ≤ 1600) (yb : SYb t Zw Za E) (hl : lenOK t ff) (HF : ∀ (s : Lx) (c w : List Int), s.1 ≤ t.2 → OKR (ff s) (fun s' y => Za s' (c ++ y) w o) E → Zw s c w o) : HT t Zw Za E (testF t ff) o := by
  intro s c W hW hs h
  have hW1 : hdN (fun v => v = 15 ∨ v = 25) W := by
    rcases hW with z | ⟨v, r, z1, z2⟩
    · exact Or.inl z
    · exact Or.inr ⟨v, r, z1, Or.inr z2⟩
  have hb : OKR (bnd (bothF t ff s) fun x => loopT t 10 15 (bothF t ff) 1600 x.1 x.2) (fun s' y => noAO t s' → ∀ y' p, opT p → y = y' ++ p → Za s' (c ++ y') (p ++ W) o) E := by
    refine OKR_m (x := testF t ff s) h (fun s1 y hy h1 => h1 ?_)
    exact (len_test hl _ s1 y hs hy).1
  refine both_sy n yb hl HF hW1 hs (OKR_m (OKR_b.mp hb) (fun s1 y hy h1 => ?_))
  intro hn1 y1 p1 hp1 e1
  have l := len_both hl _ s1 y hs hy
  exact test_lp n yb hl HF hW 1600 s1 y l.1 (by omega) hn1 h1 y1 p1 (op4_T hp1) e1
theorem fact_sy {op : Bool} {k : Nat} (yt : SYt t Zw Za E) (yb : SYb t Zw Za E) (hk : o + k = 6) (ho : op = true ↔ o < 6) (hN : op = true → ∀ (s : Lx) (c w : List Int), s.1 ≤ t.2 → OKR (nf s) (fun s' y => Za s' (c ++ y) w (o + 1)) E → Zw s c w (o + 1)) (hln : lenOK t nf) (hT : op = true → HT t Zw Za E tf (o + 1)) : ∀ (s : Lx) (c w : List Int), s.1 ≤ t.2 → OKR (factB t (sumO t k) nf tf op s) (fun s' y => Za s' (c ++ y) w o) E → Zw s c w o := by
  intro s c w hs h
  unfold factB at h
  by_cases e1 : ow t s = 13
  · rw [if_pos e1] at h
    exact yt.2.2.1 s c w o hs e1 h
  rw [if_neg e1] at h
  by_cases e2 : ow t s = 12
  · rw [if_pos e2] at h
    refine yt.2.1 s c w o hs e2 (fun lt => ?_) (fun lt => ?_)
    · have o1 : op = true := ho.mpr lt
      rw [if_pos o1] at h
      refine hN o1 _ c (16 :: w) (adv_n hs) (OKR_m (OKR_b.mp h) (fun s1 y hy h1 => ?_))
      have h2 : Za s1 (c ++ (y ++ [16])) w o := h1
      refine yb.1 s1 (c ++ y) w o (hln _ s1 y (adv_n hs) hy).1 ?_
      rw [List.append_assoc]; exact h2
    · have o1 : ¬ op = true := fun z => lt (ho.mp z)
      rw [if_neg o1] at h
      exact h
  rw [if_neg e2] at h
  by_cases z : isMk t 91 s
  · rw [if_pos z] at h
    refine yt.1 s c w o hs z (fun lt => ?_) (fun lt => ?_)
    · have o1 : op = true := ho.mpr lt
      rw [if_pos o1] at h
      refine hT o1 _ c (25 :: w) (Or.inr ⟨25, w, rfl, rfl⟩) (adv_n hs) (OKR_m (OKR_b.mp h) (fun s1 y hy h1 => ?_))
      intro l1 no y1 p1 hp1 ey
      have h1' : OKR (bnd (mkF t 93 s1) fun s3 => .ok (s3, y)) (fun s' y => Za s' (c ++ y) w o) E := h1
      by_cases mk4 : isMk t 93 s1
      · have E3 : mkF t 93 s1 = .ok (adv t s1) := if_pos mk4
        rw [E3] at h1'
        have h6 : Za (adv t s1) (c ++ y) w o := h1'
        refine yb.2.1 s1 (c ++ y1) p1 w o l1 mk4 hp1 ?_
        rw [List.append_assoc, ← ey]; exact h6
      · have E3 : mkF t 93 s1 = .error (1, (qq t s1 : Int)) := if_neg mk4
        rw [E3] at h1'
        exact yb.2.2.2.2 s1 (c ++ y1) p1 w (o + 1) l1 no mk4 hp1 h1'
    · have o1 : ¬ op = true := fun z => lt (ho.mp z)
      rw [if_neg o1] at h
      exact h
  · rw [if_neg z] at h
    exact yt.2.2.2 s c w o k hs hk z e2 e1 h
theorem factO_sy (n : t.2 ≤ 1600) (yt : SYt t Zw Za E) (yb : SYb t Zw Za E) : ∀ (k : Nat) (o : Int), o + k = 6 → ∀ (s : Lx) (c w : List Int), s.1 ≤ t.2 → OKR (factO t k s) (fun s' y => Za s' (c ++ y) w o) E → Zw s c w o := by
  intro k
  induction k with
  | zero => intro o ho; exact fact_sy (op := false) (k := 0) yt yb ho ⟨fun z => absurd z (by decide), fun z => by omega⟩ (fun z => absurd z (by decide)) len_err (fun z => absurd z (by decide))
  | succ k ih => intro o ho; exact fact_sy (op := true) (k := k + 1) yt yb ho ⟨fun _ => by omega, fun _ => rfl⟩ (fun _ => ih (o + 1) (by omega)) (len_factO k) (fun _ => test_sy n yb (len_factO k) (ih (o + 1) (by omega)))
theorem testO_sy (n : t.2 ≤ 1600) (yt : SYt t Zw Za E) (yb : SYb t Zw Za E) : HT t Zw Za E (testF t (factO t 6)) 0 := test_sy n yb (len_factO 6) (factO_sy n yt yb 6 0 (by decide))
end SHUNT2
