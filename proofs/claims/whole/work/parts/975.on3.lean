/-! ===== on: an image is taken ===== -/
def sgnW (S : aS) (x : Nat) (a b c t : Int) : aS := sset (ink3 S x a b t) 18 x c
def on0 (S : aS) : aS := sset (sset S 0 8 (256 * S 1 0 + S 1 1)) 0 9 0
def onL (f : Nat → Int) (h : Int) (S : aS) (l b : Nat) : Nat → aS
  | 0 => S
  | m + 1 => sgnW (onL f h S l b m) (slot l m) (f (b + 3 * m)) (f (b + 3 * m + 1)) (f (b + 3 * m + 2)) h
def onA (f : Nat → Int) (h : Int) (S : aS) : Nat → aS
  | 0 => S
  | n + 1 => onL f h (onA f h S n) n (2 + 3 * sumI (S 5) n).toNat (S 5 n).toNat
def onR (f : Nat → Int) (S : aS) (o : Nat) : Nat → aS
  | 0 => S
  | n + 1 => sit (onR f S o n) n (f (o + 2 * n) - 1) (f (o + 2 * n + 1))
def onB (S : aS) : aS := onA (S 1) (256 * S 1 0 + S 1 1) (on0 S) (sNL S).toNat
def onT (S : aS) : aS := onR (S 1) (onB S) (2 + 3 * tot S).toNat (sNR S).toNat
def onS (S : aS) : aS := sset (onT S) 0 0 0
section ON3
variable {S T : aS} {L d dr tl t : Nat} {I : Nat → Nat → Int32} {J : Nat → Nat → Int64} {a1 a2 a3 a4 a5 x : Int32} {f : Nat → Int} {n0 h : Int} {Q : Option Value → xMem → Prop}
theorem sgnW_f {x g : Nat} {a b c t : Int} (h1 : g ≠ 15) (h2 : g ≠ 16) (h3 : g ≠ 17) (h4 : g ≠ 18) : sgnW S x a b c t g = S g := by
  funext k; unfold sgnW ink3 sset; rw [if_neg (fun z => h4 z.1), if_neg (fun z => h3 z.1), if_neg (fun z => h2 z.1), if_neg (fun z => h1 z.1)]
theorem onL_f {l b g : Nat} (h1 : g ≠ 15) (h2 : g ≠ 16) (h3 : g ≠ 17) (h4 : g ≠ 18) : ∀ m : Nat, onL f h S l b m g = S g := by
  intro m
  induction m with
  | zero => rfl
  | succ m ih => exact (sgnW_f h1 h2 h3 h4).trans ih
theorem onA_f {g : Nat} (h1 : g ≠ 15) (h2 : g ≠ 16) (h3 : g ≠ 17) (h4 : g ≠ 18) : ∀ m : Nat, onA f h S m g = S g := by
  intro m
  induction m with
  | zero => rfl
  | succ m ih => exact (onL_f h1 h2 h3 h4 _).trans ih
theorem onR_f {g o : Nat} (h1 : g ≠ 19) (h2 : g ≠ 20) : ∀ m : Nat, onR f S o m g = S g := by
  intro m
  induction m with
  | zero => rfl
  | succ m ih => exact (sit_f h1 h2).trans ih
theorem on0_f {g : Nat} (h1 : g ≠ 0) : on0 S g = S g := by funext k; unfold on0 sset; rw [if_neg (fun z => h1 z.1), if_neg (fun z => h1 z.1)]
theorem on0_0 {k : Nat} (h1 : k ≠ 8) (h2 : k ≠ 9) : on0 S 0 k = S 0 k := by unfold on0 sset; rw [if_neg (fun z => h2 z.2), if_neg (fun z => h1 z.2)]
theorem sgn_b {x y z : Int} (g : sgnOK x y z) (hy : 0 ≤ y) (hz : 0 ≤ z) (hx : 0 ≤ x) : (0 ≤ x ∧ x ≤ 26) ∧ (0 ≤ y ∧ y ≤ 99) ∧ (x = 0 → y = 0) ∧ (0 ≤ z ∧ z ≤ 26) := by
  obtain ⟨g1, g2, g3⟩ := g
  split at g2 <;> omega
theorem CInv.signed {x : Nat} {v1 v2 v3 v4 : Int32} {a b c t : Int} (q : CInv S dr tl I J) (g : (0 ≤ a ∧ a ≤ 26) ∧ (0 ≤ b ∧ b ≤ 99) ∧ (a = 0 → b = 0) ∧ (0 ≤ c ∧ c ≤ 26)) (e1 : v1.toInt = a) (e2 : v2.toInt = b) (e3 : v3.toInt = t) (e4 : v4.toInt = c) : CInv (sgnW S x a b c t) dr tl (xwI (xwI (xwI (xwI I 55 x v1) 56 x v2) 57 x v3) 58 x v4) J := (q.inked g.1 g.2.1 g.2.2.1 e1 e2 e3).ghost g.2.2.2.1 g.2.2.2.2 e4
theorem xwI_comm {a k a' k' : Nat} {v v' : Int32} (h : a ≠ a') : xwI (xwI I a k v) a' k' v' = xwI (xwI I a' k' v') a k v := by
  funext b j
  by_cases e1 : b = a
  · subst e1
    rw [xwI_ne (a := a') h]
    by_cases e2 : j = k
    · rw [e2, xg, xg]
    · rw [xgn e2, xgn e2, xwI_ne h]
  · by_cases e2 : b = a'
    · subst e2
      rw [xwI_ne (a := a) e1]
      by_cases e3 : j = k'
      · rw [e3, xg, xg]
      · rw [xgn e3, xgn e3, xwI_ne e1]
    · rw [xwI_ne e2, xwI_ne e1, xwI_ne e1, xwI_ne e2]
theorem MInv.signed {x : Nat} {v1 v2 v3 v4 : Int32} {a b c t : Int} (q : MInv S I J) (g : (0 ≤ a ∧ a ≤ 26) ∧ (0 ≤ b ∧ b ≤ 99) ∧ (a = 0 → b = 0) ∧ (0 ≤ c ∧ c ≤ 26)) (e1 : v1.toInt = a) (e2 : v2.toInt = b) (e3 : v3.toInt = c) (e4 : v4.toInt = t) : MInv (sgnW S x a b c t) (xwI (xwI (xwI (xwI I 110 x v1) 111 x v2) 113 x v3) 112 x v4) J := by
  rw [xwI_comm (a := 113) (a' := 112) (by decide)]
  have cc : MIc S (xwI (xwI (xwI I 110 x v1) 111 x v2) 112 x v4) := q.2.2.2.2.1
  have q1 := q.made (I2 := xwI (xwI (xwI I 110 x v1) 111 x v2) 112 x v4) (x := x) (v := a) (e := b) (t := t) (Or.inl rfl) q.1 g.1 g.2.1 g.2.2.1 cc (fun a g1 g2 g3 g4 g5 g6 g7 => by rw [xwI_ne g4, xwI_ne g3, xwI_ne g2]) (fun j _ _ => by rw [xwI_ne (by decide), xwI_ne (by decide), xwI_ne (by decide)]) (by rw [xwI_ne (by decide), xwI_ne (by decide), xg]; exact e1) (fun j hj => by rw [xwI_ne (by decide), xwI_ne (by decide), xgn hj]) (by rw [xwI_ne (by decide), xg]; exact e2) (fun j hj => by rw [xwI_ne (by decide), xgn hj, xwI_ne (by decide)]) (fun _ _ => by rw [xg]; exact e4) (fun j hj => by rw [xgn hj, xwI_ne (by decide), xwI_ne (by decide)])
  exact q1.ghost g.2.2.2.1 g.2.2.2.2 e3
/-- places of one leaf -/
theorem c_on_places {l b : Nat} (el : a3.toInt = l) (hl : isL S l) (hf : S 1 = f) (hh : sHr S = h) (hfit : (b : Int) + 3 * S 5 l ≤ sTp S) (ok : ∀ i : Nat, (i : Int) < S 5 l → sgnOK (f (b + 3 * i)) (f (b + 3 * i + 1)) (f (b + 3 * i + 2))) : ∀ (m k : Nat) (c i : Int32) (I : Nat → Nat → Int32), ((k + m : Nat) : Int) = S 5 l → i.toInt = k → c.toInt = b + 3 * k → CInv (onL f h S l b k) dr tl I J → (∀ (c : Int32) (I1 : Nat → Nat → Int32), c.toInt = b + 3 * S 5 l → keepM I I1 J J → CInv (onL f h S l b (S 5 l).toNat) dr tl I1 J → WP ((d + 4), 43, 12, [some (.ref 30), some (.ref 3), some (.int c), some (.int (a3 + 1)), none], [], (xSH L dr tl, I1, J)) Q) → WP ((d + 4), 43, 29, [some (.ref 30), some (.ref 3), some (.int c), some (.int a3), some (.int i)], [], (xSH L dr tl, I, J)) Q := by
  intro m
  induction m with
  | zero =>
    intro k c i I hk hi hcc q K
    have hc := q.cb
    have F0 := onL_f (f := f) (h := h) (S := S) (l := l) (b := b) (g := 0) (by decide) (by decide) (by decide) (by decide) k
    have F5 := onL_f (f := f) (h := h) (S := S) (l := l) (b := b) (g := 5) (by decide) (by decide) (by decide) (by decide) k
    have ep : plc (onL f h S l b k) l = S 5 l := by rw [plc_c F0 F5]; unfold plc; rw [if_pos hl, Int.toNat_natCast]
    refine w43_29 (Or.inl rfl) hc.2.1 ((s_told hc.2.1).v ((s_placesOf hc.1 hc.2.1 hc.2.2.1).u fun r2 h2 => ?_))
    rw [el, ep] at h2
    refine brz lt_ti (fun z => by omega) (fun _ => K c I (by omega) keepM_refl ?_)
    rw [show (S 5 l).toNat = k by omega]; exact q
  | succ m ih =>
    intro k c i I hk hi hcc q K
    have hc := q.cb
    have F0 := onL_f (f := f) (h := h) (S := S) (l := l) (b := b) (g := 0) (by decide) (by decide) (by decide) (by decide) k
    have F1 := onL_f (f := f) (h := h) (S := S) (l := l) (b := b) (g := 1) (by decide) (by decide) (by decide) (by decide) k
    have F5 := onL_f (f := f) (h := h) (S := S) (l := l) (b := b) (g := 5) (by decide) (by decide) (by decide) (by decide) k
    have ep : plc (onL f h S l b k) l = S 5 l := by rw [plc_c F0 F5]; unfold plc; rw [if_pos hl, Int.toNat_natCast]
    have pb := plc_le hc.1 (l : Int)
    have e1 : (i + 1).toInt = ((k + 1 : Nat) : Int) := by rw [add1 (by omega) (by omega), hi]; rfl
    have tp := q.tape3
    have tn : sTp (onL f h S l b k) = sTp S := by unfold sTp; rw [F0]
    rw [tn, F1, hf] at tp
    have t16 := tp.2.1
    have c0 : c.toInt = ((b + 3 * k : Nat) : Int) := by omega
    have c1 : (c + 1).toInt = ((b + 3 * k + 1 : Nat) : Int) := by rw [add1 (by omega) (by omega)]; omega
    have c2 : (c + 2).toInt = ((b + 3 * k + 2 : Nat) : Int) := by rw [addn (by omega) (by omega) (by decide) (by decide)]; show c.toInt + 2 = _; omega
    have c3 : (c + 3).toInt = b + 3 * ((k + 1 : Nat) : Int) := by rw [addn (by omega) (by omega) (by decide) (by decide)]; show c.toInt + 3 = _; omega
    have b0 := (tp.2.2 (b + 3 * k) (by omega)).2
    have b1 := (tp.2.2 (b + 3 * k + 1) (by omega)).2
    have b2 := (tp.2.2 (b + 3 * k + 2) (by omega)).2
    have sb := sgn_b (ok k (by omega)) b1.1 b2.1 b0.1
    have hP : isP (onL f h S l b k) a3.toInt i.toInt := by rw [el, hi]; exact plc_lt (by omega)
    obtain ⟨s1, s2, s3⟩ := slot_c hc.1 hP
    have hr : (I 30 9).toInt = h := by rw [hc.2.2.2.1]; show onL f h S l b k 0 8 = h; rw [F0]; exact hh
    refine w43_29 (Or.inl rfl) hc.2.1 ((s_told hc.2.1).v ((s_placesOf hc.1 hc.2.1 hc.2.2.1).u fun r2 h2 => ?_))
    rw [el, ep] at h2
    refine brz lt_ti (fun _ => (s_byte (Or.inl rfl) tp (by omega) (by omega)).u fun r4 g4 => (s_byte (Or.inl rfl) tp (by omega) (by omega)).u fun r5 g5 => (s_byte (Or.inl rfl) tp (by omega) (by omega)).u fun r6 g6 => w134_0 hc.2.1 ((s_hasPlace hc.1 hc.2.1 hc.2.2.1).u (fun _ => br1 (s_slot.i ⟨s3, s3, s3, s3, _, _, rfl, rfl, ih (k + 1) _ _ _ (by omega) e1 c3 ?_ fun c' I2 y1 y2 y3 => K c' I2 y1 ((((keepM_I (by decide)).tr (keepM_I (by decide))).tr ((keepM_I (by decide)).tr (keepM_I (by decide)))).tr y2) y3⟩)) (fun z => absurd hP z))) (fun z => by omega)
    rw [c0, Int.toNat_natCast] at g4
    rw [c1, Int.toNat_natCast] at g5
    rw [c2, Int.toNat_natCast] at g6
    rw [s2, el, hi]
    exact q.signed sb g4 g5 hr g6
theorem c_on_leaves (hw : WF S) (hf : S 1 = f) (hh : sHr S = h) (hfit : 2 + 3 * tot S ≤ sTp S) (ok : allF (sgnAt f) 0 (tot S).toNat) : ∀ (m k : Nat) (c i : Int32) (I : Nat → Nat → Int32), ((k + m : Nat) : Int) = sNL S → i.toInt = k → c.toInt = 2 + 3 * sumI (S 5) k → CInv (onA f h S k) dr tl I J → (∀ (c : Int32) (I1 : Nat → Nat → Int32), c.toInt = 2 + 3 * tot S → keepM I I1 J J → CInv (onA f h S (sNL S).toNat) dr tl I1 J → WP ((d + 4), 43, 85, [some (.ref 30), some (.ref 3), some (.int c), some (.int 0), none], [], (xSH L dr tl, I1, J)) Q) → WP ((d + 4), 43, 12, [some (.ref 30), some (.ref 3), some (.int c), some (.int i), none], [], (xSH L dr tl, I, J)) Q := by
  have hLn := hw.2.2.1
  intro m
  induction m with
  | zero =>
    intro k c i I hk hi hcc q K
    have hc := q.cb
    have F0 := onA_f (f := f) (h := h) (S := S) (g := 0) (by decide) (by decide) (by decide) (by decide) k
    have e0 : sNL (onA f h S k) = sNL S := by unfold sNL; rw [F0]
    refine w43_12 (Or.inl rfl) hc.2.1 ((s_told hc.2.1).v ((s_size (sp4 hc.2.1) hc.2.2.1.1.2.1).u fun r2 h2 => brz lt_ti (fun z => by omega) (fun _ => K c I ?_ keepM_refl ?_)))
    · rw [hcc]; unfold tot; rw [show (sNL S).toNat = k by omega]
    · rw [show (sNL S).toNat = k by omega]; exact q
  | succ m ih =>
    intro k c i I hk hi hcc q K
    have hc := q.cb
    have F0 := onA_f (f := f) (h := h) (S := S) (g := 0) (by decide) (by decide) (by decide) (by decide) k
    have F1 := onA_f (f := f) (h := h) (S := S) (g := 1) (by decide) (by decide) (by decide) (by decide) k
    have F5 := onA_f (f := f) (h := h) (S := S) (g := 5) (by decide) (by decide) (by decide) (by decide) k
    have e0 : sNL (onA f h S k) = sNL S := by unfold sNL; rw [F0]
    have e1 : (i + 1).toInt = ((k + 1 : Nat) : Int) := by rw [add1 (by omega) (by omega), hi]; rfl
    have sb := sumL_b hw k (by omega)
    have s1 : sumI (S 5) (k + 1) = sumI (S 5) k + S 5 k := rfl
    have lb := hLn.2.2 k (by omega)
    have mono : sumI (S 5) (k + 1) ≤ tot S := by
      have : ∀ j : Nat, ((k + 1 + j : Nat) : Int) ≤ sNL S → sumI (S 5) (k + 1) ≤ sumI (S 5) (k + 1 + j) := by
        intro j
        induction j with
        | zero => intro _; exact Int.le_refl _
        | succ j ihj =>
          intro hj
          have h1 := ihj (by omega)
          have h2 := hLn.2.2 (k + 1 + j) (by omega)
          show _ ≤ sumI (S 5) (k + 1 + j) + S 5 (k + 1 + j)
          omega
      have h3 := this m (by omega)
      unfold tot
      rw [show (sNL S).toNat = k + 1 + m by omega]; exact h3
    refine w43_12 (Or.inl rfl) hc.2.1 ((s_told hc.2.1).v ((s_size (sp4 hc.2.1) hc.2.2.1.1.2.1).u fun r2 h2 => brz lt_ti (fun _ => c_on_places (f := f) (h := h) (S := onA f h S k) (l := k) (b := (2 + 3 * sumI (S 5) k).toNat) hi ⟨by omega, by omega⟩ (by rw [F1]; exact hf) (by unfold sHr; rw [F0]; exact hh) ?_ ?_ (S 5 k).toNat 0 c 0 I ?_ rfl (by omega) q fun c' I1 g1 g2 g3 => ih (k + 1) _ _ I1 (by omega) e1 ?_ ?_ fun c2 I2 y1 y2 y3 => K c2 I2 y1 (g2.tr y2) y3) (fun z => by omega)))
    · unfold sTp; rw [F0, F5]; show _ ≤ sTp S; omega
    · intro j hj
      rw [F5] at hj
      have := ok ((sumI (S 5) k).toNat + j) (by omega) (by omega)
      unfold sgnAt at this
      rw [show (2 + 3 * sumI (S 5) k).toNat + 3 * j = 2 + 3 * ((sumI (S 5) k).toNat + j) by omega]; exact this
    · rw [F5]; omega
    · rw [F5] at g1; rw [g1, s1]; omega
    · rw [F5] at g3; exact g3
theorem c_on_readers {o : Nat} (hN : 0 ≤ sNR S ∧ sNR S ≤ 4) (hf : S 1 = f) (hfit : (o : Int) + 2 * sNR S ≤ sTp S) (ok : allF (seatAt S f o) 0 (sNR S).toNat) : ∀ (m k : Nat) (c i : Int32) (I : Nat → Nat → Int32), ((k + m : Nat) : Int) = sNR S → i.toInt = k → c.toInt = o + 2 * k → CInv (onR f S o k) dr tl I J → (∀ (I1 : Nat → Nat → Int32), keepM I I1 J J → CInv (onR f S o (sNR S).toNat) dr tl I1 J → Q none (xSH L dr tl, I1, J)) → WP ((d + 4), 43, 85, [some (.ref 30), some (.ref 3), some (.int c), some (.int i), none], [], (xSH L dr tl, I, J)) Q := by
  intro m
  induction m with
  | zero =>
    intro k c i I hk hi hcc q K
    have hc := q.cb
    have F0 := onR_f (f := f) (S := S) (o := o) (g := 0) (by decide) (by decide) k
    have e0 : sNR (onR f S o k) = sNR S := by unfold sNR; rw [F0]
    refine w43_85 (Or.inl rfl) hc.2.1 ((s_told hc.2.1).v ((s_size (sp7 hc.2.1) hc.2.2.1.1.2.2.1).u fun r2 h2 => brz lt_ti (fun z => by omega) (fun _ => K I keepM_refl ?_)))
    rw [show (sNR S).toNat = k by omega]; exact q
  | succ m ih =>
    intro k c i I hk hi hcc q K
    have hc := q.cb
    have F0 := onR_f (f := f) (S := S) (o := o) (g := 0) (by decide) (by decide) k
    have F1 := onR_f (f := f) (S := S) (o := o) (g := 1) (by decide) (by decide) k
    have F5 := onR_f (f := f) (S := S) (o := o) (g := 5) (by decide) (by decide) k
    have e0 : sNR (onR f S o k) = sNR S := by unfold sNR; rw [F0]
    have e1 : (i + 1).toInt = ((k + 1 : Nat) : Int) := by rw [add1 (by omega) (by omega), hi]; rfl
    have tp := q.tape3
    have tn : sTp (onR f S o k) = sTp S := by unfold sTp; rw [F0]
    rw [tn, F1, hf] at tp
    have t16 := tp.2.1
    have c0 : c.toInt = ((o + 2 * k : Nat) : Int) := by omega
    have c1 : (c + 1).toInt = ((o + 2 * k + 1 : Nat) : Int) := by rw [add1 (by omega) (by omega)]; omega
    have c2 : (c + 2).toInt = o + 2 * ((k + 1 : Nat) : Int) := by rw [addn (by omega) (by omega) (by decide) (by decide)]; show c.toInt + 2 = _; omega
    have b0 := (tp.2.2 (o + 2 * k) (by omega)).2
    have b1 := (tp.2.2 (o + 2 * k + 1) (by omega)).2
    have hx : xin i 4 = true := by rw [xin_iff, hi]; omega
    have xi : xIx i = k := by rw [xIx_ti, hi]; exact Int.toNat_natCast _
    have hrd : isRd (onR f S o k) i.toInt := ⟨by omega, by omega⟩
    have pl : (f (o + 2 * k) - 1 = -1 ∧ f (o + 2 * k + 1) = 0) ∨ isP (onR f S o k) (f (o + 2 * k) - 1) (f (o + 2 * k + 1)) := by
      rcases ok k (by omega) (by omega) with z | z
      · left; omega
      · right; exact (isP_c F0 F5 _ _).mpr z.2
    refine w43_85 (Or.inl rfl) hc.2.1 ((s_told hc.2.1).v ((s_size (sp7 hc.2.1) hc.2.2.1.1.2.2.1).u fun r2 h2 => brz lt_ti (fun _ => (s_byte (Or.inl rfl) tp (by omega) (by omega)).u fun r4 g4 => (s_byte (Or.inl rfl) tp (by omega) (by omega)).u fun r5 g5 => w135_0 hc.2.1 ((s_hasReader hc.2.1 hc.2.2.1).u (fun _ => br1 ⟨hx, hx, _, _, rfl, rfl, ih (k + 1) _ _ _ (by omega) e1 c2 ?_ fun I2 y2 y3 => K I2 (((keepM_I (by decide)).tr (keepM_I (by decide))).tr y2) y3⟩) (fun y => absurd hrd y))) (fun z => by omega)))
    rw [c0, Int.toNat_natCast] at g4
    rw [c1, Int.toNat_natCast] at g5
    have g4' : (r4 - 1).toInt = f (o + 2 * k) - 1 := by rw [sub1 (by omega), g4]
    rw [xi]
    exact q.sits pl g4' g5
end ON3
