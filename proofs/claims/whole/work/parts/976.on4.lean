/-! ===== on: the reference, the call ===== -/
/-- the reference's memory as if changes were cleared and the tape not -/
def asIf (b : Int32) (I : Nat → Nat → Int32) : Nat → Nat → Int32 := xwI (xwI I 71 65 0) 71 1 b
section ON4
variable {S T : aS} {L d dr tl t : Nat} {I : Nat → Nat → Int32} {J : Nat → Nat → Int64} {a1 a2 a3 a4 a5 b x : Int32} {f : Nat → Int} {n0 h : Int} {Q : Option Value → xMem → Prop}
theorem asIf_w {a k : Nat} {v : Int32} (ha : a ≠ 71) : asIf b (xwI I a k v) = xwI (asIf b I) a k v := by
  unfold asIf
  rw [xwI_comm ha, xwI_comm ha]
theorem asIf_c {a : Nat} (ha : a ≠ 71) : asIf b I a = I a := by unfold asIf; rw [xwI_ne ha, xwI_ne ha]
theorem asIf_b (q : MInv S (asIf b I) J) : MIb S I J := q.2.1
theorem asIf_t (q : MInv S (asIf b I) J) : tapeM (sTp S) (S 1) I := ⟨q.1.1.2.1, fun j hj => ⟨q.2.2.2.2.2.1.2 j hj, q.1.1.2.2 j hj⟩⟩
theorem asIf_h (q : MInv S (asIf b I) J) : (I 71 55).toInt = sHr S := q.2.2.2.1.1
theorem m_on_places {l o : Nat} (el : a3.toInt = l) (hl : isL S l) (hf : S 1 = f) (hh : sHr S = h) (hfit : (o : Int) + 3 * S 5 l ≤ sTp S) (ok : ∀ i : Nat, (i : Int) < S 5 l → sgnOK (f (o + 3 * i)) (f (o + 3 * i + 1)) (f (o + 3 * i + 2))) : ∀ (m k : Nat) (c i : Int32) (I : Nat → Nat → Int32), ((k + m : Nat) : Int) = S 5 l → i.toInt = k → c.toInt = o + 3 * k → MInv (onL f h S l o k) (asIf b I) J → (∀ (c : Int32) (I1 : Nat → Nat → Int32), c.toInt = o + 3 * S 5 l → I1 71 = I 71 → keepC I I1 J J → MInv (onL f h S l o (S 5 l).toNat) (asIf b I1) J → WP ((d + 4), 315, 45, [some (.ref 71), none, some (.int c), some (.int (a3 + 1)), none, none], [], (xSH L dr tl, I1, J)) Q) → WP ((d + 4), 315, 56, [some (.ref 71), none, some (.int c), some (.int a3), some (.int i), none], [], (xSH L dr tl, I, J)) Q := by
  intro m
  induction m with
  | zero =>
    intro k c i I hk hi hcc q K
    have F0 := onL_f (f := f) (h := h) (S := S) (l := l) (b := o) (g := 0) (by decide) (by decide) (by decide) (by decide) k
    have F5 := onL_f (f := f) (h := h) (S := S) (l := l) (b := o) (g := 5) (by decide) (by decide) (by decide) (by decide) k
    have hl' : isL (onL f h S l o k) a3.toInt := by rw [el]; unfold isL sNL; rw [F0]; exact hl
    refine w315_56 ((m_length q.1 (asIf_b q) hl').u fun r1 g1 => ?_)
    rw [el, Int.toNat_natCast, F5] at g1
    refine brz lt_ti (fun z => by omega) (fun _ => K c I (by omega) rfl keepC_refl ?_)
    rw [show (S 5 l).toNat = k by omega]; exact q
  | succ m ih =>
    intro k c i I hk hi hcc q K
    have F0 := onL_f (f := f) (h := h) (S := S) (l := l) (b := o) (g := 0) (by decide) (by decide) (by decide) (by decide) k
    have F1 := onL_f (f := f) (h := h) (S := S) (l := l) (b := o) (g := 1) (by decide) (by decide) (by decide) (by decide) k
    have F5 := onL_f (f := f) (h := h) (S := S) (l := l) (b := o) (g := 5) (by decide) (by decide) (by decide) (by decide) k
    have hl' : isL (onL f h S l o k) a3.toInt := by rw [el]; unfold isL sNL; rw [F0]; exact hl
    have lb := q.1.2.2.1.2.2 l (by have := hl'.2; omega)
    rw [F5] at lb
    have ep : plc (onL f h S l o k) l = S 5 l := by rw [plc_c F0 F5]; unfold plc; rw [if_pos hl, Int.toNat_natCast]
    have e1 : (i + 1).toInt = ((k + 1 : Nat) : Int) := by rw [add1 (by omega) (by omega), hi]; rfl
    have tp := asIf_t q
    have tn : sTp (onL f h S l o k) = sTp S := by unfold sTp; rw [F0]
    rw [tn, F1, hf] at tp
    have t16 := tp.1
    have c1 : (c + 1).toInt = ((o + 3 * k + 1 : Nat) : Int) := by rw [add1 (by omega) (by omega)]; omega
    have c2 : (c + 2).toInt = ((o + 3 * k + 2 : Nat) : Int) := by rw [addn (by omega) (by omega) (by decide) (by decide)]; show c.toInt + 2 = _; omega
    have c3 : (c + 3).toInt = o + 3 * ((k + 1 : Nat) : Int) := by rw [addn (by omega) (by omega) (by decide) (by decide)]; show c.toInt + 3 = _; omega
    have y0 : xIx c = o + 3 * k := by rw [xIx_ti]; omega
    have y1 : xIx (c + 1) = o + 3 * k + 1 := by rw [xIx_ti, c1]; exact Int.toNat_natCast _
    have y2 : xIx (c + 2) = o + 3 * k + 2 := by rw [xIx_ti, c2]; exact Int.toNat_natCast _
    obtain ⟨v0, b0⟩ := tp.2 (o + 3 * k) (by omega)
    obtain ⟨v1, b1⟩ := tp.2 (o + 3 * k + 1) (by omega)
    obtain ⟨v2, b2⟩ := tp.2 (o + 3 * k + 2) (by omega)
    have sb := sgn_b (ok k (by omega)) b1.1 b2.1 b0.1
    have hP : isP (onL f h S l o k) a3.toInt i.toInt := by rw [el, hi]; exact plc_lt (by omega)
    obtain ⟨s1, s2, s3⟩ := slot_m q.1 hP
    have hr : (I 71 55).toInt = h := by rw [asIf_h q]; show onL f h S l o k 0 8 = h; rw [F0]; exact hh
    refine w315_56 ((m_length q.1 (asIf_b q) hl').u fun r1 g1 => ?_)
    rw [el, Int.toNat_natCast, F5] at g1
    refine brz lt_ti (fun _ => ⟨by rw [xin_iff]; omega, s3, by rw [xin_iff]; omega, s3, by rw [xin_iff]; omega, s3, s3, ih (k + 1) _ _ _ (by omega) e1 c3 ?_ fun c' I2 z1 z2 z3 z4 => K c' I2 z1 z2 ((((keepC_I (by decide)).tr (keepC_I (by decide))).tr ((keepC_I (by decide)).tr (keepC_I (by decide)))).tr z3) z4⟩) (fun z => by omega)
    rw [s2, el, hi, asIf_w (by decide), asIf_w (by decide), asIf_w (by decide), asIf_w (by decide), y0, y1, y2]
    exact q.signed sb v0 v1 v2 hr
theorem m_on_leaves (hw : WF S) (hf : S 1 = f) (hh : sHr S = h) (hfit : 2 + 3 * tot S ≤ sTp S) (ok : allF (sgnAt f) 0 (tot S).toNat) : ∀ (m k : Nat) (c i : Int32) (I : Nat → Nat → Int32), ((k + m : Nat) : Int) = sNL S → i.toInt = k → c.toInt = 2 + 3 * sumI (S 5) k → MInv (onA f h S k) (asIf b I) J → (∀ (c : Int32) (I1 : Nat → Nat → Int32), c.toInt = 2 + 3 * tot S → I1 71 = I 71 → keepC I I1 J J → MInv (onA f h S (sNL S).toNat) (asIf b I1) J → WP ((d + 4), 315, 146, [some (.ref 71), none, some (.int c), some (.int 0), none, none], [], (xSH L dr tl, I1, J)) Q) → WP ((d + 4), 315, 45, [some (.ref 71), none, some (.int c), some (.int i), none, none], [], (xSH L dr tl, I, J)) Q := by
  have hLn := hw.2.2.1
  intro m
  induction m with
  | zero =>
    intro k c i I hk hi hcc q K
    have F0 := onA_f (f := f) (h := h) (S := S) (g := 0) (by decide) (by decide) (by decide) (by decide) k
    have e0 : sNL (onA f h S k) = sNL S := by unfold sNL; rw [F0]
    refine w315_45 ((m_leaves (asIf_b q)).u fun r2 h2 => brz lt_ti (fun z => by omega) (fun _ => K c I ?_ rfl keepC_refl ?_))
    · rw [hcc]; unfold tot; rw [show (sNL S).toNat = k by omega]
    · rw [show (sNL S).toNat = k by omega]; exact q
  | succ m ih =>
    intro k c i I hk hi hcc q K
    have F0 := onA_f (f := f) (h := h) (S := S) (g := 0) (by decide) (by decide) (by decide) (by decide) k
    have F1 := onA_f (f := f) (h := h) (S := S) (g := 1) (by decide) (by decide) (by decide) (by decide) k
    have F5 := onA_f (f := f) (h := h) (S := S) (g := 5) (by decide) (by decide) (by decide) (by decide) k
    have e0 : sNL (onA f h S k) = sNL S := by unfold sNL; rw [F0]
    have e1 : (i + 1).toInt = ((k + 1 : Nat) : Int) := by rw [add1 (by omega) (by omega), hi]; rfl
    have sb := sumL_b hw k (by omega)
    have s1 : sumI (S 5) (k + 1) = sumI (S 5) k + S 5 k := rfl
    have lb := hLn.2.2 k (by omega)
    have mono : sumI (S 5) (k + 1) ≤ tot S := by
      have : ∀ j : Nat, ((k + 1 + j : Nat) : Int) ≤ sNL S → sumI (S 5) (k + 1) ≤ sumI (S 5) (k + 1 + j) := by
        intro j
        induction j with
        | zero => intro _; exact Int.le_refl _
        | succ j ihj =>
          intro hj
          have h1 := ihj (by omega)
          have h2 := hLn.2.2 (k + 1 + j) (by omega)
          show _ ≤ sumI (S 5) (k + 1 + j) + S 5 (k + 1 + j)
          omega
      have h3 := this m (by omega)
      unfold tot
      rw [show (sNL S).toNat = k + 1 + m by omega]; exact h3
    refine w315_45 ((m_leaves (asIf_b q)).u fun r2 h2 => brz lt_ti (fun _ => m_on_places (f := f) (h := h) (S := onA f h S k) (l := k) (o := (2 + 3 * sumI (S 5) k).toNat) hi ⟨by omega, by omega⟩ (by rw [F1]; exact hf) (by unfold sHr; rw [F0]; exact hh) ?_ ?_ (S 5 k).toNat 0 c 0 I ?_ rfl (by omega) q fun c' I1 g1 g4 g2 g3 => ih (k + 1) _ _ I1 (by omega) e1 ?_ ?_ fun c2 I2 y1 y4 y2 y3 => K c2 I2 y1 (y4.trans g4) (g2.tr y2) y3) (fun z => by omega))
    · unfold sTp; rw [F0, F5]; show _ ≤ sTp S; omega
    · intro j hj
      rw [F5] at hj
      have := ok ((sumI (S 5) k).toNat + j) (by omega) (by omega)
      unfold sgnAt at this
      rw [show (2 + 3 * sumI (S 5) k).toNat + 3 * j = 2 + 3 * ((sumI (S 5) k).toNat + j) by omega]; exact this
    · rw [F5]; omega
    · rw [F5] at g1; rw [g1, s1]; omega
    · rw [F5] at g3; exact g3
theorem m_on_readers {o : Nat} (hN : 0 ≤ sNR S ∧ sNR S ≤ 4) (hf : S 1 = f) (hfit : (o : Int) + 2 * sNR S ≤ sTp S) (ok : allF (seatAt S f o) 0 (sNR S).toNat) : ∀ (m k : Nat) (c i : Int32) (I : Nat → Nat → Int32), ((k + m : Nat) : Int) = sNR S → i.toInt = k → c.toInt = o + 2 * k → MInv (onR f S o k) (asIf b I) J → (∀ (I1 : Nat → Nat → Int32), I1 71 = I 71 → keepC I I1 J J → MInv (onR f S o (sNR S).toNat) (asIf b I1) J → Q (some (.int 1)) (xSH L dr tl, xwI I1 71 65 0, J)) → WP ((d + 4), 315, 146, [some (.ref 71), none, some (.int c), some (.int i), none, none], [], (xSH L dr tl, I, J)) Q := by
  intro m
  induction m with
  | zero =>
    intro k c i I hk hi hcc q K
    have F0 := onR_f (f := f) (S := S) (o := o) (g := 0) (by decide) (by decide) k
    have e0 : sNR (onR f S o k) = sNR S := by unfold sNR; rw [F0]
    refine w315_146 ((m_people (asIf_b q)).u fun r2 h2 => brz lt_ti (fun z => by omega) (fun _ => K I rfl keepC_refl ?_))
    rw [show (sNR S).toNat = k by omega]; exact q
  | succ m ih =>
    intro k c i I hk hi hcc q K
    have F0 := onR_f (f := f) (S := S) (o := o) (g := 0) (by decide) (by decide) k
    have F1 := onR_f (f := f) (S := S) (o := o) (g := 1) (by decide) (by decide) k
    have F5 := onR_f (f := f) (S := S) (o := o) (g := 5) (by decide) (by decide) k
    have e0 : sNR (onR f S o k) = sNR S := by unfold sNR; rw [F0]
    have e1 : (i + 1).toInt = ((k + 1 : Nat) : Int) := by rw [add1 (by omega) (by omega), hi]; rfl
    have tp := asIf_t q
    have tn : sTp (onR f S o k) = sTp S := by unfold sTp; rw [F0]
    rw [tn, F1, hf] at tp
    have t16 := tp.1
    have c1 : (c + 1).toInt = ((o + 2 * k + 1 : Nat) : Int) := by rw [add1 (by omega) (by omega)]; omega
    have c2 : (c + 2).toInt = o + 2 * ((k + 1 : Nat) : Int) := by rw [addn (by omega) (by omega) (by decide) (by decide)]; show c.toInt + 2 = _; omega
    have y0 : xIx c = o + 2 * k := by rw [xIx_ti]; omega
    have y1 : xIx (c + 1) = o + 2 * k + 1 := by rw [xIx_ti, c1]; exact Int.toNat_natCast _
    obtain ⟨v0, b0⟩ := tp.2 (o + 2 * k) (by omega)
    obtain ⟨v1, b1⟩ := tp.2 (o + 2 * k + 1) (by omega)
    have hx : xin i 4 = true := by rw [xin_iff, hi]; omega
    have xi : xIx i = k := by rw [xIx_ti, hi]; exact Int.toNat_natCast _
    have pl : (f (o + 2 * k) - 1 = -1 ∧ f (o + 2 * k + 1) = 0) ∨ isP (onR f S o k) (f (o + 2 * k) - 1) (f (o + 2 * k + 1)) := by
      rcases ok k (by omega) (by omega) with z | z
      · left; omega
      · right; exact (isP_c F0 F5 _ _).mpr z.2
    refine w315_146 ((m_people (asIf_b q)).u fun r2 h2 => brz lt_ti (fun _ => ⟨by rw [xin_iff]; omega, hx, by rw [xin_iff]; omega, hx, ih (k + 1) _ _ _ (by omega) e1 c2 ?_ fun I2 y4 y2 y3 => K I2 y4 (((keepC_I (by decide)).tr (keepC_I (by decide))).tr y2) y3⟩) (fun z => by omega))
    have g4' : (I 72 (o + 2 * k) - 1).toInt = f (o + 2 * k) - 1 := by rw [sub1 (by omega), v0]
    rw [xi, asIf_w (by decide), asIf_w (by decide), y0, y1]
    exact q.sits pl g4' v1
theorem WF.on0 {h : Int} (w : WF S) (h0 : 0 ≤ h) (h1 : h ≤ 9999) : WF (sset (sset S 0 8 h) 0 9 0) := by
  obtain ⟨g1, g2, g3, g4, g5, g6, g7, g8, g9, g10, g11, g12, g13⟩ := w
  exact ⟨g1, g2, g3, g4, g5, g6, ⟨h0, Int.le_trans h1 (by decide)⟩, g8, g9, ⟨(by decide : (0 : Int) ≤ 0), (by decide : (0 : Int) ≤ 400), fun k hk => by have hk' : (k : Int) < 0 := hk; omega⟩, g11, g12, g13⟩
theorem CInv.on0 {h : Int} {v : Int32} (q : CInv S dr tl I J) (h0 : 0 ≤ h) (h1 : h ≤ 9999) (e : v.toInt = h) : CInv (sset (sset S 0 8 h) 0 9 0) dr tl (xwI (xwI (xwI I 30 9 v) 53 1 0) 53 2 0) J := by
  obtain ⟨g1, g2, g3, g4, g5, g6, g7, g8, g9, g10, g11, g12⟩ := q
  have g6' : CIw (sset (sset S 0 8 h) 0 9 0) (xwI (xwI (xwI I 30 9 v) 53 1 0) 53 2 0) := ⟨e, g6.2.1, g6.2.2⟩
  have g7' : CIc (sset (sset S 0 8 h) 0 9 0) (xwI (xwI (xwI I 30 9 v) 53 1 0) 53 2 0) := ⟨rfl, 0, by decide, rfl, fun k hk => by have hk' : (k : Int) < 0 := hk; omega⟩
  have g2' : RW (sset (sset S 0 8 h) 0 9 0) := ⟨⟨g2.1.1, h1⟩, g2.2⟩
  rcases g3 with ⟨rfl, rfl⟩ | ⟨rfl, rfl⟩
  · exact ⟨g1.on0 h0 h1, g2', Or.inl ⟨rfl, rfl⟩, g4, g5, g6', g7', g8, g9, g10, g11, g12⟩
  · exact ⟨g1.on0 h0 h1, g2', Or.inr ⟨rfl, rfl⟩, g4, g5, g6', g7', g8, g9, g10, g11, g12⟩
theorem MInv.on0 {h : Int} {v : Int32} (q : MInv S I J) (h0 : 0 ≤ h) (h1 : h ≤ 9999) (e : v.toInt = h) : MInv (sset (sset S 0 8 h) 0 9 0) (xwI (xwI I 71 55 v) 71 65 0) J := by
  obtain ⟨g1, g2, g3, g4, g5, g6, g7, g8, g9, g10⟩ := q
  have g4' : MIw (sset (sset S 0 8 h) 0 9 0) (xwI (xwI I 71 55 v) 71 65 0) := ⟨e, g4.2.1, g4.2.2⟩
  have g5' : MIc (sset (sset S 0 8 h) 0 9 0) (xwI (xwI I 71 55 v) 71 65 0) := by
    obtain ⟨c1, o, c2, c3, c4⟩ := g5
    exact ⟨rfl, o, c2, c3, fun k hk => by have hk' : (k : Int) < 0 := hk; omega⟩
  exact ⟨g1.on0 h0 h1, g2, g3, g4', g5', g6, g7, g8, g9, wordsAt_I (wordsAt_I g10 (by decide)) (by decide)⟩
theorem tot_c (h0 : T 0 = S 0 ∨ T 0 2 = S 0 2) (h5 : T 5 = S 5) : tot T = tot S := by
  unfold tot sNL
  rcases h0 with h | h <;> rw [h, h5]
end ON4
