/-! ===== texts: the rows, the class's side ===== -/
section ROWS2
variable {S : aS} {L d dr tl : Nat} {I : Nat → Nat → Int32} {J J0 : Nat → Nat → Int64} {a1 a2 a3 a4 a5 : Int32} {f : Nat → Int} {l : Int} {n p k w : Nat} {Q : Option Value → xMem → Prop}
theorem on_words (hc : CB S tl I) (ho : CIo 8 I ∧ CIo 31 I) (hf : okM f) (e3 : a3.toInt = p) (hp : (p : Int) < plc S a1.toInt) : ∀ (m k : Nat) (i : Int32) (J : Nat → Nat → Int64), ((k + m : Nat) : Int) = sNW S → i.toInt = k → (∀ a : Nat, a ≠ 69 → J a = J0 a) → (∀ q : Nat, (q : Int) ≤ plc S a1.toInt → (J 69 q).toInt = rfW S a1.toInt f p k q) → (∀ J1 : Nat → Nat → Int64, (∀ a : Nat, a ≠ 69 → J1 a = J0 a) → (∀ q : Nat, (q : Int) ≤ plc S a1.toInt → (J1 69 q).toInt = rfW S a1.toInt f p (sNW S).toNat q) → WP ((d + 6), 120, 31, [some (.ref 68), some (.int a1), none, some (.int (a3 + (-1))), none], [], (xSH L dr tl, I, J1)) Q) → WP ((d + 6), 120, 38, [some (.ref 68), some (.int a1), none, some (.int a3), some (.int i)], [], (xSH L dr tl, I, J)) Q := by
  have pb := plc_le hc.1 a1.toInt
  have h16 := hc.1.2.2.2.2.1.2.1
  have hn := hc.2.2.1.1.2.2.2.1
  have x3 : xIx a3 = p := by rw [xIx_ti, e3]; exact Int.toNat_natCast _
  have i3 : xin a3 65 = true := by rw [xin_iff, e3]; omega
  intro m
  induction m with
  | zero =>
    intro k i J hk hi h1 h2 K
    refine w120_38 hc.2.1 ((s_told hc.2.1).v ((s_size (sp10 hc.2.1) hn).u fun r2 g2 => brz lt_ti (fun z => by omega) (fun _ => K J h1 ?_)))
    rw [show (sNW S).toNat = k by omega]; exact h2
  | succ m ih =>
    intro k i J hk hi h1 h2 K
    have e1 : (i + 1).toInt = ((k + 1 : Nat) : Int) := by rw [add1 (by omega) (by omega), hi]; rfl
    have wb := wl_b hc.1 (w := k) (by omega)
    have ok := rfW_ok (S := S) (l := a1.toInt) (p := p) hf k
    refine w120_38 hc.2.1 ((s_told hc.2.1).v ((s_size (sp10 hc.2.1) hn).u fun r2 g2 => brz lt_ti (fun _ => (s_fits hc ho (w := k) (p := p) (by omega) hi e3 (by omega)).u (fun y => br1 ⟨i3, (s_behind hc (w := k) (by omega) hi (by omega)).u fun r6 g6 => ?_⟩) (fun y => br0 (ih (k + 1) _ J (by omega) e1 h1 (by rw [rfW_n y]; exact h2) K))) (fun z => by omega)))
    have x6 : xIx r6 = p + wl S k := by rw [xIx_ti, g6]; omega
    have yf := y.1
    have b1 := ok p
    have b2 := ok (p + wl S k)
    rw [x3, x6]
    have v1 := h2 p (by omega)
    have v2 := h2 (p + wl S k) (by omega)
    refine ⟨by rw [xin_iff, g6]; omega, s_minL.u fun r7 g7 => ⟨i3, ih (k + 1) _ _ (by omega) e1 (fun a ha => by rw [xwJ_ne ha]; exact h1 a ha) (fun q hq => ?_) K⟩⟩
    rw [rfW_y y]
    by_cases e : q = p
    · rw [e, jg, updF_s, g7, ladd (by omega) (by omega), v1, v2]; rfl
    · rw [jgn e, updF_n e]; exact h2 q hq
theorem on_places (hc : CB S tl I) (ho : CIo 8 I ∧ CIo 31 I) : ∀ (m k : Nat) (i : Int32) (J : Nat → Nat → Int64), ((k + m : Nat) : Int) = plc S a1.toInt → i.toInt = plc S a1.toInt - 1 - k → (∀ a : Nat, a ≠ 69 → J a = J0 a) → (∀ q : Nat, (q : Int) ≤ plc S a1.toInt → (J 69 q).toInt = rfA S a1.toInt (plc S a1.toInt).toNat k q) → (∀ J1 : Nat → Nat → Int64, (∀ a : Nat, a ≠ 69 → J1 a = J0 a) → (∀ q : Nat, (q : Int) ≤ plc S a1.toInt → (J1 69 q).toInt = rfAll S a1.toInt q) → Q none (xSH L dr tl, I, J1)) → WP ((d + 6), 120, 31, [some (.ref 68), some (.int a1), none, some (.int i), none], [], (xSH L dr tl, I, J)) Q := by
  have pb := plc_le hc.1 a1.toInt
  intro m
  induction m with
  | zero =>
    intro k i J hk hi h1 h2 K
    refine w120_31 (brz lt0 (fun _ => K J h1 ?_) (fun z => by omega))
    unfold rfAll
    rw [show (plc S a1.toInt).toNat = k by omega] at h2 ⊢
    exact h2
  | succ m ih =>
    intro k i J hk hi h1 h2 K
    have e1 : (i + (-1)).toInt = plc S a1.toInt - 1 - ((k + 1 : Nat) : Int) := by rw [add_ti (by show _ ≤ i.toInt + (-1); omega) (by show i.toInt + (-1) < _; omega), hi]; show plc S a1.toInt - 1 - (k : Int) + (-1) = _; omega
    have hN := hc.1.2.2.2.2.1
    exact w120_31 (brz lt0 (fun z => by omega) (fun _ => on_words hc ho (rfA_ok k) (p := (plc S a1.toInt).toNat - 1 - k) (by omega) (by omega) (sNW S).toNat 0 0 J (by omega) rfl h1 h2 fun J1 y1 y2 => ih (k + 1) _ J1 (by omega) e1 y1 y2 K))
theorem s_onward {R : (Nat → Nat → Int32) → (Nat → Nat → Int64) → Prop} (hc : CB S tl I) (ho : CIo 8 I ∧ CIo 31 I) (K : ∀ J1 : Nat → Nat → Int64, (∀ a : Nat, a ≠ 69 → J1 a = J a) → (∀ q : Nat, (q : Int) ≤ plc S a1.toInt → (J1 69 q).toInt = rfAll S a1.toInt q) → R I J1) : WP ((d + 6), 120, 0, [some (.ref 68), some (.int a1), none, none, none], [], (xSH L dr tl, I, J)) (fun v M => ∃ (I2 : Nat → Nat → Int32) (J2 : Nat → Nat → Int64), v = none ∧ M = (xSH L dr tl, I2, J2) ∧ R I2 J2) := by
  have pb := plc_le hc.1 a1.toInt
  refine w120_0 hc.2.1 ((s_told hc.2.1).v ((s_placesOf hc.1 hc.2.1 hc.2.2.1).u fun r2 g2 => s_fillL (Or.inl rfl) fun J1 h1 h2 => ⟨by rw [xin_iff]; omega, ?_⟩))
  have x2 : xIx r2 = (plc S a1.toInt).toNat := by rw [xIx_ti, g2]
  rw [x2]
  refine on_places (J0 := J) hc ho (plc S a1.toInt).toNat 0 _ _ (by omega) (by rw [sub1 (by omega), g2]; omega) (fun a ha => by rw [xwJ_ne ha]; exact h1 a ha) (fun q hq => ?_) fun J2 y1 y2 => ⟨I, J2, rfl, rfl, K J2 y1 y2⟩
  show _ = if q = (plc S a1.toInt).toNat then 1 else 0
  by_cases e : q = (plc S a1.toInt).toNat
  · rw [e, jg, if_pos rfl]; rfl
  · rw [jgn e, if_neg e, h2 q (by omega)]; rfl
theorem up_words (hc : CB S tl I) (ho : CIo 8 I ∧ CIo 31 I) (hf : okM f) (e2 : a2.toInt = p) (hp : (p : Int) < plc S a1.toInt) : ∀ (m k : Nat) (i : Int32) (J : Nat → Nat → Int64), ((k + m : Nat) : Int) = sNW S → i.toInt = k → (∀ a : Nat, a ≠ 70 → J a = J0 a) → (∀ q : Nat, (q : Int) ≤ plc S a1.toInt → (J 70 q).toInt = rtW S a1.toInt f p k q) → (∀ J1 : Nat → Nat → Int64, (∀ a : Nat, a ≠ 70 → J1 a = J0 a) → (∀ q : Nat, (q : Int) ≤ plc S a1.toInt → (J1 70 q).toInt = rtW S a1.toInt f p (sNW S).toNat q) → WP ((d + 6), 121, 17, [some (.ref 68), some (.int a1), some (.int (a2 + 1)), none, none], [], (xSH L dr tl, I, J1)) Q) → WP ((d + 6), 121, 34, [some (.ref 68), some (.int a1), some (.int a2), some (.int i), none], [], (xSH L dr tl, I, J)) Q := by
  have pb := plc_le hc.1 a1.toInt
  have h16 := hc.1.2.2.2.2.1.2.1
  have hn := hc.2.2.1.1.2.2.2.1
  have x3 : xIx a2 = p := by rw [xIx_ti, e2]; exact Int.toNat_natCast _
  have i3 : xin a2 65 = true := by rw [xin_iff, e2]; omega
  intro m
  induction m with
  | zero =>
    intro k i J hk hi h1 h2 K
    refine w121_34 hc.2.1 ((s_told hc.2.1).v ((s_size (sp10 hc.2.1) hn).u fun r2 g2 => brz lt_ti (fun z => by omega) (fun _ => K J h1 ?_)))
    rw [show (sNW S).toNat = k by omega]; exact h2
  | succ m ih =>
    intro k i J hk hi h1 h2 K
    have e1 : (i + 1).toInt = ((k + 1 : Nat) : Int) := by rw [add1 (by omega) (by omega), hi]; rfl
    have wb := wl_b hc.1 (w := k) (by omega)
    have ok := rtW_ok (S := S) (l := a1.toInt) (p := p) hf k
    have b1 := ok p
    have b2 := ok (p + wl S k)
    have v1 := h2 p (by omega)
    refine w121_34 hc.2.1 ((s_told hc.2.1).v ((s_size (sp10 hc.2.1) hn).u fun r2 g2 => brz lt_ti (fun _ => ⟨i3, ?_⟩) (fun z => by omega)))
    rw [x3]
    refine brz xlc_gt (fun u => (s_fits hc ho (w := k) (p := p) (by omega) hi e2 (by omega)).u (fun y => br1 ((s_behind hc (w := k) (by omega) hi (by omega)).u fun r6 g6 => ?_)) (fun y => br0 (ih (k + 1) _ J (by omega) e1 h1 (by rw [rtW_n y]; exact h2) K))) (fun u => ih (k + 1) _ J (by omega) e1 h1 (fun q hq => ?_) K)
    · have x6 : xIx r6 = p + wl S k := by rw [xIx_ti, g6]; omega
      have yf := y.1
      rw [x6]
      have v2 := h2 (p + wl S k) (by omega)
      have i6 : xin r6 65 = true := by rw [xin_iff, g6]; omega
      refine ⟨i6, i3, s_minL.u fun r7 g7 => ⟨i6, ih (k + 1) _ _ (by omega) e1 (fun a ha => by rw [xwJ_ne ha]; exact h1 a ha) (fun q hq => ?_) K⟩⟩
      rw [rtW_y y]
      by_cases e : q = p + wl S k
      · rw [e, jg, updF_s, g7, ladd (by omega) (by omega), v1, v2]; rfl
      · rw [jgn e, updF_n e]; exact h2 q hq
    · have u' : ¬ (0 : Int) < (J 70 p).toInt := u
      have z0 : rtW S a1.toInt f p k p = 0 := by omega
      by_cases y : fitP S a1.toInt k p
      · rw [rtW_y y]
        by_cases e : q = p + wl S k
        · rw [e, updF_s, z0, h2 (p + wl S k) (by rw [e] at hq; exact hq)]; omega
        · rw [updF_n e]; exact h2 q hq
      · rw [rtW_n y]; exact h2 q hq
theorem up_places (hc : CB S tl I) (ho : CIo 8 I ∧ CIo 31 I) : ∀ (m k : Nat) (i : Int32) (J : Nat → Nat → Int64), ((k + m : Nat) : Int) = plc S a1.toInt → i.toInt = k → (∀ a : Nat, a ≠ 70 → J a = J0 a) → (∀ q : Nat, (q : Int) ≤ plc S a1.toInt → (J 70 q).toInt = rtA S a1.toInt k q) → (∀ J1 : Nat → Nat → Int64, (∀ a : Nat, a ≠ 70 → J1 a = J0 a) → (∀ q : Nat, (q : Int) ≤ plc S a1.toInt → (J1 70 q).toInt = rtAll S a1.toInt q) → Q none (xSH L dr tl, I, J1)) → WP ((d + 6), 121, 17, [some (.ref 68), some (.int a1), some (.int i), none, none], [], (xSH L dr tl, I, J)) Q := by
  have pb := plc_le hc.1 a1.toInt
  intro m
  induction m with
  | zero =>
    intro k i J hk hi h1 h2 K
    refine w121_17 hc.2.1 ((s_told hc.2.1).v ((s_placesOf hc.1 hc.2.1 hc.2.2.1).u fun r2 g2 => brz lt_ti (fun z => by omega) (fun _ => K J h1 ?_)))
    unfold rtAll
    rw [show (plc S a1.toInt).toNat = k by omega]
    exact h2
  | succ m ih =>
    intro k i J hk hi h1 h2 K
    have e1 : (i + 1).toInt = ((k + 1 : Nat) : Int) := by rw [add1 (by omega) (by omega), hi]; rfl
    have hN := hc.1.2.2.2.2.1
    exact w121_17 hc.2.1 ((s_told hc.2.1).v ((s_placesOf hc.1 hc.2.1 hc.2.2.1).u fun r2 g2 => brz lt_ti (fun _ => up_words hc ho (rtA_ok k) (p := k) hi (by omega) (sNW S).toNat 0 0 J (by omega) rfl h1 h2 fun J1 y1 y2 => ih (k + 1) _ J1 (by omega) e1 y1 y2 K) (fun z => by omega)))
theorem s_upTo {R : (Nat → Nat → Int32) → (Nat → Nat → Int64) → Prop} (hc : CB S tl I) (ho : CIo 8 I ∧ CIo 31 I) (K : ∀ J1 : Nat → Nat → Int64, (∀ a : Nat, a ≠ 70 → J1 a = J a) → (∀ q : Nat, (q : Int) ≤ plc S a1.toInt → (J1 70 q).toInt = rtAll S a1.toInt q) → R I J1) : WP ((d + 6), 121, 0, [some (.ref 68), some (.int a1), none, none, none], [], (xSH L dr tl, I, J)) (fun v M => ∃ (I2 : Nat → Nat → Int32) (J2 : Nat → Nat → Int64), v = none ∧ M = (xSH L dr tl, I2, J2) ∧ R I2 J2) := by
  have pb := plc_le hc.1 a1.toInt
  refine w121_0 (s_fillL (Or.inr rfl) fun J1 h1 h2 => up_places (J0 := J) hc ho (plc S a1.toInt).toNat 0 0 _ (by omega) rfl (fun a ha => by rw [xwJ_ne ha]; exact h1 a ha) (fun q hq => ?_) fun J2 y1 y2 => ⟨I, J2, rfl, rfl, K J2 y1 y2⟩)
  show _ = if q = 0 then 1 else 0
  by_cases e : q = 0
  · rw [e, jg, if_pos rfl]; rfl
  · rw [jgn e, if_neg e, h2 q (by omega)]; rfl
theorem CInv.jj {J1 : Nat → Nat → Int64} (q : CInv S dr tl I J) (h : J1 2 = J 2) : CInv S dr tl I J1 := by
  obtain ⟨g1, g2, g3, g4, g5, g6, g7, g8, g9, g10, g11, g12⟩ := q
  exact ⟨g1, g2, g3, g4, g5, g6, g7, g8, g9, g10, by rw [h]; exact g11, g12⟩
theorem MInv.jj {J1 : Nat → Nat → Int64} (q : MInv S I J) (h : J1 71 = J 71) (h2 : J1 94 = J 94) : MInv S I J1 := by
  obtain ⟨g1, g2, g3, g4, g5, g6, g7, g8, g9, g10⟩ := q
  exact ⟨g1, g2, by unfold MIn at *; rw [h2]; exact g3, g4, g5, g6, g7, g8, by rw [h]; exact g9, g10⟩
end ROWS2
