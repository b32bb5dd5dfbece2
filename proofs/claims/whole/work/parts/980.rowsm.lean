/-! ===== texts: the rows, the reference ===== -/
section ROWSM
variable {S : aS} {L d dr tl : Nat} {I : Nat → Nat → Int32} {J J0 : Nat → Nat → Int64} {a1 a2 a3 a4 a5 : Int32} {b0 b2 : Int64} {f : Nat → Int} {l : Int} {n p k w : Nat} {Q : Option Value → xMem → Prop}
theorem m_wlen (hm : MB S I J) (hk : (w : Int) < sNW S) (e : a2.toInt = w) : xin (16 + a2) 32 = true ∧ (I 100 (xIx (16 + a2))).toInt = S 11 w := by
  have h16 := hm.1.2.2.2.2.1.2.1
  have e1 : (16 + a2).toInt = ((16 + w : Nat) : Int) := by rw [addn (by decide) (by decide) (by omega) (by omega)]; show 16 + a2.toInt = _; omega
  refine ⟨by rw [xin_iff, e1]; omega, ?_⟩
  rw [xIx_ti, e1, Int.toNat_natCast]
  exact (hm.2.1.2.2.2.2.1 w hk).1
theorem m_canStand {l p : Int} (hm : MB S I J) (hP : isP S l p) (e : a1.toInt = 64 * l + p) : PB ((d + 1), 301, 0, [some (.ref 71), some (.int a1), some (.int a2)], [], (xSH L dr tl, I, J)) ((S 15 (slot l p) = 0 → S 18 (slot l p) = 0 ∨ S 18 (slot l p) = a2.toInt) ∧ (S 15 (slot l p) ≠ 0 → S 15 (slot l p) = a2.toInt)) (xSH L dr tl, I, J) := by
  have hb := isP_b hm.1 hP
  have hx : xin a1 512 = true := by rw [xin_iff, e]; omega
  have hs : xIx a1 = slot l p := by rw [xIx_ti, e]; rfl
  obtain ⟨g1, g2, g3, g4⟩ := hm.2.2.2.1 l p hP
  have sb := sign_b hm.1 hP
  refine w301_0 ⟨hx, ?_⟩
  rw [hs]
  refine brz gt0 (fun y => ⟨hx, brz eq_ti (fun z => ⟨1, rfl, Or.inl ⟨rfl, fun u => by omega, fun _ => by omega⟩, rfl⟩) (fun z => ⟨0, rfl, Or.inr ⟨rfl, fun u => ?_⟩, rfl⟩)⟩) (fun y => ⟨hx, brz eq0 (fun z => ⟨1, rfl, Or.inl ⟨rfl, fun _ => Or.inl (by omega), fun u => by omega⟩, rfl⟩) (fun z => ⟨hx, brz eq_ti (fun x => ⟨1, rfl, Or.inl ⟨rfl, fun _ => Or.inr (by omega), fun u => by omega⟩, rfl⟩) (fun x => ⟨0, rfl, Or.inr ⟨rfl, fun u => ?_⟩, rfl⟩)⟩)⟩)
  · have := u.2 (by omega); omega
  · rcases u.1 (by omega) with v | v <;> omega
theorem canB_loop (hm : MB S I J) (hl : isL S a1.toInt) (hk : (w : Int) < sNW S) (e2 : a2.toInt = w) (e3 : a3.toInt = p) (e4 : a4.toInt = S 11 w) (hfit : (p : Int) + S 11 w ≤ plc S a1.toInt) : ∀ (m k : Nat) (i : Int32), k + m = wl S w → i.toInt = k → PB ((d + 2), 303, 28, [some (.ref 71), some (.int a1), some (.int a2), some (.int a3), some (.int a4), some (.int i)], [], (xSH L dr tl, I, J)) (allF (canP S a1.toInt w p) k (wl S w)) (xSH L dr tl, I, J) := by
  have wb := wl_b hm.1 hk
  have h16 := hm.1.2.2.2.2.1.2.1
  have pb := plc_le hm.1 a1.toInt
  have hL := hm.1.2.2.1.2.1
  have l0 := hl.1
  have l1 := hl.2
  intro m
  induction m with
  | zero =>
    intro k i hm' hi
    exact w303_28 (brz lt_ti (fun z => by omega) (fun _ => ⟨1, rfl, Or.inl ⟨rfl, allF_e (by omega)⟩, rfl⟩))
  | succ m ih =>
    intro k i hm' hi
    have e1 : (i + 1).toInt = ((k + 1 : Nat) : Int) := by rw [add1 (by omega) (by omega), hi]; rfl
    have hP : isP S a1.toInt (p + k : Nat) := plc_isP.mpr ⟨by omega, by omega⟩
    have m12 : (12 * a2).toInt = 12 * w := by rw [mul_ti (by show _ ≤ 12 * a2.toInt; omega) (by show 12 * a2.toInt < _; omega)]; show 12 * a2.toInt = _; omega
    have m64 : (64 * a1).toInt = 64 * a1.toInt := by rw [mul_ti (by show _ ≤ 64 * a1.toInt; omega) (by show 64 * a1.toInt < _; omega)]; rfl
    have e5 : (192 + 12 * a2 + i).toInt = ((192 + 12 * w + k : Nat) : Int) := by rw [addn (by rw [addn (by decide) (by decide) (by omega) (by omega), m12]; show _ ≤ 192 + 12 * (w : Int); omega) (by rw [addn (by decide) (by decide) (by omega) (by omega), m12]; show 192 + 12 * (w : Int) ≤ _; omega) (by omega) (by omega), addn (by decide) (by decide) (by omega) (by omega), m12, hi]; show 192 + 12 * (w : Int) + k = _; omega
    have e6 : (64 * a1 + a3 + i).toInt = 64 * a1.toInt + ((p + k : Nat) : Int) := by rw [addn (by rw [addn (by omega) (by omega) (by omega) (by omega), m64]; omega) (by rw [addn (by omega) (by omega) (by omega) (by omega), m64]; omega) (by omega) (by omega), addn (by omega) (by omega) (by omega) (by omega), m64]; omega
    have v := (hm.2.1.2.2.2.2.1 w hk).2 k (by omega)
    have x5 : xIx (192 + 12 * a2 + i) = 192 + 12 * w + k := by rw [xIx_ti, e5]; exact Int.toNat_natCast _
    refine w303_28 (brz lt_ti (fun _ => ⟨by rw [xin_iff, e5]; omega, ?_⟩) (fun z => by omega))
    rw [x5]
    refine (m_canStand hm hP e6).u (fun y => br1 ?_) (fun y => br0 ⟨0, rfl, Or.inr ⟨rfl, allF_f ?_ (by omega)⟩, rfl⟩)
    · rw [v] at y
      rw [← allF_s (P := canP S a1.toInt w p) (k := k) y]
      exact ih (k + 1) _ (by omega) e1
    · rw [v] at y; exact y
theorem m_canBegin (hm : MB S I J) (hl : isL S a1.toInt) (hk : (w : Int) < sNW S) (e2 : a2.toInt = w) (e3 : a3.toInt = p) (hp : p ≤ 64) : PB ((d + 2), 303, 0, [some (.ref 71), some (.int a1), some (.int a2), some (.int a3), none, none], [], (xSH L dr tl, I, J)) (fitP S a1.toInt w p) (xSH L dr tl, I, J) := by
  have wb := wl_b hm.1 hk
  obtain ⟨i1, v1⟩ := m_wlen hm hk e2
  have hpl : plc S a1.toInt = S 5 a1.toInt.toNat := by unfold plc; rw [if_pos hl]
  refine w303_0 ⟨i1, (m_length hm.1 hm.2.1 hl).u fun r1 g1 => brz lt_ti (fun z => ⟨0, rfl, Or.inr ⟨rfl, fun y => ?_⟩, rfl⟩) (fun z => ?_)⟩
  · rw [addn (by omega) (by omega) (by omega) (by omega)] at z
    have := y.1; omega
  · rw [addn (by omega) (by omega) (by omega) (by omega)] at z
    have hfit : (p : Int) + S 11 w ≤ plc S a1.toInt := by omega
    have pe : allF (canP S a1.toInt w p) 0 (wl S w) = fitP S a1.toInt w p := propext ⟨fun y => ⟨hfit, y⟩, fun y => y.2⟩
    rw [← pe]
    exact canB_loop hm hl hk e2 e3 v1 hfit (wl S w) 0 0 (by omega) rfl
theorem m_sumOf (h0 : 0 ≤ b0.toInt ∧ b0.toInt ≤ 1000000000000000) (h2 : 0 ≤ b2.toInt ∧ b2.toInt ≤ 1000000000000000) : PL ((d + 1), 302, 0, [some (.long b0), none, some (.long b2), none], [], (xSH L dr tl, I, J)) (min 1000000000000000 (b0.toInt + b2.toInt)) (xSH L dr tl, I, J) := by
  have e : (b0 + b2).toInt = b0.toInt + b2.toInt := ladd (by omega) (by omega)
  refine w302_0 (brz xlc_gt (fun z => ⟨_, rfl, ?_, rfl⟩) (fun z => ⟨_, rfl, ?_, rfl⟩))
  · rw [e] at z
    have z' : (1000000000000000 : Int) < b0.toInt + b2.toInt := z
    show (1000000000000000 : Int) = _
    omega
  · rw [e] at z
    have z' : ¬ (1000000000000000 : Int) < b0.toInt + b2.toInt := z
    rw [e]; omega
theorem MB.jj {J1 : Nat → Nat → Int64} (hm : MB S I J) : MB S I J1 := hm
theorem m_on_words (hm : MB S I J) (hl : isL S a1.toInt) (hf : okM f) (e3 : a3.toInt = p) (hp : (p : Int) < plc S a1.toInt) : ∀ (m k : Nat) (i : Int32) (J : Nat → Nat → Int64), ((k + m : Nat) : Int) = sNW S → i.toInt = k → (∀ a : Nat, a ≠ 129 → J a = J0 a) → (∀ q : Nat, (q : Int) ≤ plc S a1.toInt → (J 129 q).toInt = rfW S a1.toInt f p k q) → (∀ J1 : Nat → Nat → Int64, (∀ a : Nat, a ≠ 129 → J1 a = J0 a) → (∀ q : Nat, (q : Int) ≤ plc S a1.toInt → (J1 129 q).toInt = rfW S a1.toInt f p (sNW S).toNat q) → WP ((d + 3), 304, 139, [some (.ref 71), some (.int a1), none, some (.int (a3 + (-1))), none], [], (xSH L dr tl, I, J1)) Q) → WP ((d + 3), 304, 146, [some (.ref 71), some (.int a1), none, some (.int a3), some (.int i)], [], (xSH L dr tl, I, J)) Q := by
  have pb := plc_le hm.1 a1.toInt
  have h16 := hm.1.2.2.2.2.1.2.1
  have x3 : xIx a3 = p := by rw [xIx_ti, e3]; exact Int.toNat_natCast _
  have i3 : xin a3 65 = true := by rw [xin_iff, e3]; omega
  intro m
  induction m with
  | zero =>
    intro k i J' hk hi h1 h2 K
    refine w304_146 ((m_wordMany (J := J') hm.2.1).u fun r2 g2 => brz lt_ti (fun z => by omega) (fun _ => K J' h1 ?_))
    rw [show (sNW S).toNat = k by omega]; exact h2
  | succ m ih =>
    intro k i J' hk hi h1 h2 K
    have e1 : (i + 1).toInt = ((k + 1 : Nat) : Int) := by rw [add1 (by omega) (by omega), hi]; rfl
    have wb := wl_b hm.1 (w := k) (by omega)
    have ok := rfW_ok (S := S) (l := a1.toInt) (p := p) hf k
    obtain ⟨i1, v9⟩ := m_wlen (a2 := i) hm (w := k) (by omega) hi
    refine w304_146 ((m_wordMany (J := J') hm.2.1).u fun r2 g2 => brz lt_ti (fun _ => (m_canBegin (J := J') hm hl (w := k) (p := p) (by omega) hi e3 (by omega)).u (fun y => br1 ?_) (fun y => br0 (ih (k + 1) _ J' (by omega) e1 h1 (by rw [rfW_n y]; exact h2) K))) (fun z => by omega))
    have g6 : (a3 + I 100 (xIx (16 + i))).toInt = ((p + wl S k : Nat) : Int) := by rw [addn (by omega) (by omega) (by omega) (by omega)]; omega
    have x6 : xIx (a3 + I 100 (xIx (16 + i))) = p + wl S k := by rw [xIx_ti, g6]; exact Int.toNat_natCast _
    have yf := y.1
    have b1 := ok p
    have b2 := ok (p + wl S k)
    rw [x3, x6]
    have v1 := h2 p (by omega)
    have v2 := h2 (p + wl S k) (by omega)
    refine ⟨i3, i1, by rw [xin_iff, g6]; omega, (m_sumOf (by omega) (by omega)).u fun r7 g7 => ⟨i3, ih (k + 1) _ _ (by omega) e1 (fun a ha => by rw [xwJ_ne ha]; exact h1 a ha) (fun q hq => ?_) K⟩⟩
    rw [rfW_y y]
    by_cases e : q = p
    · rw [e, jg, updF_s, g7, v1, v2]
    · rw [jgn e, updF_n e]; exact h2 q hq
theorem m_on_placesR (hm : MB S I J) (hl : isL S a1.toInt) : ∀ (m k : Nat) (i : Int32) (J : Nat → Nat → Int64), ((k + m : Nat) : Int) = plc S a1.toInt → i.toInt = plc S a1.toInt - 1 - k → (∀ a : Nat, a ≠ 129 → J a = J0 a) → (∀ q : Nat, (q : Int) ≤ plc S a1.toInt → (J 129 q).toInt = rfA S a1.toInt (plc S a1.toInt).toNat k q) → (∀ J1 : Nat → Nat → Int64, (∀ a : Nat, a ≠ 129 → J1 a = J0 a) → (∀ q : Nat, (q : Int) ≤ plc S a1.toInt → (J1 129 q).toInt = rfAll S a1.toInt q) → Q none (xSH L dr tl, I, J1)) → WP ((d + 3), 304, 139, [some (.ref 71), some (.int a1), none, some (.int i), none], [], (xSH L dr tl, I, J)) Q := by
  have pb := plc_le hm.1 a1.toInt
  intro m
  induction m with
  | zero =>
    intro k i J' hk hi h1 h2 K
    refine w304_139 (brz lt0 (fun _ => K J' h1 ?_) (fun z => by omega))
    unfold rfAll
    rw [show (plc S a1.toInt).toNat = k by omega] at h2 ⊢
    exact h2
  | succ m ih =>
    intro k i J' hk hi h1 h2 K
    have e1 : (i + (-1)).toInt = plc S a1.toInt - 1 - ((k + 1 : Nat) : Int) := by rw [add_ti (by show _ ≤ i.toInt + (-1); omega) (by show i.toInt + (-1) < _; omega), hi]; show plc S a1.toInt - 1 - (k : Int) + (-1) = _; omega
    have hN := hm.1.2.2.2.2.1
    exact w304_139 (brz lt0 (fun z => by omega) (fun _ => m_on_words hm hl (rfA_ok k) (p := (plc S a1.toInt).toNat - 1 - k) (by omega) (by omega) (sNW S).toNat 0 0 J' (by omega) rfl h1 h2 fun J1 y1 y2 => ih (k + 1) _ J1 (by omega) e1 y1 y2 K))
theorem m_up_words (hm : MB S I J) (hl : isL S a1.toInt) (hf : okM f) (e3 : a3.toInt = p) (hp : (p : Int) < plc S a1.toInt) : ∀ (m k : Nat) (i : Int32) (J : Nat → Nat → Int64), ((k + m : Nat) : Int) = sNW S → i.toInt = k → (∀ a : Nat, a ≠ 128 → J a = J0 a) → (∀ q : Nat, (q : Int) ≤ plc S a1.toInt → (J 128 q).toInt = rtW S a1.toInt f p k q) → (∀ J1 : Nat → Nat → Int64, (∀ a : Nat, a ≠ 128 → J1 a = J0 a) → (∀ q : Nat, (q : Int) ≤ plc S a1.toInt → (J1 128 q).toInt = rtW S a1.toInt f p (sNW S).toNat q) → WP ((d + 3), 304, 52, [some (.ref 71), some (.int a1), some (.int a2), some (.int (a3 + 1)), none], [], (xSH L dr tl, I, J1)) Q) → WP ((d + 3), 304, 60, [some (.ref 71), some (.int a1), some (.int a2), some (.int a3), some (.int i)], [], (xSH L dr tl, I, J)) Q := by
  have pb := plc_le hm.1 a1.toInt
  have h16 := hm.1.2.2.2.2.1.2.1
  have x3 : xIx a3 = p := by rw [xIx_ti, e3]; exact Int.toNat_natCast _
  have i3 : xin a3 65 = true := by rw [xin_iff, e3]; omega
  intro m
  induction m with
  | zero =>
    intro k i J' hk hi h1 h2 K
    refine w304_60 ((m_wordMany (J := J') hm.2.1).u fun r2 g2 => brz lt_ti (fun z => by omega) (fun _ => K J' h1 ?_))
    rw [show (sNW S).toNat = k by omega]; exact h2
  | succ m ih =>
    intro k i J' hk hi h1 h2 K
    have e1 : (i + 1).toInt = ((k + 1 : Nat) : Int) := by rw [add1 (by omega) (by omega), hi]; rfl
    have wb := wl_b hm.1 (w := k) (by omega)
    have ok := rtW_ok (S := S) (l := a1.toInt) (p := p) hf k
    obtain ⟨i1, v9⟩ := m_wlen (a2 := i) hm (w := k) (by omega) hi
    refine w304_60 ((m_wordMany (J := J') hm.2.1).u fun r2 g2 => brz lt_ti (fun _ => (m_canBegin (J := J') hm hl (w := k) (p := p) (by omega) hi e3 (by omega)).u (fun y => br1 ?_) (fun y => br0 (ih (k + 1) _ J' (by omega) e1 h1 (by rw [rtW_n y]; exact h2) K))) (fun z => by omega))
    have g6 : (a3 + I 100 (xIx (16 + i))).toInt = ((p + wl S k : Nat) : Int) := by rw [addn (by omega) (by omega) (by omega) (by omega)]; omega
    have x6 : xIx (a3 + I 100 (xIx (16 + i))) = p + wl S k := by rw [xIx_ti, g6]; exact Int.toNat_natCast _
    have yf := y.1
    have b1 := ok p
    have b2 := ok (p + wl S k)
    rw [x3, x6]
    have v1 := h2 p (by omega)
    have v2 := h2 (p + wl S k) (by omega)
    have i6 : xin (a3 + I 100 (xIx (16 + i))) 65 = true := by rw [xin_iff, g6]; omega
    refine ⟨i1, i1, i6, i3, (m_sumOf (by omega) (by omega)).u fun r7 g7 => ⟨i6, ih (k + 1) _ _ (by omega) e1 (fun a ha => by rw [xwJ_ne ha]; exact h1 a ha) (fun q hq => ?_) K⟩⟩
    rw [rtW_y y]
    by_cases e : q = p + wl S k
    · rw [e, jg, updF_s, g7, v1, v2]
    · rw [jgn e, updF_n e]; exact h2 q hq
theorem m_up_places (hm : MB S I J) (hl : isL S a1.toInt) (e2 : a2.toInt = plc S a1.toInt) : ∀ (m k : Nat) (i : Int32) (J : Nat → Nat → Int64), ((k + m : Nat) : Int) = plc S a1.toInt → i.toInt = k → (∀ a : Nat, a ≠ 128 → J a = J0 a) → (∀ q : Nat, (q : Int) ≤ plc S a1.toInt → (J 128 q).toInt = rtA S a1.toInt k q) → (∀ J1 : Nat → Nat → Int64, (∀ a : Nat, a ≠ 128 → J1 a = J0 a) → (∀ q : Nat, (q : Int) ≤ plc S a1.toInt → (J1 128 q).toInt = rtAll S a1.toInt q) → WP ((d + 3), 304, 139, [some (.ref 71), some (.int a1), none, some (.int (a2 - 1)), none], [], (xSH L dr tl, I, J1)) Q) → WP ((d + 3), 304, 52, [some (.ref 71), some (.int a1), some (.int a2), some (.int i), none], [], (xSH L dr tl, I, J)) Q := by
  have pb := plc_le hm.1 a1.toInt
  intro m
  induction m with
  | zero =>
    intro k i J' hk hi h1 h2 K
    refine w304_52 (brz lt_ti (fun z => by omega) (fun _ => K J' h1 ?_))
    unfold rtAll
    rw [show (plc S a1.toInt).toNat = k by omega]
    exact h2
  | succ m ih =>
    intro k i J' hk hi h1 h2 K
    have e1 : (i + 1).toInt = ((k + 1 : Nat) : Int) := by rw [add1 (by omega) (by omega), hi]; rfl
    have hN := hm.1.2.2.2.2.1
    exact w304_52 (brz lt_ti (fun _ => m_up_words hm hl (rtA_ok k) (p := k) hi (by omega) (sNW S).toNat 0 0 J' (by omega) rfl h1 h2 fun J1 y1 y2 => ih (k + 1) _ J1 (by omega) e1 y1 y2 K) (fun z => by omega))
theorem m_init (hpb : 0 ≤ n ∧ n ≤ 64) (e2 : a2.toInt = n) : ∀ (m k : Nat) (i : Int32) (J : Nat → Nat → Int64), k + m = n + 1 → i.toInt = k → (∀ a : Nat, a ≠ 128 → a ≠ 129 → J a = J0 a) → (∀ q : Nat, q < k → (J 128 q).toInt = (if q = 0 then 1 else 0) ∧ (J 129 q).toInt = if q = n then 1 else 0) → (∀ J1 : Nat → Nat → Int64, (∀ a : Nat, a ≠ 128 → a ≠ 129 → J1 a = J0 a) → (∀ q : Nat, q ≤ n → (J1 128 q).toInt = (if q = 0 then 1 else 0) ∧ (J1 129 q).toInt = if q = n then 1 else 0) → WP ((d + 1), 304, 52, [some (.ref 71), some (.int a1), some (.int a2), some (.int 0), none], [], (xSH L dr tl, I, J1)) Q) → WP ((d + 1), 304, 8, [some (.ref 71), some (.int a1), some (.int a2), some (.int i), none], [], (xSH L dr tl, I, J)) Q := by
  intro m
  induction m with
  | zero =>
    intro k i J' hk hi h1 h2 K
    exact w304_8 (brz lt_ti (fun _ => K J' h1 (fun q hq => h2 q (by omega))) (fun z => by omega))
  | succ m ih =>
    intro k i J' hk hi h1 h2 K
    have e1 : (i + 1).toInt = ((k + 1 : Nat) : Int) := by rw [add1 (by omega) (by omega), hi]; rfl
    have x1 : xIx i = k := by rw [xIx_ti, hi]; exact Int.toNat_natCast _
    have i1 : xin i 65 = true := by rw [xin_iff, hi]; omega
    have go : ∀ (u v : Int64), u.toInt = (if k = 0 then 1 else 0) → v.toInt = (if k = n then 1 else 0) → WP ((d + 1), 304, 8, [some (.ref 71), some (.int a1), some (.int a2), some (.int (i + 1)), none], [], (xSH L dr tl, I, xwJ (xwJ J' 128 k u) 129 k v)) Q := by
      intro u v hu hv
      refine ih (k + 1) _ _ (by omega) e1 (fun a ha hb => by rw [xwJ_ne hb, xwJ_ne ha]; exact h1 a ha hb) (fun q hq => ?_) K
      by_cases e : q = k
      · rw [e, jg, xwJ_ne (by decide), jg]; exact ⟨hu, hv⟩
      · rw [jgn e, xwJ_ne (by decide), jgn e, xwJ_ne (by decide)]; exact h2 q (by omega)
    refine w304_8 (brz lt_ti (fun z => by omega) (fun _ => ?_))
    rw [x1]
    refine brz eq0 (fun y => ⟨i1, brz eq_ti (fun z => ⟨i1, go _ _ ?_ ?_⟩) (fun z => ⟨i1, go _ _ ?_ ?_⟩)⟩) (fun y => ⟨i1, brz eq_ti (fun z => ⟨i1, go _ _ ?_ ?_⟩) (fun z => ⟨i1, go _ _ ?_ ?_⟩)⟩)
    · rw [if_pos (by omega)]; rfl
    · rw [if_pos (by omega)]; rfl
    · rw [if_pos (by omega)]; rfl
    · rw [if_neg (by omega)]; rfl
    · rw [if_neg (by omega)]; rfl
    · rw [if_pos (by omega)]; rfl
    · rw [if_neg (by omega)]; rfl
    · rw [if_neg (by omega)]; rfl
theorem m_rowsOf {R : (Nat → Nat → Int32) → (Nat → Nat → Int64) → Prop} (hm : MB S I J) (hl : isL S a1.toInt) (K : ∀ J1 : Nat → Nat → Int64, (∀ a : Nat, a ≠ 128 → a ≠ 129 → J1 a = J a) → (∀ q : Nat, (q : Int) ≤ plc S a1.toInt → (J1 128 q).toInt = rtAll S a1.toInt q ∧ (J1 129 q).toInt = rfAll S a1.toInt q) → R I J1) : WP ((d + 3), 304, 0, [some (.ref 71), some (.int a1), none, none, none], [], (xSH L dr tl, I, J)) (fun v M => ∃ (I2 : Nat → Nat → Int32) (J2 : Nat → Nat → Int64), v = none ∧ M = (xSH L dr tl, I2, J2) ∧ R I2 J2) := by
  have pb := plc_le hm.1 a1.toInt
  have hpl : plc S a1.toInt = S 5 a1.toInt.toNat := by unfold plc; rw [if_pos hl]
  refine w304_0 ((m_length hm.1 hm.2.1 hl).u fun r1 g1 => m_init (J0 := J) (n := (plc S a1.toInt).toNat) (by omega) (by omega) ((plc S a1.toInt).toNat + 1) 0 0 J (by omega) rfl (fun _ _ _ => rfl) (fun q hq => by omega) fun J1 h1 h2 => ?_)
  refine m_up_places (J0 := J1) hm hl (by omega) (plc S a1.toInt).toNat 0 0 J1 (by omega) rfl (fun _ _ => rfl) (fun q hq => (h2 q (by omega)).1) fun J2 y1 y2 => ?_
  refine m_on_placesR (J0 := J2) hm hl (plc S a1.toInt).toNat 0 _ J2 (by omega) (by rw [sub1 (by omega)]; omega) (fun _ _ => rfl) (fun q hq => ?_) fun J3 z1 z2 => ⟨I, J3, rfl, rfl, K J3 (fun a ha hb => by rw [z1 a hb, y1 a ha, h1 a ha hb]) (fun q hq => ⟨?_, z2 q hq⟩)⟩
  · rw [y1 129 (by decide)]; exact (h2 q (by omega)).2
  · rw [z1 128 (by decide)]; exact y2 q hq
theorem call_texts : Call L (d + 8) 188 305 [.int a1] [.int a1] S := by
  by_cases hl : isL S a1.toInt
  · refine Call.stU S (fun v => ∃ r : Int64, v = some (.long r) ∧ r.toInt = rfAll S a1.toInt 0) (fun v v' h h' => ?_) (fun dr tl I J q => ?_) (fun dr tl I J q => ?_)
    · obtain ⟨r, rfl, e⟩ := h
      obtain ⟨r', rfl, e'⟩ := h'
      rw [Int64.toInt.inj (e'.trans e.symm)]
    · have hc := q.cb
      have pb := plc_le hc.1 a1.toInt
      exact w188_0 hc.2.1 ((s_told hc.2.1).v ((s_hasLeaf hc.2.1 hc.2.2.1).u (fun _ => br1 (w119_0 (s_onward hc ⟨q.2.2.2.1.1, q.2.2.2.1.2.1⟩ fun J1 h1 h2 => ⟨_, _, _, rfl, rfl, ⟨_, rfl, h2 0 (by omega)⟩, I, J1, rfl, fun a ha => ⟨rfl, h1 a (by omega)⟩, q.jj (h1 2 (by decide))⟩))) (fun z => absurd hl z)))
    · have hm := q.mb
      have pb := plc_le hm.1 a1.toInt
      exact w305_0 ((m_isLeaf hm.1 hm.2.1).u (fun _ => br1 (m_rowsOf hm hl fun J1 h1 h2 => ⟨⟨_, rfl, (h2 0 (by omega)).2⟩, I, J1, rfl, fun a ha => ⟨rfl, h1 a (by omega) (by omega)⟩, q.jj (h1 71 (by decide) (by decide)) (h1 94 (by decide) (by decide))⟩)) (fun z => absurd hl z))
  · refine Call.stU S (fun v => v = some (.long (-1))) (fun v v' h h' => by rw [h, h']) (fun dr tl I J q => ?_) (fun dr tl I J q => ?_)
    · have hc := q.cb
      exact w188_0 hc.2.1 ((s_told hc.2.1).v ((s_hasLeaf hc.2.1 hc.2.2.1).u (fun z => absurd z hl) (fun _ => br0 ⟨rfl, I, J, rfl, keepM_refl, q⟩)))
    · have hm := q.mb
      exact w305_0 ((m_isLeaf hm.1 hm.2.1).u (fun z => absurd z hl) (fun _ => br0 ⟨rfl, I, J, rfl, keepC_refl, q⟩))
end ROWSM
