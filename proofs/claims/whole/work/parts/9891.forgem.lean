/-! ===== forge, bars: the reference ===== -/
theorem nar_b0 : vp_nar .boolean 0 = 0 := by
  decide
theorem nar_b1 : vp_nar .boolean 1 = 1 := by
  decide
/-- until when a sign is wet, as the reference keeps it after n hours -/
noncomputable def wtV (S : aS) (l : Int) (q : Nat) (h : Int) : Int := if S 16 (slot l q) = 0 then 0 else if dH S l q ≤ h then dH S l q else 1000000
section FORGEM
variable {S T : aS} {L d dr tl : Nat} {I I0 I1 : Nat → Nat → Int32} {J : Nat → Nat → Int64} {a1 a2 a3 a4 a5 a6 a7 a8 a9 x : Int32} {r k q p m : Nat} {l n B till pace : Int} {P : Int → Prop} {Q : Option Value → xMem → Prop}
theorem e6_ti : (1000000 : Int32).toInt = 1000000 := by decide
theorem wet_init (q : MInv S I0 J) (h2 : isP S a1.toInt a2.toInt) (h3 : isP S a1.toInt a3.toInt) (le : a2.toInt ≤ a3.toInt) (h9 : sHr S ≤ 10000) (K : ∀ I1 : Nat → Nat → Int32, backOf I0 I1 → (∀ p : Nat, a2.toInt ≤ p → (p : Int) ≤ a3.toInt → (I1 127 p).toInt = wtV S a1.toInt p (sHr S)) → WP ((d + 3), 289, 0, [some (.ref 71), none], [], (xSH L dr tl, I1, J)) (fun v M => ∃ (I2 : Nat → Nat → Int32) (J2 : Nat → Nat → Int64), v = none ∧ M = (xSH L dr tl, I2, J2) ∧ WP ((d + 4), 295, 47, [some (.ref 71), some (.int a1), some (.int a2), some (.int a3), none, none], [], (xSH L dr tl, I2, J2)) Q)) : ∀ (m k : Nat) (i : Int32) (I : Nat → Nat → Int32), ((k + m : Nat) : Int) = a3.toInt + 1 → i.toInt = k → a2.toInt ≤ k → backOf I0 I → (∀ p : Nat, a2.toInt ≤ p → p < k → (I 127 p).toInt = wtV S a1.toInt p (sHr S)) → WP ((d + 4), 295, 3, [some (.ref 71), some (.int a1), some (.int a2), some (.int a3), some (.int i), none], [], (xSH L dr tl, I, J)) Q := by
  have b2 := isP_b q.1 h2
  have b3 := isP_b q.1 h3
  have hh := q.1.2.2.2.2.2.2.1.1
  intro m
  induction m with
  | zero =>
    intro k i I hk hi hak hb h
    exact w295_3 (brz lt_ti (fun _ => K I hb (fun p p1 p2 => h p p1 (by omega))) (fun z => by omega))
  | succ m ih =>
    intro k i I hk hi hak hb h
    have hm := (q.back hb).mb
    have hP : isP S a1.toInt i.toInt := ⟨h3.1, by omega, by have := h3.2.2; omega⟩
    have hPk : isP S a1.toInt ((k : Nat) : Int) := by rw [hi] at hP; exact hP
    have h0 := (sign_b q.1 hPk).2.2.1
    have i1 : (i + 1).toInt = ((k + 1 : Nat) : Int) := by rw [add1 (by omega) (by omega), hi]; rfl
    have xi : xIx i = k := by rw [xIx_ti, hi]; exact Int.toNat_natCast _
    have hx : xin i 64 = true := by rw [xin_iff, hi]; omega
    have dd := dry_iff q.1 h9 hPk (n := 0) (by omega)
    have d0 : S 16 (slot a1.toInt k) = 0 ↔ dH S a1.toInt k ≤ sHr S := by
      have e : sHr S + ((0 : Nat) : Int) = sHr S := by omega
      rw [e] at dd; exact dd
    have st : ∀ v : Int32, v.toInt = wtV S a1.toInt k (sHr S) → ∀ p : Nat, a2.toInt ≤ p → p < k + 1 → (xwI I 127 k v 127 p).toInt = wtV S a1.toInt p (sHr S) := by
      intro v hv p p1 p2
      by_cases e : p = k
      · rw [e, xg]; exact hv
      · rw [xgn e]; exact h p p1 (by omega)
    refine w295_3 (brz lt_ti (fun z => by omega) (fun _ => (m_isWet hm.1 hm.2.2 hP (slot_m hm.1 hP).1).u (fun y => br1 ⟨hx, ?_⟩) (fun y => br0 ⟨hx, ?_⟩)))
    · rw [hi] at y
      have y' : 0 < S 16 (slot a1.toInt k) := by simpa [such] using y
      rw [xi]
      refine ih (k + 1) _ _ (by omega) i1 (by omega) (hb.tr (backOf_w (by decide))) (st _ ?_)
      unfold wtV; rw [if_neg (by omega), if_neg (fun z => by have := d0.mpr z; omega)]; exact e6_ti
    · rw [hi] at y
      have y' : ¬ 0 < S 16 (slot a1.toInt k) := by simpa [such] using y
      rw [xi]
      refine ih (k + 1) _ _ (by omega) i1 (by omega) (hb.tr (backOf_w (by decide))) (st _ ?_)
      unfold wtV; rw [if_pos (by omega)]; rfl
/-- after an hour of looking ahead, the signs that are dry now -/
theorem wet_step {n : Nat} (hS : WF S) (h9 : sHr S ≤ 10000) (hn : n + 1 ≤ 1000) (h2 : isP S a1.toInt a2.toInt) (h3 : isP S a1.toInt a3.toInt) (le : a2.toInt ≤ a3.toInt) (K : ∀ I1 : Nat → Nat → Int32, MInv (hsS S (n + 1)).1 I1 J → asideOf I0 I1 → (∀ p : Nat, a2.toInt ≤ p → (p : Int) ≤ a3.toInt → (I1 127 p).toInt = wtV S a1.toInt p (sHr S + ((n + 1 : Nat) : Int))) → WP ((d + 4), 295, 47, [some (.ref 71), some (.int a1), some (.int a2), some (.int a3), none, none], [], (xSH L dr tl, I1, J)) Q) : ∀ (m k : Nat) (i : Int32) (I : Nat → Nat → Int32), ((k + m : Nat) : Int) = a3.toInt + 1 → i.toInt = k → a2.toInt ≤ k → MInv (hsS S (n + 1)).1 I J → asideOf I0 I → (∀ p : Nat, a2.toInt ≤ p → p < k → (I 127 p).toInt = wtV S a1.toInt p (sHr S + ((n + 1 : Nat) : Int))) → (∀ p : Nat, k ≤ p → (p : Int) ≤ a3.toInt → (I 127 p).toInt = wtV S a1.toInt p (sHr S + n)) → WP ((d + 4), 295, 63, [some (.ref 71), some (.int a1), some (.int a2), some (.int a3), none, some (.int i)], [], (xSH L dr tl, I, J)) Q := by
  have b2 := isP_b hS h2
  have b3 := isP_b hS h3
  have hh := hS.2.2.2.2.2.2.1.1
  have f5 := hsS_f (S := S) (f := 5) (by decide) (by decide) (by decide) (by decide) (by decide) (by decide) (n + 1)
  have f2 : (hsS S (n + 1)).1 0 2 = S 0 2 := hsS_0 (by decide) (n + 1)
  intro m
  induction m with
  | zero =>
    intro k i I hk hi hak q as h h'
    exact w295_63 (brz lt_ti (fun _ => K I q as (fun p p1 p2 => h p p1 (by omega))) (fun z => by omega))
  | succ m ih =>
    intro k i I hk hi hak q as h h'
    have hm := q.mb
    have hPk : isP S a1.toInt ((k : Nat) : Int) := ⟨h3.1, by omega, by have := h3.2.2; omega⟩
    have hP : isP (hsS S (n + 1)).1 a1.toInt i.toInt := (isP_f f5 f2).mpr (by rw [hi]; exact hPk)
    have h0 := (sign_b q.1 hP).2.2.1
    have i1 : (i + 1).toInt = ((k + 1 : Nat) : Int) := by rw [add1 (by omega) (by omega), hi]; rfl
    have xi : xIx i = k := by rw [xIx_ti, hi]; exact Int.toNat_natCast _
    have hx : xin i 64 = true := by rw [xin_iff, hi]; omega
    have wk := h' k (by omega) (by omega)
    have db := dH_b hS hPk
    have dd := dry_iff hS h9 hPk (n := n + 1) (by omega)
    have h55 : (I 71 55).toInt = sHr S + ((n + 1 : Nat) : Int) := by rw [q.2.2.2.1.1, hsS_h]
    -- the number stays
    have stay : wtV S a1.toInt k (sHr S + n) = wtV S a1.toInt k (sHr S + ((n + 1 : Nat) : Int)) → WP ((d + 4), 295, 63, [some (.ref 71), some (.int a1), some (.int a2), some (.int a3), none, some (.int (i + 1))], [], (xSH L dr tl, I, J)) Q := by
      intro e
      refine ih (k + 1) _ I (by omega) i1 (by omega) q as (fun p p1 p2 => ?_) (fun p p1 p2 => h' p (by omega) p2)
      by_cases ep : p = k
      · rw [ep, wk]; exact e
      · exact h p p1 (by omega)
    refine w295_63 (brz lt_ti (fun z => by omega) (fun _ => ⟨hx, ?_⟩))
    rw [xi]
    refine brz eq_ti (fun y => (m_isWet hm.1 hm.2.2 hP (slot_m hm.1 hP).1).u (fun w => br1 (stay ?_)) (fun w => br0 ⟨hx, ?_⟩)) (fun y => stay ?_)
    · rw [hi] at w
      have w' : 0 < (hsS S (n + 1)).1 16 (slot a1.toInt k) := by simpa [such] using w
      have nd : ¬ dH S a1.toInt k ≤ sHr S + ((n + 1 : Nat) : Int) := fun z => by have := dd.mpr z; omega
      unfold wtV
      rw [if_neg (show ¬ dH S a1.toInt k ≤ sHr S + n by omega), if_neg nd]
    · rw [hi] at w h0
      have w' : ¬ 0 < (hsS S (n + 1)).1 16 (slot a1.toInt k) := by simpa [such] using w
      have nd : dH S a1.toInt k ≤ sHr S + ((n + 1 : Nat) : Int) := dd.mp (by omega)
      rw [wk, e6_ti] at y
      have z0 : ¬ S 16 (slot a1.toInt k) = 0 := by
        intro z; unfold wtV at y; rw [if_pos z] at y; omega
      have z1 : ¬ dH S a1.toInt k ≤ sHr S + n := by
        intro z; unfold wtV at y; rw [if_neg z0, if_pos z] at y; omega
      refine ih (k + 1) _ _ (by omega) i1 (by omega) ?_ ?_ (fun p p1 p2 => ?_) (fun p p1 p2 => ?_)
      · exact q.back (backOf_w (by decide))
      · obtain ⟨g1, g2, g3, g4, g5⟩ := as
        exact ⟨g1, g2, g3, fun a c1 c2 c3 c4 c5 c6 => by rw [xwI_ne (by omega)]; exact g4 a c1 c2 c3 c4 c5 c6, g5⟩
      · by_cases ep : p = k
        · rw [ep, xg, h55]; unfold wtV; rw [if_neg z0, if_pos nd]; omega
        · rw [xgn ep]; exact h p p1 (by omega)
      · rw [xgn (by omega)]; exact h' p (by omega) p2
    · rw [wk, e6_ti] at y
      unfold wtV at y ⊢
      by_cases z0 : S 16 (slot a1.toInt k) = 0
      · rw [if_pos z0, if_pos z0]
      · rw [if_neg z0] at y ⊢
        by_cases z1 : dH S a1.toInt k ≤ sHr S + n
        · rw [if_pos z1, if_neg z0, if_pos (by omega)]
        · rw [if_neg z1] at y; omega
theorem wet_loop (hS : WF S) (h9 : sHr S ≤ 10000) (h2 : isP S a1.toInt a2.toInt) (h3 : isP S a1.toInt a3.toInt) (le : a2.toInt ≤ a3.toInt) (K : ∀ I2 : Nat → Nat → Int32, backOf I0 I2 → (∀ p : Nat, a2.toInt ≤ p → (p : Int) ≤ a3.toInt → (I2 127 p).toInt = (if S 16 (slot a1.toInt p) = 0 then 0 else if dH S a1.toInt p = 2147483647 then 1000000 else dH S a1.toInt p)) → Q none (xSH L dr tl, I2, J)) : ∀ (m n : Nat) (I : Nat → Nat → Int32), n + m = 65 → MInv (hsS S n).1 I J → asideOf I0 I → (∀ p : Nat, a2.toInt ≤ p → (p : Int) ≤ a3.toInt → (I 127 p).toInt = wtV S a1.toInt p (sHr S + n)) → WP ((d + 4), 295, 47, [some (.ref 71), some (.int a1), some (.int a2), some (.int a3), none, none], [], (xSH L dr tl, I, J)) Q := by
  have b2 := isP_b hS h2
  have b3 := isP_b hS h3
  have hh := hS.2.2.2.2.2.2.1.1
  have fin : ∀ (n : Nat) (I : Nat → Nat → Int32), n ≤ 65 → ¬ reads (hsS S n).1 → asideOf I0 I → (∀ p : Nat, a2.toInt ≤ p → (p : Int) ≤ a3.toInt → (I 127 p).toInt = wtV S a1.toInt p (sHr S + n)) → ∀ I2 : Nat → Nat → Int32, backOf I0 I2 → I2 127 = I 127 → Q none (xSH L dr tl, I2, J) := by
    intro n I hn nr as h I2 b e
    refine K I2 b (fun p p1 p2 => ?_)
    have hP : isP S a1.toInt ((p : Nat) : Int) := ⟨h3.1, by omega, by have := h3.2.2; omega⟩
    rw [e, h p p1 p2]
    unfold wtV
    have db := dH_b hS hP
    by_cases z0 : S 16 (slot a1.toInt p) = 0
    · rw [if_pos z0, if_pos z0]
    · rw [if_neg z0, if_neg z0]
      by_cases nv : dH S a1.toInt p = 2147483647
      · rw [if_pos nv, if_neg (by omega)]
      · have : dH S a1.toInt p ≤ sHr S + n := by
          apply Classical.byContradiction
          intro w
          exact nr (reads_of hS h9 hP (by omega) (by omega) (by omega))
        rw [if_neg nv, if_pos this]
  -- taking back leaves the row of hours as it is
  have tb : ∀ {I : Nat → Nat → Int32} {R : (Nat → Nat → Int32) → (Nat → Nat → Int64) → Prop}, asideOf I0 I → (∀ I1 : Nat → Nat → Int32, backOf I0 I1 → I1 127 = I 127 → R I1 J) → WP ((d + 3), 290, 0, [some (.ref 71), none], [], (xSH L dr tl, I, J)) (fun v M => ∃ (I2 : Nat → Nat → Int32) (J2 : Nat → Nat → Int64), v = none ∧ M = (xSH L dr tl, I2, J2) ∧ R I2 J2) := fun {I} {R} as g => m_takesBack2 as g
  intro m
  induction m with
  | zero =>
    intro n I hn q as h
    have nr := not_reads hS h9 (n := n) (by omega) (by omega)
    exact w295_47 ((m_reading q.mb).u (fun rd => absurd rd nr) (fun rd => br0 (tb as fun I2 b e => fin n I (by omega) nr as h I2 b e)))
  | succ m ih =>
    intro n I hn q as h
    refine w295_47 ((m_reading q.mb).u (fun rd => br1 (m_goesBy q (by rw [hsS_h]; omega) fun x I4 _ _ _ f4 q4 => ?_)) (fun rd => br0 (tb as fun I2 b e => fin n I (by omega) rd as h I2 b e)))
    have e127 : I4 127 = I 127 := f4.1 127 (by decide) (by decide) (by decide) (by decide) (by decide)
    exact wet_step (n := n) hS h9 (by omega) h2 h3 le (fun I5 q5 a5 h5 => ih (n + 1) I5 (by omega) q5 a5 h5) (a3.toInt + 1 - a2.toInt).toNat a2.toInt.toNat a2 I4 (by omega) (by omega) (by omega) q4 (as.fr f4) (fun p p1 p2 => by omega) (fun p p1 p2 => by rw [e127]; exact h p (by omega) p2)
end FORGEM
