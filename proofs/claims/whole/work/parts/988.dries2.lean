/-! ===== dries: the reference, the call ===== -/
section DRIES2
variable {S T : aS} {L d dr tl : Nat} {I I0 I1 : Nat → Nat → Int32} {J : Nat → Nat → Int64} {a1 a2 a3 a4 a5 x : Int32} {r k q p m : Nat} {l : Int} {Q : Option Value → xMem → Prop}
theorem done_iff (hw : WF S) (h9 : sHr S ≤ 10000) (h2 : isP S a1.toInt a2.toInt) (h3 : isP S a1.toInt a3.toInt) (le : a2.toInt ≤ a3.toInt) {n : Nat} (hn : n ≤ 1000) : allF (fun j => (hsS S n).1 16 (slot a1.toInt j) = 0) a2.toInt.toNat (a3.toInt + 1).toNat ↔ dMax S a1.toInt a2.toInt.toNat (a3.toInt - a2.toInt + 1).toNat ≤ sHr S + n := by
  have b2 := isP_b hw h2
  have b3 := isP_b hw h3
  have hh := hw.2.2.2.2.2.2.1.1
  rw [dMax_le hw (by omega)]
  constructor
  · intro z i hi
    have hP : isP S a1.toInt ((a2.toInt.toNat + i : Nat) : Int) := ⟨h3.1, by omega, by omega⟩
    exact (dry_iff hw h9 hP hn).mp (z (a2.toInt.toNat + i) (by omega) (by omega))
  · intro z j h1 h2'
    have hP : isP S a1.toInt ((j : Nat) : Int) := ⟨h3.1, by omega, by omega⟩
    have := z (j - a2.toInt.toNat) (by omega)
    rw [show a2.toInt.toNat + (j - a2.toInt.toNat) = j by omega] at this
    exact (dry_iff hw h9 hP hn).mpr this
theorem m_dries_loop (hw : WF S) (h9 : sHr S ≤ 10000) (h2 : isP S a1.toInt a2.toInt) (h3 : isP S a1.toInt a3.toInt) (le : a2.toInt ≤ a3.toInt) (K : ∀ (x : Int32) (I2 : Nat → Nat → Int32), x.toInt = ansDries S a1.toInt a2.toInt a3.toInt → backOf I0 I2 → Q (some (.int x)) (xSH L dr tl, I2, J)) : ∀ (m n : Nat) (c : Int32) (I : Nat → Nat → Int32), n + m = 65 → MInv (hsS S n).1 I J → asideOf I0 I → (n = 0 ∨ sHr S + ((n : Int) - 1) < dMax S a1.toInt a2.toInt.toNat (a3.toInt - a2.toInt + 1).toNat) → WP ((d + 5), 293, 19, [some (.ref 71), some (.int a1), some (.int a2), some (.int a3), some (.int c), none], [], (xSH L dr tl, I, J)) Q := by
  have b2 := isP_b hw h2
  have b3 := isP_b hw h3
  have hh := hw.2.2.2.2.2.2.1.1
  have E : ansDries S a1.toInt a2.toInt a3.toInt = if dMax S a1.toInt a2.toInt.toNat (a3.toInt - a2.toInt + 1).toNat = 2147483647 then -1 else dMax S a1.toInt a2.toInt.toNat (a3.toInt - a2.toInt + 1).toNat := by unfold ansDries; rw [if_pos ⟨h2, h3, le⟩]
  have hPi : ∀ i : Nat, i < (a3.toInt - a2.toInt + 1).toNat → isP S a1.toInt ((a2.toInt.toNat + i : Nat) : Int) := fun i hi => ⟨h3.1, by omega, by have := h3.2.2; omega⟩
  have mb := dMax_b (S := S) (l := a1.toInt) (p := a2.toInt.toNat) hw hPi
  have fP : ∀ n : Nat, isP (hsS S n).1 a1.toInt a3.toInt := fun n => (isP_f (hsS_f (f := 5) (by decide) (by decide) (by decide) (by decide) (by decide) (by decide) n) (hsS_0 (by decide) n)).mpr h3
  have step : ∀ (n : Nat) (c : Int32) (I : Nat → Nat → Int32), n ≤ 65 → MInv (hsS S n).1 I J → asideOf I0 I → (n = 0 ∨ sHr S + ((n : Int) - 1) < dMax S a1.toInt a2.toInt.toNat (a3.toInt - a2.toInt + 1).toNat) → (reads (hsS S n).1 → ∀ (x : Int32) (I4 : Nat → Nat → Int32), MInv (hsS S (n + 1)).1 I4 J → asideOf I0 I4 → sHr S + n < dMax S a1.toInt a2.toInt.toNat (a3.toInt - a2.toInt + 1).toNat → WP ((d + 5), 293, 19, [some (.ref 71), some (.int a1), some (.int a2), some (.int a3), some (.int (c + x)), none], [], (xSH L dr tl, I4, J)) Q) → WP ((d + 5), 293, 19, [some (.ref 71), some (.int a1), some (.int a2), some (.int a3), some (.int c), none], [], (xSH L dr tl, I, J)) Q := by
    intro n c I hn q as h go
    have hm := q.mb
    have di := done_iff hw h9 h2 h3 le (n := n) (by omega)
    have dn := m_allDone (L := L) (d := d + 2) (dr := dr) (tl := tl) hm b2.2.2.1 (fP n) le
    have h55 : (I 71 55).toInt = sHr S + n := by rw [q.2.2.2.1.1, hsS_h]
    refine w293_19 (dn.u (fun y => br1 (dn.u (fun _ => br1 (m_takesBack as fun I2 b => K _ I2 ?_ b)) (fun z => absurd y z))) (fun y => br0 ((m_reading hm).u (fun rd => br1 (m_goesBy q (by rw [hsS_h]; omega) fun x I4 _ _ _ f4 q4 => go rd x I4 q4 (as.fr f4) ?_)) (fun rd => br0 (dn.u (fun z => absurd z y) (fun _ => br0 (m_takesBack as fun I2 b => K _ I2 ?_ b)))))))
    · have := di.mp y
      rw [E, h55, if_neg (by omega)]; omega
    · have : ¬ dMax S a1.toInt a2.toInt.toNat (a3.toInt - a2.toInt + 1).toNat ≤ sHr S + n := fun z => y (di.mpr z)
      omega
    · have nd : ¬ dMax S a1.toInt a2.toInt.toNat (a3.toInt - a2.toInt + 1).toNat ≤ sHr S + n := fun z => y (di.mpr z)
      rw [E]
      by_cases nv : dMax S a1.toInt a2.toInt.toNat (a3.toInt - a2.toInt + 1).toNat = 2147483647
      · rw [if_pos nv]; rfl
      · exfalso
        apply rd
        have ex : ∃ i : Nat, i < (a3.toInt - a2.toInt + 1).toNat ∧ ¬ dH S a1.toInt (a2.toInt.toNat + i) ≤ sHr S + n := by
          apply Classical.byContradiction
          intro w
          apply nd
          rw [dMax_le hw (by omega)]
          intro i hi
          apply Classical.byContradiction
          intro u; exact w ⟨i, hi, u⟩
        obtain ⟨i, i1, i2⟩ := ex
        have le2 : dH S a1.toInt (a2.toInt.toNat + i) ≤ dMax S a1.toInt a2.toInt.toNat (a3.toInt - a2.toInt + 1).toNat := (dMax_le (l := a1.toInt) (p := a2.toInt.toNat) hw (by omega) (a3.toInt - a2.toInt + 1).toNat).mp (Int.le_refl _) i i1
        exact reads_of hw h9 (hPi i i1) (by omega) (by omega) (by omega)
  intro m
  induction m with
  | zero =>
    intro n c I hn q as h
    exact step n c I (by omega) q as h fun rd => absurd rd (not_reads hw h9 (by omega) (by omega))
  | succ m ih =>
    intro n c I hn q as h
    exact step n c I (by omega) q as h fun _ x I4 q4 a4 h4 => ih (n + 1) _ I4 (by omega) q4 a4 (Or.inr (by omega))
theorem call_dries : Call L (d + 8) 183 293 [.int a1, .int a2, .int a3] [.int a1, .int a2, .int a3] S := by
  refine Call.rw fun hRW => Call.st S (ansDries S a1.toInt a2.toInt a3.toInt) (fun dr tl I J q => ?_) (fun dr tl I J q => ?_)
  · refine WP.mono (c_dries q) (fun v M z => ?_)
    obtain ⟨r, rfl, hr, rfl⟩ := z
    exact ⟨r, I, J, rfl, hr, rfl, keepM_refl, q⟩
  · have hm := q.mb
    have h9 : sHr S ≤ 10000 := by have := hRW.1.2; omega
    refine w293_0 ((m_isSpan hm.1 hm.2.1).u (fun sp => br1 (m_putsAside fun I1 as bk => m_dries_loop (I0 := I) hm.1 h9 sp.1 sp.2.1 sp.2.2 (fun x I2 ex b2 => ⟨x, I2, J, rfl, ex, rfl, b2.kc, q.back b2⟩) 65 0 0 I1 rfl (q.back bk) as (Or.inl rfl))) (fun z => br0 ⟨-1, I, J, rfl, ?_, rfl, keepC_refl, q⟩))
    unfold ansDries; rw [if_neg z]; rfl
end DRIES2
