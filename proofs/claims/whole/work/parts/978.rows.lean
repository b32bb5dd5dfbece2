/-! ===== texts: which words fit, how many rows ===== -/
theorem Call.stU {L d cx cm : Nat} {ax am : List Value} {S : aS} (S' : aS) (Z : Option Value → Prop) (un : ∀ v v', Z v → Z v' → v' = v)
    (hc : ∀ (dr tl : Nat) (I : Nat → Nat → Int32) (J : Nat → Nat → Int64), CInv S dr tl I J → WP (d, cx, 0, xent (.ref 2 :: ax) (xML cx), [], (xSH L dr tl, I, J)) (fun v M => Z v ∧ ∃ (I1 : Nat → Nat → Int32) (J1 : Nat → Nat → Int64), M = (xSH L dr tl, I1, J1) ∧ keepM I I1 J J1 ∧ CInv S' dr tl I1 J1))
    (hm : ∀ (dr tl : Nat) (I : Nat → Nat → Int32) (J : Nat → Nat → Int64), MInv S I J → WP (d, cm, 0, xent (.ref 71 :: am) (xML cm), [], (xSH L dr tl, I, J)) (fun v M => Z v ∧ ∃ (I1 : Nat → Nat → Int32) (J1 : Nat → Nat → Int64), M = (xSH L dr tl, I1, J1) ∧ keepC I I1 J J1 ∧ MInv S' I1 J1)) : Call L d cx cm ax am S := by
  intro dr tl I J h1 h2
  refine WP.mono (hc dr tl I J h1) (fun v M q => ?_)
  obtain ⟨hz, I1, J1, rfl, hk, hi⟩ := q
  refine ⟨dr, tl, I1, J1, rfl, WP.mono (hm dr tl I1 J1 (h2.kept hk)) (fun v2 M2 q2 => ?_)⟩
  obtain ⟨hz2, I2, J2, rfl, hk2, hi2⟩ := q2
  exact ⟨un v v2 hz hz2, S', I2, J2, rfl, hi.kept hk2, hi2⟩
/-- a letter of a word can stand at its place -/
def canP (S : aS) (l : Int) (w p i : Nat) : Prop := (S 15 (slot l (p + i : Nat)) = 0 → S 18 (slot l (p + i : Nat)) = 0 ∨ S 18 (slot l (p + i : Nat)) = S 12 (12 * w + i)) ∧ (S 15 (slot l (p + i : Nat)) ≠ 0 → S 15 (slot l (p + i : Nat)) = S 12 (12 * w + i))
def fitP (S : aS) (l : Int) (w p : Nat) : Prop := (p : Int) + S 11 w ≤ plc S l ∧ allF (canP S l w p) 0 (S 11 w).toNat
def updF (g : Nat → Int) (p : Nat) (v : Int) : Nat → Int := fun q => if q = p then v else g q
theorem updF_s {g : Nat → Int} {p : Nat} {v : Int} : updF g p v p = v := if_pos rfl
theorem updF_n {g : Nat → Int} {p q : Nat} {v : Int} (h : q ≠ p) : updF g p v q = g q := if_neg h
def wl (S : aS) (w : Nat) : Nat := (S 11 w).toNat
noncomputable def rfW (S : aS) (l : Int) (f : Nat → Int) (p : Nat) : Nat → (Nat → Int)
  | 0 => f
  | w + 1 => @ite (Nat → Int) (fitP S l w p) (Classical.propDecidable _) (updF (rfW S l f p w) p (min 1000000000000000 (rfW S l f p w p + rfW S l f p w (p + wl S w)))) (rfW S l f p w)
noncomputable def rfA (S : aS) (l : Int) (n : Nat) : Nat → (Nat → Int)
  | 0 => fun q => if q = n then 1 else 0
  | k + 1 => rfW S l (rfA S l n k) (n - 1 - k) (sNW S).toNat
noncomputable def rfAll (S : aS) (l : Int) : Nat → Int := rfA S l (plc S l).toNat (plc S l).toNat
noncomputable def rtW (S : aS) (l : Int) (f : Nat → Int) (p : Nat) : Nat → (Nat → Int)
  | 0 => f
  | w + 1 => @ite (Nat → Int) (fitP S l w p) (Classical.propDecidable _) (updF (rtW S l f p w) (p + wl S w) (min 1000000000000000 (rtW S l f p w (p + wl S w) + rtW S l f p w p))) (rtW S l f p w)
noncomputable def rtA (S : aS) (l : Int) : Nat → (Nat → Int)
  | 0 => fun q => if q = 0 then 1 else 0
  | k + 1 => rtW S l (rtA S l k) k (sNW S).toNat
noncomputable def rtAll (S : aS) (l : Int) : Nat → Int := rtA S l (plc S l).toNat
def okM (f : Nat → Int) : Prop := ∀ q : Nat, 0 ≤ f q ∧ f q ≤ 1000000000000000
section ROWS
variable {S : aS} {L d dr tl : Nat} {I : Nat → Nat → Int32} {J J0 : Nat → Nat → Int64} {a1 a2 a3 a4 a5 : Int32} {f : Nat → Int} {l : Int} {n p k w : Nat} {Q : Option Value → xMem → Prop}
theorem rfW_y (h : fitP S l w p) : rfW S l f p (w + 1) = updF (rfW S l f p w) p (min 1000000000000000 (rfW S l f p w p + rfW S l f p w (p + wl S w))) := if_pos h
theorem rfW_n (h : ¬ fitP S l w p) : rfW S l f p (w + 1) = rfW S l f p w := if_neg h
theorem rtW_y (h : fitP S l w p) : rtW S l f p (w + 1) = updF (rtW S l f p w) (p + wl S w) (min 1000000000000000 (rtW S l f p w (p + wl S w) + rtW S l f p w p)) := if_pos h
theorem rtW_n (h : ¬ fitP S l w p) : rtW S l f p (w + 1) = rtW S l f p w := if_neg h
theorem updF_ok {g : Nat → Int} {v : Int} (h : okM g) (hv : 0 ≤ v ∧ v ≤ 1000000000000000) : okM (updF g p v) := by
  intro q
  by_cases e : q = p
  · rw [e, updF_s]; exact hv
  · rw [updF_n e]; exact h q
theorem rfW_ok (h : okM f) : ∀ w : Nat, okM (rfW S l f p w) := by
  intro w
  induction w with
  | zero => exact h
  | succ w ih =>
    by_cases g : fitP S l w p
    · rw [rfW_y g]; exact updF_ok ih (by have := ih p; have := ih (p + wl S w); omega)
    · rw [rfW_n g]; exact ih
theorem rtW_ok (h : okM f) : ∀ w : Nat, okM (rtW S l f p w) := by
  intro w
  induction w with
  | zero => exact h
  | succ w ih =>
    by_cases g : fitP S l w p
    · rw [rtW_y g]; exact updF_ok ih (by have := ih p; have := ih (p + wl S w); omega)
    · rw [rtW_n g]; exact ih
theorem rfA_ok : ∀ k : Nat, okM (rfA S l n k) := by
  intro k
  induction k with
  | zero => intro q; show 0 ≤ (if q = n then (1 : Int) else 0) ∧ (if q = n then (1 : Int) else 0) ≤ _; split <;> omega
  | succ k ih => exact rfW_ok ih _
theorem rtA_ok : ∀ k : Nat, okM (rtA S l k) := by
  intro k
  induction k with
  | zero => intro q; show 0 ≤ (if q = 0 then (1 : Int) else 0) ∧ (if q = 0 then (1 : Int) else 0) ≤ _; split <;> omega
  | succ k ih => exact rtW_ok ih _
/-- words and their letters -/
theorem wl_b (hw : WF S) (hk : (w : Int) < sNW S) : 1 ≤ S 11 w ∧ S 11 w ≤ 12 ∧ (wl S w : Int) = S 11 w := by
  have := hw.2.2.2.2.1.2.2 w hk
  unfold wl; omega
theorem s_lenOf (hc : CB S tl I) (hk : (w : Int) < sNW S) (e : a1.toInt = w) : PI ((d + 1), 109, 0, [some (.ref (tl + 10)), some (.int a1)], [], (xSH L dr tl, I, J)) (S 11 w) (xSH L dr tl, I, J) := by
  have h16 := hc.1.2.2.2.2.1.2.1
  have hn := hc.2.2.1.1.2.2.2.1
  have c2 : clen (tl + 10 + 2) = 16 := by rcases hc.2.1 with rfl | rfl <;> rfl
  refine w109_0 (sp10 hc.2.1) (brz lt0 (fun z => by omega) (fun _ => brz lt_ti (fun _ => ⟨?_, _, rfl, ?_, rfl⟩) (fun z => by omega)))
  · rw [c2, xin_iff]; omega
  · rw [xIx_ti, e, Int.toNat_natCast]; exact (hc.2.2.1.2.2.2.2.1 w hk).1
theorem s_behind (hc : CB S tl I) (hk : (w : Int) < sNW S) (e : a1.toInt = w) (h2 : 0 ≤ a2.toInt ∧ a2.toInt ≤ 64) : PI ((d + 2), 122, 0, [some (.ref 68), some (.int a1), some (.int a2)], [], (xSH L dr tl, I, J)) (a2.toInt + S 11 w) (xSH L dr tl, I, J) := by
  have wb := wl_b hc.1 hk
  refine w122_0 hc.2.1 ((s_told hc.2.1).v ((s_lenOf hc hk e).u fun r2 g2 => ⟨_, rfl, ?_, rfl⟩))
  rw [add_ti (by omega) (by omega), g2]
theorem s_wlet (hc : CB S tl I) (ho : CIo 8 I ∧ CIo 31 I) (hk : (w : Int) < sNW S) (e : a1.toInt = w) {i : Nat} (ei : a2.toInt = i) (hi : (i : Int) < S 11 w) : PI ((d + 1), 110, 0, [some (.ref (tl + 10)), some (.int a1), some (.int a2)], [], (xSH L dr tl, I, J)) (S 12 (12 * w + i)) (xSH L dr tl, I, J) := by
  have h16 := hc.1.2.2.2.2.1.2.1
  have wb := wl_b hc.1 hk
  have hn := hc.2.2.1.1.2.2.2.1
  obtain ⟨v1, v2⟩ := hc.2.2.1.2.2.2.2.1 w hk
  have c2 : clen (tl + 10 + 2) = 16 := by rcases hc.2.1 with rfl | rfl <;> rfl
  have c1 : clen (tl + 10 + 1) = 192 := by rcases hc.2.1 with rfl | rfl <;> rfl
  have w0 : (I (tl + 10) 0).toInt = 12 := by rcases hc.2.1 with rfl | rfl; exact ho.1.2.2.2; exact ho.2.2.2.2
  have x1 : xIx a1 = w := by rw [xIx_ti, e]; exact Int.toNat_natCast _
  have e1 : (a1 * I (tl + 10) 0).toInt = 12 * w := by rw [mul_ti (by rw [w0]; omega) (by rw [w0]; omega), w0]; omega
  have e2 : (a1 * I (tl + 10) 0 + a2).toInt = ((12 * w + i : Nat) : Int) := by rw [add_ti (by omega) (by omega), e1, ei]; omega
  have x2 : xIx (a1 * I (tl + 10) 0 + a2) = 12 * w + i := by rw [xIx_ti, e2]; exact Int.toNat_natCast _
  refine w110_0 (sp10 hc.2.1) (brz lt0 (fun z => by omega) (fun _ => brz lt_ti (fun _ => brz lt0 (fun z => by omega) (fun _ => ⟨by rw [c2, xin_iff]; omega, ?_⟩)) (fun z => by omega)))
  rw [x1, x2]
  have v1' : (I (tl + 10 + 2) w).toInt = S 11 w := v1
  exact brz lt_ti (fun _ => ⟨by rw [c1, xin_iff, e2]; omega, _, rfl, v2 i hi, rfl⟩) (fun z => by omega)
theorem fits_loop (hc : CB S tl I) (ho : CIo 8 I ∧ CIo 31 I) (hk : (w : Int) < sNW S) (e2 : a2.toInt = w) (e3 : a3.toInt = p) (e4 : a4.toInt = (p : Int) + S 11 w) (hfit : (p : Int) + S 11 w ≤ plc S a1.toInt) : ∀ (m k : Nat) (i : Int32), k + m = wl S w → i.toInt = (p : Int) + k → PB ((d + 4), 123, 39, [some (.ref 68), some (.int a1), some (.int a2), some (.int a3), some (.int a4), some (.int i), none], [], (xSH L dr tl, I, J)) (allF (canP S a1.toInt w p) k (wl S w)) (xSH L dr tl, I, J) := by
  have wb := wl_b hc.1 hk
  have pb := plc_le hc.1 a1.toInt
  intro m
  induction m with
  | zero =>
    intro k i hm hi
    exact w123_39 hc.2.1 (brz lt_ti (fun z => by omega) (fun _ => ⟨1, rfl, Or.inl ⟨rfl, allF_e (by omega)⟩, rfl⟩))
  | succ m ih =>
    intro k i hm hi
    have e1 : (i + 1).toInt = (p : Int) + ((k + 1 : Nat) : Int) := by rw [add1 (by omega) (by omega), hi]; omega
    have hP : isP S a1.toInt i.toInt := plc_isP.mpr ⟨by omega, by omega⟩
    have ei : i.toInt = ((p + k : Nat) : Int) := by omega
    have e5 : (i - a3).toInt = k := by rw [sub_ti (by omega) (by omega)]; omega
    have no : ¬ canP S a1.toInt w p k → ∃ r : Int32, some (Value.int 0) = some (.int r) ∧ ((r = 1 ∧ allF (canP S a1.toInt w p) k (wl S w)) ∨ (r = 0 ∧ ¬ allF (canP S a1.toInt w p) k (wl S w))) ∧ (xSH L dr tl, I, J) = (xSH L dr tl, I, J) := fun z => ⟨0, rfl, Or.inr ⟨rfl, allF_f z (by omega)⟩, rfl⟩
    have yes : canP S a1.toInt w p k → PB ((d + 4), 123, 39, [some (.ref 68), some (.int a1), some (.int a2), some (.int a3), some (.int a4), some (.int (i + 1)), none], [], (xSH L dr tl, I, J)) (allF (canP S a1.toInt w p) k (wl S w)) (xSH L dr tl, I, J) := fun z => by rw [← allF_s z]; exact ih (k + 1) _ (by omega) e1
    have lt : PI ((d + 3), 110, 0, [some (.ref (tl + 10)), some (.int a2), some (.int (i - a3))], [], (xSH L dr tl, I, J)) (S 12 (12 * w + k)) (xSH L dr tl, I, J) := s_wlet hc ho hk e2 e5 (by omega)
    refine w123_39 hc.2.1 (brz lt_ti (fun _ => (s_letterAt hc).u fun r2 g2 => ?_) (fun z => by omega))
    rw [if_pos hP, ei] at g2
    refine brz eq0 (fun y => (s_ghostAt hc).u fun r8 g8 => ?_) (fun y => sk (fun z => y (by rw [z]; rfl)) ((s_told hc.2.1).v (lt.u fun r6 g6 => brz eq_ti (fun z => yes ⟨fun u => by omega, fun _ => by omega⟩) (fun z => no fun u => ?_))))
    · rw [if_pos hP, ei] at g8
      refine brz eq0 (fun z => yes ⟨fun _ => Or.inl (by omega), fun u => by omega⟩) (fun z => (s_told hc.2.1).v (lt.u fun r11 g11 => brz eq_ti (fun x => yes ⟨fun _ => Or.inr (by omega), fun u => by omega⟩) (fun x => no fun u => ?_)))
      rcases u.1 (by omega) with v | v <;> omega
    · have := u.2 (by omega); omega
theorem s_fits (hc : CB S tl I) (ho : CIo 8 I ∧ CIo 31 I) (hk : (w : Int) < sNW S) (e2 : a2.toInt = w) (e3 : a3.toInt = p) (hp : p ≤ 64) : PB ((d + 5), 123, 0, [some (.ref 68), some (.int a1), some (.int a2), some (.int a3), none, none, none], [], (xSH L dr tl, I, J)) (fitP S a1.toInt w p) (xSH L dr tl, I, J) := by
  have wb := wl_b hc.1 hk
  refine w123_0 hc.2.1 ((s_behind hc hk e2 (by omega)).u fun r1 g1 => brz lt0 (fun z => by omega) (fun _ => brz lt_ti (fun _ => (s_told hc.2.1).v ((s_placesOf hc.1 hc.2.1 hc.2.2.1).u fun r5 g5 => brz lt_ti (fun z => ⟨0, rfl, Or.inr ⟨rfl, fun y => ?_⟩, rfl⟩) (fun z => ?_))) (fun z => by omega)))
  · have := y.1; omega
  · have hfit : (p : Int) + S 11 w ≤ plc S a1.toInt := by omega
    have pe : allF (canP S a1.toInt w p) 0 (wl S w) = fitP S a1.toInt w p := propext ⟨fun y => ⟨hfit, y⟩, fun y => y.2⟩
    rw [← pe]
    exact fits_loop hc ho hk e2 e3 (by omega) hfit (wl S w) 0 a3 (by omega) (by omega)
theorem fillL_loop {c : Nat} (hy : c = 69 ∨ c = 70) : ∀ (m k : Nat) (i : Int32) (J : Nat → Nat → Int64), k + m = 65 → i.toInt = k → (∀ a : Nat, a ≠ c → J a = J0 a) → (∀ q : Nat, q < k → J c q = 0) → (∀ J1 : Nat → Nat → Int64, (∀ a : Nat, a ≠ c → J1 a = J0 a) → (∀ q : Nat, q < 65 → J1 c q = 0) → Q none (xSH L dr tl, I, J1)) → WP ((d + 1), 321, 6, [some (.ref c), some (.long 0), none, some (.int i), some (.int 65)], [], (xSH L dr tl, I, J)) Q := by
  intro m
  induction m with
  | zero =>
    intro k i J hk hi h1 h2 K
    refine w321_6 hy (brz lt_ti (fun z => ?_) (fun _ => K J h1 (fun q hq => h2 q (by omega))))
    have z' : i.toInt < 65 := z
    omega
  | succ m ih =>
    intro k i J hk hi h1 h2 K
    have e1 : (i + 1).toInt = ((k + 1 : Nat) : Int) := by rw [add1 (by omega) (by omega), hi]; rfl
    have xi : xIx i = k := by rw [xIx_ti, hi]; exact Int.toNat_natCast _
    refine w321_6 hy (brz lt_ti (fun _ => ⟨by rw [xin_iff]; omega, ih (k + 1) _ _ (by omega) e1 (fun a ha => ?_) (fun q hq => ?_) K⟩) (fun z => ?_))
    · rw [xwJ_ne ha]; exact h1 a ha
    · rw [xi]
      by_cases e : q = k
      · rw [e, jg]
      · rw [jgn e]; exact h2 q (by omega)
    · have z' : ¬ i.toInt < 65 := z
      omega
theorem s_fillL {R : (Nat → Nat → Int32) → (Nat → Nat → Int64) → Prop} {c : Nat} (hy : c = 69 ∨ c = 70) (K : ∀ J1 : Nat → Nat → Int64, (∀ a : Nat, a ≠ c → J1 a = J a) → (∀ q : Nat, q < 65 → J1 c q = 0) → R I J1) : WP ((d + 1), 321, 0, [some (.ref c), some (.long 0), none, none, none], [], (xSH L dr tl, I, J)) (fun v M => ∃ (I2 : Nat → Nat → Int32) (J2 : Nat → Nat → Int64), v = none ∧ M = (xSH L dr tl, I2, J2) ∧ R I2 J2) := w321_0 hy (fillL_loop (J0 := J) hy 65 0 0 J rfl rfl (fun _ _ => rfl) (fun q hq => by omega) fun J1 h1 h2 => ⟨I, J1, rfl, rfl, K J1 h1 h2⟩)
end ROWS
