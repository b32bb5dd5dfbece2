/-! ===== book: the class's parser steps from one thing to the next ===== -/
/-- the own words in the text of them, from a place on -/
def txB : List (List Int) → Nat → Bool
  | [], o => o == 94
  | w :: ws, o => (List.range w.length).all (fun j => (xchar (Int32.ofNat (o + j))).toInt == w.getD j 0 && (xchar (Int32.ofNat (o + j))).toInt != 32) && (xchar (Int32.ofNat (o + w.length))).toInt == 32 && decide (o + w.length < 94) && txB ws (o + w.length + 1)
theorem txB_OW : txB OW 0 = true := by decide
theorem ofN94 : ∀ g : Nat, g < 96 → (Int32.ofNat g).toInt = g := by decide
section LEXC2
variable {t : Tp} {L d dr tl : Nat} {I I0 I1 : Nat → Nat → Int32} {J : Nat → Nat → Int64} {a0 a1 a2 a3 a4 x : Int32} {q r m p : Nat} {s : Lx} {b : Bool} {Q : Option Value → xMem → Prop} {w : List Int} {ws : List (List Int)} {o : Nat}
theorem own_in (tp : TP t I) (eq : (I 7 2).toInt = q) (er : (I 7 3).toInt = r) (hr : r ≤ t.2) (hqr : q ≤ r) (ho : o + w.length < 94) (hx : ∀ j : Nat, j < w.length → (xchar (Int32.ofNat (o + j))).toInt = w.getD j 0 ∧ (xchar (Int32.ofNat (o + j))).toInt ≠ 32) (h32 : (xchar (Int32.ofNat (o + w.length))).toInt = 32) (Ky : mW t q r w → Q (some (.int a1)) (xSH L dr tl, I, J)) (Kn : ¬ mW t q r w → WP ((d + 4), 77, 12, [some (.ref 7), some (.int (a1 + 1)), some (.int (I 7 2)), some (.int 1), some (.int (Int32.ofNat (o + w.length + 1))), none], [], (xSH L dr tl, I, J)) Q) : ∀ (m j : Nat) (v f : Int32), j + m = w.length → v.toInt = (q + j : Nat) → ((f = 1 ∧ q + j ≤ r ∧ allF (fun j => t.1 (q + j) = w.getD j 0) 0 j) ∨ (f = 0 ∧ ¬ mW t q r w)) → WP ((d + 4), 77, 12, [some (.ref 7), some (.int a1), some (.int v), some (.int f), some (.int (Int32.ofNat (o + j))), none], [], (xSH L dr tl, I, J)) Q := by
  have n1600 := tp.1.1
  intro m
  induction m with
  | zero =>
    intro j v f hj hv hf
    have ej : j = w.length := by omega
    subst ej
    have eo : (Int32.ofNat (o + w.length)).toInt = ((o + w.length : Nat) : Int) := ofN94 _ (by omega)
    have i1 : Int32.ofNat (o + w.length) + 1 = Int32.ofNat (o + w.length + 1) := eq_ti.mpr (by rw [add1 (by omega) (by omega), eo, ofN94 _ (by omega)]; rfl)
    refine w77_12 (hit (lt_ti.mpr (by rw [eo]; show _ < (94 : Int); omega)) ⟨by rw [xin_iff, eo]; omega, hit (eq_ti.mpr h32) ?_⟩)
    rw [i1]
    rcases hf with ⟨rfl, h1, h2⟩ | ⟨rfl, h1⟩
    · refine br1 (brz eq_ti (fun y => Ky ⟨by omega, h2⟩) (fun y => Kn (fun z => ?_)))
      have := z.1
      omega
    · exact br0 (Kn h1)
  | succ m ih =>
    intro j v f hj hv hf
    have eo : (Int32.ofNat (o + j)).toInt = ((o + j : Nat) : Int) := ofN94 _ (by omega)
    have i1 : Int32.ofNat (o + j) + 1 = Int32.ofNat (o + (j + 1)) := eq_ti.mpr (by rw [add1 (by omega) (by omega), eo, ofN94 _ (by omega)]; rfl)
    obtain ⟨x1, x2⟩ := hx j (by omega)
    have v1 : (v + 1).toInt = ((q + (j + 1) : Nat) : Int) := by rw [add1 (by omega) (by omega), hv]; rfl
    refine w77_12 (hit (lt_ti.mpr (by rw [eo]; show _ < (94 : Int); omega)) ⟨by rw [xin_iff, eo]; omega, sk (fun z => x2 (eq_ti.mp z)) ?_⟩)
    rw [i1]
    rcases hf with ⟨rfl, h1, h2⟩ | ⟨rfl, h1⟩
    · have no : ∀ z : ¬ (q + j < r ∧ t.1 (q + j) = w.getD j 0), ¬ mW t q r w := fun z y => z ⟨by have := y.1; omega, y.2 j (by omega) (by omega)⟩
      refine br1 (brz lt_ti (fun y => brz lt_ti (fun u => ⟨by rw [xin_iff, hv]; omega, ?_⟩) (fun u => ?_)) (fun y => ih (j + 1) _ _ (by omega) v1 (Or.inr ⟨rfl, no (fun z => by omega)⟩)))
      · have xv : xIx v = q + j := by rw [xIx_ti, hv]; exact Int.toNat_natCast _
        have e4 : (I 4 (xIx v)).toInt = t.1 (q + j) := by rw [xv]; exact tp.2.2 _ (by omega)
        refine brz eq_ti (fun z => ih (j + 1) _ _ (by omega) v1 (Or.inl ⟨rfl, by omega, fun i g1 g2 => ?_⟩)) (fun z => ih (j + 1) _ _ (by omega) v1 (Or.inr ⟨rfl, no (fun z' => ?_)⟩))
        · by_cases e : i = j
          · rw [e]; show t.1 (q + j) = _; rw [← e4, z, x1]
          · exact h2 i g1 (by omega)
        · exact z (by rw [e4, x1]; exact z'.2)
      · exfalso
        rw [tp.2.1] at u
        omega
    · exact br0 (ih (j + 1) _ _ (by omega) v1 (Or.inr ⟨rfl, h1⟩))
theorem own_all (tp : TP t I) (eq : (I 7 2).toInt = q) (er : (I 7 3).toInt = r) (hr : r ≤ t.2) (hqr : q ≤ r) : ∀ (ws : List (List Int)) (o : Nat) (k : Int) (a1 : Int32), txB ws o = true → o ≤ 94 → a1.toInt = k → 0 ≤ k → k + ws.length ≤ 100 → PI ((d + 4), 77, 12, [some (.ref 7), some (.int a1), some (.int (I 7 2)), some (.int 1), some (.int (Int32.ofNat o)), none], [], (xSH L dr tl, I, J)) (oI t q r ws k) (xSH L dr tl, I, J) := by
  intro ws
  induction ws with
  | nil =>
    intro o k a1 hx ho ek hk hb
    have e : o = 94 := by
      have : (o == 94) = true := hx
      exact eq_of_beq this
    subst e
    exact w77_12 (sk (by decide) ⟨-1, rfl, rfl, rfl⟩)
  | cons w ws ih =>
    intro o k a1 hx ho ek hk hb
    have hl : ((w :: ws).length : Nat) = ws.length + 1 := rfl
    unfold txB at hx
    simp only [Bool.and_eq_true, List.all_eq_true, List.mem_range, beq_iff_eq, bne_iff_ne, decide_eq_true_eq] at hx
    obtain ⟨⟨⟨hx1, hx2⟩, hx3⟩, hx4⟩ := hx
    have a1' : (a1 + 1).toInt = k + 1 := by rw [add1 (by omega) (by omega), ek]
    have e : oI t q r (w :: ws) k = @ite Int (mW t q r w) (Classical.propDecidable _) k (oI t q r ws (k + 1)) := rfl
    refine own_in (o := o) (w := w) tp eq er hr hqr hx3 hx1 hx2 (fun y => ?_) (fun y => ?_) w.length 0 _ _ (by omega) (by rw [eq]; rfl) (Or.inl ⟨rfl, hqr, fun i g1 g2 => by omega⟩)
    · exact ⟨a1, rfl, by rw [e, if_pos y]; exact ek, rfl⟩
    · rw [e, if_neg y]
      exact ih (o + w.length + 1) (k + 1) (a1 + 1) hx4 (by omega) a1' (by omega) (by omega)
theorem s_ownWord (tp : TP t I) (eq : (I 7 2).toInt = q) (er : (I 7 3).toInt = r) (hr : r ≤ t.2) (hqr : q ≤ r) : PI ((d + 4), 77, 0, [some (.ref 7), none, none, none, none, none], [], (xSH L dr tl, I, J)) (oI t q r OW 0) (xSH L dr tl, I, J) := w77_0 (own_all tp eq er hr hqr OW 0 0 0 txB_OW (by decide) rfl (by decide) (by decide))
/-- the end of a step: what it is, which own word -/
theorem adv_tail {R : (Nat → Nat → Int32) → (Nat → Nat → Int64) → Prop} (tp : TP t I) (hp : p ≤ t.2) (e1 : a1.toInt = p) (e2 : (a2 = 1 ∧ b = true) ∨ (a2 = 0 ∧ b = false)) (f2 : (I 7 2).toInt = qq t (p, b)) (f3 : (I 7 3).toInt = ps t (p, b)) (f4 : (I 7 4).toInt = kA t (qq t (p, b))) (K : ∀ I1 : Nat → Nat → Int32, fr74 I I1 → (I1 7 2).toInt = qq t (p, b) → (I1 7 3).toInt = ps t (p, b) → (I1 7 4).toInt = kd t (p, b) → (I1 7 5).toInt = ow t (p, b) → R I1 J) : ((a2 = 0 → (((I 7 4) = 2 → WP ((d + 4), 77, 0, [some (.ref 7), none, none, none, none, none], [], (xSH L dr tl, I, J)) (fun v M => ∃ (r18 : Int32) (I18 : Nat → Nat → Int32) (J18 : Nat → Nat → Int64), v = some (.int r18) ∧ M = (xSH L dr tl, I18, J18) ∧ R (xwI I18 7 5 r18) J18)) ∧ (¬ (I 7 4) = 2 → R (xwI I 7 5 (-1)) J))) ∧ (¬ a2 = 0 → (((I 7 2) = a1 → WP ((d + 4), 75, 0, [some (.int (I 7 4))], [], (xSH L dr tl, I, J)) (fun v M => ∃ (r22 : Int32) (I22 : Nat → Nat → Int32) (J22 : Nat → Nat → Int64), v = some (.int r22) ∧ M = (xSH L dr tl, I22, J22) ∧ ((r22 = 0 → (((I22 7 4) = 2 → WP ((d + 4), 77, 0, [some (.ref 7), none, none, none, none, none], [], (xSH L dr tl, I22, J22)) (fun v M => ∃ (r25 : Int32) (I25 : Nat → Nat → Int32) (J25 : Nat → Nat → Int64), v = some (.int r25) ∧ M = (xSH L dr tl, I25, J25) ∧ R (xwI I25 7 5 r25) J25)) ∧ (¬ (I22 7 4) = 2 → R (xwI I22 7 5 (-1)) J22))) ∧ (¬ r22 = 0 → ((((xwI I22 7 4 5) 7 4) = 2 → WP ((d + 4), 77, 0, [some (.ref 7), none, none, none, none, none], [], (xSH L dr tl, (xwI I22 7 4 5), J22)) (fun v M => ∃ (r27 : Int32) (I27 : Nat → Nat → Int32) (J27 : Nat → Nat → Int64), v = some (.int r27) ∧ M = (xSH L dr tl, I27, J27) ∧ R (xwI I27 7 5 r27) J27)) ∧ (¬ ((xwI I22 7 4 5) 7 4) = 2 → R (xwI (xwI I22 7 4 5) 7 5 (-1)) J22)))))) ∧ (¬ (I 7 2) = a1 → (((I 7 4) = 2 → WP ((d + 4), 77, 0, [some (.ref 7), none, none, none, none, none], [], (xSH L dr tl, I, J)) (fun v M => ∃ (r21 : Int32) (I21 : Nat → Nat → Int32) (J21 : Nat → Nat → Int64), v = some (.int r21) ∧ M = (xSH L dr tl, I21, J21) ∧ R (xwI I21 7 5 r21) J21)) ∧ (¬ (I 7 4) = 2 → R (xwI I 7 5 (-1)) J)))))) := by
  have t2 : (2 : Int32).toInt = 2 := rfl
  have hle := ps_le (t := t) (s := (p, b)) hp
  have hpn := ps_n (t := t) (s := (p, b)) hp
  have ke : kd t (p, b) = if (kA t (qq t (p, b)) = 2 ∨ kA t (qq t (p, b)) = 3) ∧ b = true ∧ qq t (p, b) = p then 5 else kA t (qq t (p, b)) := rfl
  -- plain: no row is too near
  have plain : ¬ ((kA t (qq t (p, b)) = 2 ∨ kA t (qq t (p, b)) = 3) ∧ b = true ∧ qq t (p, b) = p) → (((I 7 4) = 2 → WP ((d + 4), 77, 0, [some (.ref 7), none, none, none, none, none], [], (xSH L dr tl, I, J)) (fun v M => ∃ (r18 : Int32) (I18 : Nat → Nat → Int32) (J18 : Nat → Nat → Int64), v = some (.int r18) ∧ M = (xSH L dr tl, I18, J18) ∧ R (xwI I18 7 5 r18) J18)) ∧ (¬ (I 7 4) = 2 → R (xwI I 7 5 (-1)) J)) := by
    intro z
    rw [if_neg z] at ke
    have oe : ow t (p, b) = if kd t (p, b) = 2 then oI t (qq t (p, b)) (ps t (p, b)) OW 0 else -1 := rfl
    refine brz eq_ti (fun y => (s_ownWord tp f2 f3 hpn hle).u fun r18 g18 => K _ (fr74_w (by decide)) f2 f3 (f4.trans ke.symm) ?_) (fun y => K _ (fr74_w (by decide)) f2 f3 (f4.trans ke.symm) ?_)
    · rw [xg, g18, oe, if_pos (by omega)]
    · rw [xg, oe, if_neg (by omega)]; rfl
  rcases e2 with ⟨rfl, hb⟩ | ⟨rfl, hb⟩
  · refine br1 (brz eq_ti (fun y => s_isRow.u (fun z => br1 (sk (by rw [xg]; decide) ?_)) (fun z => br0 (plain (fun u => z (by rw [f4]; exact u.1))))) (fun y => plain (fun u => y (by have := u.2.2; omega))))
    have kk : kd t (p, b) = 5 := by rw [ke, if_pos ⟨by rw [← f4]; exact z, hb, by omega⟩]
    have oe : ow t (p, b) = if kd t (p, b) = 2 then oI t (qq t (p, b)) (ps t (p, b)) OW 0 else -1 := rfl
    refine K _ ((fr74_w (by decide)).tr (fr74_w (by decide))) f2 f3 (by rw [kk]; rfl) ?_
    rw [xg, oe, if_neg (by omega)]; rfl
  · exact br0 (plain (fun u => by rw [hb] at u; exact absurd u.2.1 (by decide)))
end LEXC2
