/-! ===== the law's start: the evaluator's run of the law is the machine's ===== -/
theorem xTab_of {A : Array Value} {s : State} (h : ∀ w ∈ lw_tbl, w.before A s = true) : xTab s := by
  intro w hw a'
  have hg : xgw w = true := (List.mem_filter.mp hw).2
  have h0 := h w (List.mem_filter.mp hw).1
  cases hz : goodWord w with
  | true => exact word_at (State.WarmedH.refl s) (good_of_word hz) h0
  | false =>
    unfold xgw at hg
    rw [hz, Bool.false_or] at hg
    cases w <;> first | (cases hg; done) | exact va_Nw.use rfl (va_Nw.of rfl h0)
abbrev xFl : List Jvm.Cond := flatC (Jvm.Cond.and given_1 narrow_1)
theorem xfl_ex : (Jvm.Cond.exactly (Jvm.Term.string "WetInk$Parser" 218) "java/lang/String") ∈ xFl := by decide +kernel
theorem xfl_co : (Jvm.Cond.eq (.field (Jvm.Term.string "WetInk$Parser" 218) "java/lang/String" "coder" "B") (.int 0)) ∈ xFl := by decide +kernel
theorem xfl_ar : (Jvm.Cond.arrayOf (.field (Jvm.Term.string "WetInk$Parser" 218) "java/lang/String" "value" "[B") .byte) ∈ xFl := by decide +kernel
theorem xfl_le : (Jvm.Cond.eq (.length (.field (Jvm.Term.string "WetInk$Parser" 218) "java/lang/String" "value" "[B")) (.int (Int32.ofNat 94))) ∈ xFl := by decide +kernel
theorem xfl_el : ∀ j : Nat, j < 94 → (Jvm.Cond.eq (.elem (.field (Jvm.Term.string "WetInk$Parser" 218) "java/lang/String" "value" "[B") (.int (Int32.ofNat j))) (.int (xtext.getD j 0))) ∈ xFl := by decide +kernel
theorem xfl_cs : (Jvm.Cond.eq (.static "java/lang/String" "COMPACT_STRINGS" "Z") (.int 1)) ∈ xFl := by decide +kernel
theorem xfl_fm : (Jvm.Cond.isRef (.static "jdk/internal/util/Preconditions" "SIOOBE_FORMATTER" "Ljava/util/function/BiFunction;")) ∈ xFl := by decide +kernel
theorem xwt {h : Nat} {w : Jvm.Cond} (q : decide (lw_tbl[h]? = some w) = true) : w ∈ lw_tbl := List.mem_of_getElem? (of_decide_eq_true q)
theorem xwt_sr : (Jvm.Cond.stringRef "WetInk$Parser" 218 xOwn) ∈ lw_tbl := xwt (h := 538) (by decide +kernel)
theorem xwt_cs : (Jvm.Cond.laysStatic "java/lang/String" "COMPACT_STRINGS" "Z") ∈ lw_tbl := xwt (h := 548) (by decide +kernel)
theorem xwt_fm : (Jvm.Cond.laysStatic "jdk/internal/util/Preconditions" "SIOOBE_FORMATTER" "Ljava/util/function/BiFunction;") ∈ lw_tbl := xwt (h := 564) (by decide +kernel)
theorem xwt_aI : (Jvm.Cond.arrayClass .int) ∈ lw_tbl := xwt (h := 176) (by decide +kernel)
theorem xwt_aJ : (Jvm.Cond.arrayClass .long) ∈ lw_tbl := xwt (h := 442) (by decide +kernel)
theorem xwt_aC : (Jvm.Cond.arrayClass .char) ∈ lw_tbl := xwt (h := 1597) (by decide +kernel)
theorem xwt_aZ : (Jvm.Cond.arrayClass .boolean) ∈ lw_tbl := xwt (h := 1598) (by decide +kernel)
theorem xarr {A : Array Value} {s : State} {ty : FieldType} (hn : ∀ C, ty ≠ .object C) (h : (Jvm.Cond.arrayClass ty).before A s = true) : ∃ cA : ClassId, ArrOfT s cA ty ∧ va_RA s cA ty := by
  obtain ⟨cA, kA, comp, h1, h2, h3⟩ := Cond.arrayClass_spec h
  refine ⟨cA, fun n z => ⟨fun k h => (by cases h), kA, h2, comp, h3⟩, ?_⟩
  cases ty <;> first | exact h1 | exact absurd rfl (hn _)
/-- the memory at the law's start -/
def xMem0 (L : Nat) (xs : Nat → Int32) : xMem := ([(9, L, []), (8, 0, [])], (fun a => cond (Nat.beq a 0) xs (fun _ => 0)), fun _ _ => 0)
/-- what is asked of the evaluator's run of the law -/
def xGoal (L : Nat) (xs : Nat → Int32) : Prop := ∃ (n : Nat) (M' : xMem), xrun xDC xML xRT xcode n (1000, 0, 0, xent [.ref 0] 4, [], xMem0 L xs) = some (some (.int 1), M') ∧ M'.1.length ≤ 600000 ∧ xns M'.1 ≤ 7302250
set_option maxRecDepth 20000 in
theorem x_start {p : Program} {e : Env} {s : State} {m : MethodId} {below : List Frame} {meth : Method} {c : Code} (l : Launch) {b L : Nat} {xs : Nat → Int32} (C0 : lw_At p s m meth c b L xs) (hg : xGoal L xs) : W p l e room_1 s m #[Value.ref b] below meth c s.heap [] 0 0 (lw_Z below #[Value.ref b] s) (entryFrame m ([Value.ref b] : List Value).toArray 4) := by
  obtain ⟨hx, hb, hr, hml, hown, hts, hX, hbl, hlocks, hgv⟩ := id C0
  obtain ⟨n, M', hrun, hc1, hc2⟩ := hg
  have hT : xTab s := xTab_of hts
  have hF := flat_of_before _ hgv
  have hA : ∀ a : Nat, a < s.heap.size → ¬ (fun q : Nat => s.heap.size ≤ q) a := fun a h1 h2 => Nat.not_le.mpr h1 h2
  have hcls : ∀ ci : Nat, ∃ r : ClassId × (Nat → Nat), ∀ q : vw_C, xCL[ci]? = some q → u_Kn s q.1 q.2.1 q.2.2 r.1 r.2 := by
    intro ci
    cases hq : xCL[ci]? with
    | none => exact ⟨(0, fun _ => 0), fun q h => by cases h⟩
    | some q =>
      obtain ⟨ty, ⟨-, -, -, hin, -⟩, hi⟩ := xCL_ok ci q hq
      obtain ⟨cC, iS, hk⟩ := u_known (C := q.1) (T := q.2.1) (N := q.2.2) (n := q.2.2) (fun w hw => hT w hw #[]) hin (hT _ hi #[])
      exact ⟨(cC, iS), fun q' h => by cases h; exact hk⟩
  obtain ⟨f, hf⟩ := Classical.axiomOfChoice hcls
  obtain ⟨cI, aI⟩ := xarr (fun C => by intro h; cases h) (hts _ xwt_aI)
  obtain ⟨cJ, aJ⟩ := xarr (fun C => by intro h; cases h) (hts _ xwt_aJ)
  obtain ⟨cC, aC⟩ := xarr (fun C => by intro h; cases h) (hts _ xwt_aC)
  obtain ⟨cZ, aZ⟩ := xarr (fun C => by intro h; cases h) (hts _ xwt_aZ)
  obtain ⟨adK, adV, hS1, hS2⟩ := vk_Sof (args := #[Value.ref b]) (s := s) (N := 1) (tm := fun _ => Jvm.Term.string "WetInk$Parser" 218) (len := [94]) (byt := [xtext]) (A := fun q : Nat => s.heap.size ≤ q)
    (fun i hi => by rw [show i = 0 by omega]; decide) (fun i hi => hF _ xfl_ex) (fun i hi => hF _ xfl_co) (fun i hi => hF _ xfl_ar) (fun i hi => by rw [show i = 0 by omega]; exact hF _ xfl_le) (fun i hi j hj => by rw [show i = 0 by omega] at hj ⊢; exact hF _ (xfl_el j hj)) (fun i j hi hj hne => absurd (show i = j by omega) hne) hA
  have ev : xEnv ((s.heap.size, b, adK 0, adV 0), (fun i => (f i).1, fun i => (f i).2), (cI, cJ, cC, cZ)) L xs s := by
    refine ⟨⟨fun ci q hq => hf ci q hq, fun k q hq => ?_⟩, hT, ?_, ⟨?_, ?_, ?_, ?_⟩, Nat.le_refl _⟩
    · match k, hq with
      | 0, hq => cases hq; exact aI
      | 1, hq => cases hq; exact aJ
      | 2, hq => cases hq; exact aC
      | 3, hq => cases hq; exact aZ
      | k + 4, hq => simp [xtys] at hq
    · obtain ⟨scr, h1, h2, h3, h4, h5⟩ := hX
      exact ⟨scr, h1, h2, h3, by rw [h4]; exact Nat.le_refl _, by rw [h4] <;> rfl, h5, hA b hbl⟩
    · exact ⟨fun i hi => by rw [show i = 0 by omega]; exact hS1.1 0 (by decide), fun i j hi hj _ => by omega⟩
    · exact vk_R.of (A := #[Value.ref b]) (hts _ xwt_sr) (hS2 0 (by decide))
    · exact va_Zof (hts _ xwt_cs) (hT _ wS_ini #[Value.ref b]) (va_eqt (hF _ xfl_cs)) hA
    · exact va_Zqof (hts _ xwt_fm) (hT _ wS_iniP #[Value.ref b]) (hF _ xfl_fm) hA
  have hs := xrun_snd (l := l) (P := ((s.heap.size, b, adK 0, adV 0), (fun i => (f i).1, fun i => (f i).2), (cI, cJ, cC, cZ))) (L := L) (xs := xs) xOK_all x_str n 1000 0 0 (xent [.ref 0] 4) [] (xMem0 L xs) (some (.int 1), M') hrun
  have m1 := hs.1.1
  have m2 := hs.1.2.1
  have m1 : 2 ≤ M'.1.length := m1
  have m2 : L + (0 + 0) ≤ xns M'.1 := m2
  rw [lg_entry_eq]
  refine hs.2 p e room_1 s m #[Value.ref b] below meth c s.heap [] 0 0 (lw_Z below #[Value.ref b] s) (M'.1.length - 2) (xns M'.1 - L) _ xM0 ⟨rfl, hx, hb, hml, hr, hown, hlocks, fun h => (by cases h), by decide, by decide⟩ ev ⟨Nat.le_refl _, ⟨_, rfl, rfl⟩, rfl⟩ (fun k q h => by simp [xws, xMem0] at h) va_S.rf rfl ?_ ?_ ?_ ?_ (xhas_entry (vs := [.ref 0]) (fun v hv => by rw [List.mem_singleton.mp hv]; rfl) (by decide)) ?_
  · show 0 + M'.1.length = M'.1.length - 2 + 2
    omega
  · show 0 + xns M'.1 = xns M'.1 - L + (L + (0 + 0))
    omega
  · show M'.1.length - 2 ≤ 600000
    omega
  · show xns M'.1 - L ≤ 7302250
    omega
  · intro H' locs' pc' lsS' ins hdec hisr hP' hS'
    obtain ⟨rfl, -⟩ := hisr
    refine va_forget (fun q hq => hS'.2.2 q hq) ?_
    refine W.widen (k := 600000) (n := 7302250) (by omega) (by omega) ?_
    exact lw_ret hx hb hr hlocks hdec
