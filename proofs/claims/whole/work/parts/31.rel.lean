/-! ===== the machine's cells and the evaluator's: numbers, values, rows of cells ===== -/
/-- where the cells begin, the script, the text and its bytes; the tables' numbers; the classes of rows -/
abbrev xPr : Type := (Nat × Nat × Nat × Nat) × va_G × (ClassId × ClassId × ClassId × ClassId)
def xA (P : xPr) : Nat → Prop := fun q => P.1.1 ≤ q
def xad (P : xPr) : Nat → Nat
  | 0 => P.1.2.1
  | 1 => P.1.2.2.1
  | k + 2 => P.1.1 + k
def xv (P : xPr) : Value → Value
  | .ref k => .ref (xad P k)
  | v => v
def xtys (P : xPr) : List (ClassId × FieldType) := [(P.2.2.1, .int), (P.2.2.2.1, .long), (P.2.2.2.2.1, .char), (P.2.2.2.2.2, .boolean)]
def xcell (P : xPr) (I : Nat → Nat → Int32) (J : Nat → Nat → Int64) (a : Nat) (h : xSh) : va_E := match h.1 with
  | 0 => .inr (h.2.1, h.2.2.mapIdx (fun k c => xv P (xfv I J a k c)))
  | 1 => .inl (P.2.2.1, h.2.1, .inl (I a))
  | 2 => .inl (P.2.2.2.1, h.2.1, .inr (.inl (J a)))
  | 3 => .inl (P.2.2.2.2.1, h.2.1, .inl (I a))
  | _ => .inl (P.2.2.2.2.2, h.2.1, .inl (I a))
def xws (P : xPr) (M : xMem) : va_W := (M.1.drop 2).mapIdx (fun k h => (P.1.1 + k, xcell P M.2.1 M.2.2 (k + 2) h))
theorem xbq_ne {a b : Nat} (h : a ≠ b) : Nat.beq a b = false := by
  cases e : Nat.beq a b with
  | false => rfl
  | true => exact absurd (Nat.eq_of_beq_eq_true e) h
theorem xbq_eq (a : Nat) : Nat.beq a a = true := by
  cases e : Nat.beq a a with
  | true => rfl
  | false => exact absurd rfl (Nat.ne_of_beq_eq_false e)
theorem xwI_ne {I : Nat → Nat → Int32} {a j a' : Nat} {v : Int32} (h : a' ≠ a) : xwI I a j v a' = I a' := by
  funext j'
  simp only [xwI, xbq_ne h, cond_false]
theorem xwJ_ne {I : Nat → Nat → Int64} {a j a' : Nat} {v : Int64} (h : a' ≠ a) : xwJ I a j v a' = I a' := by
  funext j'
  simp only [xwJ, xbq_ne h, cond_false]
theorem xzI_ne {I : Nat → Nat → Int32} {a a' : Nat} (h : a' ≠ a) : xzI I a a' = I a' := by
  funext j'
  simp only [xzI, xbq_ne h, cond_false]
theorem xzJ_ne {I : Nat → Nat → Int64} {a a' : Nat} (h : a' ≠ a) : xzJ I a a' = I a' := by
  funext j'
  simp only [xzJ, xbq_ne h, cond_false]
theorem xwI_eq {I : Nat → Nat → Int32} {a j : Nat} {v : Int32} : xwI I a j v a = upd (I a) j v := by
  funext j'
  simp only [xwI, xbq_eq, cond_true, upd]
  by_cases h : j' = j
  · subst h; simp only [xbq_eq, cond_true, if_true]
  · simp only [xbq_ne h, cond_false, if_neg h]
theorem xwJ_eq {I : Nat → Nat → Int64} {a j : Nat} {v : Int64} : xwJ I a j v a = vp_updL (I a) j v := by
  funext j'
  simp only [xwJ, xbq_eq, cond_true, vp_updL]
  by_cases h : j' = j
  · subst h; simp only [xbq_eq, cond_true, if_true]
  · simp only [xbq_ne h, cond_false, if_neg h]
theorem xcell_I {P : xPr} {I I' : Nat → Nat → Int32} {J J' : Nat → Nat → Int64} {a : Nat} (h : I' a = I a) (hJ : J' a = J a) (s : xSh) : xcell P I' J' a s = xcell P I J a s := by
  have e : ∀ k c : Nat, xfv I' J' a k c = xfv I J a k c := by
    intro k c
    match c with
    | 0 => simp only [xfv, h]
    | 1 => simp only [xfv, hJ]
    | 2 => rfl
    | r + 3 => rfl
  simp only [xcell, h, hJ, e]
theorem xws_get {P : xPr} {M : xMem} {a : Nat} {h : xSh} (e : M.1[a + 2]? = some h) : (xws P M)[a]? = some (P.1.1 + a, xcell P M.2.1 M.2.2 (a + 2) h) := by
  simp only [xws, List.getElem?_mapIdx, List.getElem?_drop]
  rw [Nat.add_comm 2 a, e]
  rfl
theorem xws_len {P : xPr} {M : xMem} : (xws P M).length = M.1.length - 2 := by simp [xws]
theorem xws_D {P : xPr} {M : xMem} : va_D (xA P) (xws P M) := by
  have g : ∀ (i : Nat) (p : Nat × va_E), (xws P M)[i]? = some p → p.1 = P.1.1 + i := by
    intro i p h
    simp only [xws, List.getElem?_mapIdx, List.getElem?_drop] at h
    cases e : M.1[2 + i]? with
    | none => rw [e] at h; cases h
    | some s => rw [e] at h; cases h; rfl
  refine ⟨fun i j p q hp hq e => ?_, fun k q hq => ?_⟩
  · have h1 := g i p hp
    have h2 := g j q hq
    omega
  · have := g k q hq
    show P.1.1 ≤ q.1
    omega
/-- one cell's contents change -/
theorem xws_set {P : xPr} {M M' : xMem} {a : Nat} {h : xSh} (e : M.1[a + 2]? = some h) (hS : M'.1 = M.1) (hI : ∀ k, k ≠ a → M'.2.1 (k + 2) = M.2.1 (k + 2)) (hJ : ∀ k, k ≠ a → M'.2.2 (k + 2) = M.2.2 (k + 2)) : xws P M' = (xws P M).set a (P.1.1 + a, xcell P M'.2.1 M'.2.2 (a + 2) h) := by
  apply List.ext_getElem?
  intro k
  have hl : a < (xws P M).length := (List.getElem?_eq_some_iff.mp (xws_get (P := P) e)).1
  rw [List.getElem?_set]
  by_cases hk : a = k
  · subst hk
    rw [if_pos rfl, if_pos hl]
    exact xws_get (by rw [hS]; exact e)
  · rw [if_neg hk]
    simp only [xws, List.getElem?_mapIdx, List.getElem?_drop, hS]
    cases M.1[2 + k]? with
    | none => rfl
    | some s => simp only [Option.map_some, xcell_I (hI k (Ne.symm hk)) (hJ k (Ne.symm hk)) s]
theorem xws_putI {P : xPr} {M : xMem} {a k : Nat} {x : Int32} {h : xSh} (e : M.1[a + 2]? = some h) : xws P (xputI M (a + 2) k x) = (xws P M).set a (P.1.1 + a, xcell P (xwI M.2.1 (a + 2) k x) M.2.2 (a + 2) h) :=
  xws_set (M' := xputI M (a + 2) k x) e rfl (fun q hq => xwI_ne (by omega)) (fun _ _ => rfl)
theorem xws_putJ {P : xPr} {M : xMem} {a k : Nat} {x : Int64} {h : xSh} (e : M.1[a + 2]? = some h) : xws P (xputJ M (a + 2) k x) = (xws P M).set a (P.1.1 + a, xcell P M.2.1 (xwJ M.2.2 (a + 2) k x) (a + 2) h) :=
  xws_set (M' := xputJ M (a + 2) k x) e rfl (fun _ _ => rfl) (fun q hq => xwJ_ne (by omega))
theorem xws_cpI {P : xPr} {M : xMem} {a p b q n : Nat} {h : xSh} (e : M.1[b + 2]? = some h) : xws P (M.1, xcpI M.2.1 a p (b + 2) q n, M.2.2) = (xws P M).set b (P.1.1 + b, xcell P (xcpI M.2.1 a p (b + 2) q n) M.2.2 (b + 2) h) :=
  xws_set (M' := (M.1, xcpI M.2.1 a p (b + 2) q n, M.2.2)) e rfl (fun k hk => by funext j; simp only [xcpI, xbq_ne (show k + 2 ≠ b + 2 by omega), cond_false]) (fun _ _ => rfl)
theorem xfs_putI {P : xPr} {I : Nat → Nat → Int32} {J : Nat → Nat → Int64} {a k : Nat} {x : Int32} {cs : List Nat} (h : cs[k]? = some 0) : cs.mapIdx (fun j c => xv P (xfv (xwI I a k x) J a j c)) = (cs.mapIdx (fun j c => xv P (xfv I J a j c))).set k (.int x) := by
  apply List.ext_getElem?
  intro j
  have hl : k < (cs.mapIdx (fun j c => xv P (xfv I J a j c))).length := by simpa using (List.getElem?_eq_some_iff.mp h).1
  rw [List.getElem?_set]
  by_cases hk : k = j
  · subst hk
    rw [if_pos rfl, if_pos hl, List.getElem?_mapIdx, h]
    simp only [Option.map_some, xfv, xwI_eq, upd, if_true, xv]
  · rw [if_neg hk, List.getElem?_mapIdx, List.getElem?_mapIdx]
    cases cs[j]? with
    | none => rfl
    | some c =>
      simp only [Option.map_some]
      match c with
      | 0 => simp only [xfv, xwI_eq, upd, if_neg (Ne.symm hk)]
      | 1 => rfl
      | 2 => rfl
      | r + 3 => rfl
theorem xfs_putJ {P : xPr} {I : Nat → Nat → Int32} {J : Nat → Nat → Int64} {a k : Nat} {x : Int64} {cs : List Nat} (h : cs[k]? = some 1) : cs.mapIdx (fun j c => xv P (xfv I (xwJ J a k x) a j c)) = (cs.mapIdx (fun j c => xv P (xfv I J a j c))).set k (.long x) := by
  apply List.ext_getElem?
  intro j
  have hl : k < (cs.mapIdx (fun j c => xv P (xfv I J a j c))).length := by simpa using (List.getElem?_eq_some_iff.mp h).1
  rw [List.getElem?_set]
  by_cases hk : k = j
  · subst hk
    rw [if_pos rfl, if_pos hl, List.getElem?_mapIdx, h]
    simp only [Option.map_some, xfv, xwJ_eq, vp_updL, if_true, xv]
  · rw [if_neg hk, List.getElem?_mapIdx, List.getElem?_mapIdx]
    cases cs[j]? with
    | none => rfl
    | some c =>
      simp only [Option.map_some]
      match c with
      | 0 => rfl
      | 1 => simp only [xfv, xwJ_eq, vp_updL, if_neg (Ne.symm hk)]
      | 2 => rfl
      | r + 3 => rfl
theorem xfs_putR {P : xPr} {I : Nat → Nat → Int32} {J : Nat → Nat → Int64} {a k q c0 : Nat} {cs : List Nat} (h : cs[k]? = some c0) : (cs.set k (q + 3)).mapIdx (fun j c => xv P (xfv I J a j c)) = (cs.mapIdx (fun j c => xv P (xfv I J a j c))).set k (.ref (xad P q)) := by
  apply List.ext_getElem?
  intro j
  have hl : k < cs.length := (List.getElem?_eq_some_iff.mp h).1
  rw [List.getElem?_set, List.getElem?_mapIdx, List.getElem?_set]
  by_cases hk : k = j
  · subst hk
    rw [if_pos rfl, if_pos hl, if_pos rfl, if_pos (by simpa using hl)]
    rfl
  · rw [if_neg hk, if_neg hk, List.getElem?_mapIdx]
theorem xws_putR {P : xPr} {M : xMem} {a k q c0 : Nat} {h : xSh} (e : M.1[a + 2]? = some h) (h0 : h.1 = 0) (hk : h.2.2[k]? = some c0) : xws P (xputR M (a + 2) k q) = (xws P M).set a (P.1.1 + a, .inr (h.2.1, (h.2.2.mapIdx (fun j c => xv P (xfv M.2.1 M.2.2 (a + 2) j c))).set k (.ref (xad P q)))) := by
  have e1 : (xputR M (a + 2) k q).1 = M.1.set (a + 2) (h.1, h.2.1, h.2.2.set k (q + 3)) := by simp only [xputR, e]
  apply List.ext_getElem?
  intro j
  have hl : a < (xws P M).length := (List.getElem?_eq_some_iff.mp (xws_get (P := P) e)).1
  have hl2 : a + 2 < M.1.length := (List.getElem?_eq_some_iff.mp e).1
  rw [List.getElem?_set]
  by_cases hj : a = j
  · subst hj
    rw [if_pos rfl, if_pos hl]
    rw [xws_get (P := P) (M := xputR M (a + 2) k q) (a := a) (h := (h.1, h.2.1, h.2.2.set k (q + 3))) (by rw [e1, List.getElem?_set, if_pos rfl, if_pos hl2])]
    simp only [xcell, h0, xfs_putR hk]
    rfl
  · rw [if_neg hj]
    simp only [xws, List.getElem?_mapIdx, List.getElem?_drop, e1, List.getElem?_set]
    rw [if_neg (by omega)]
    rfl
theorem xws_new {P : xPr} {M : xMem} {h : xSh} (h2 : 2 ≤ M.1.length) : xws P (xnew M h) = xws P M ++ [(P.1.1 + (M.1.length - 2), xcell P (xzI M.2.1 M.1.length) (xzJ M.2.2 M.1.length) M.1.length h)] := by
  have hd : (xnew M h).1.drop 2 = M.1.drop 2 ++ [h] := by simp only [xnew]; rw [List.drop_append_of_le_length h2]
  simp only [xws, hd, List.mapIdx_append, List.length_drop]
  congr 1
  · apply List.ext_getElem?
    intro k
    simp only [List.getElem?_mapIdx, List.getElem?_drop]
    cases e : M.1[2 + k]? with
    | none => rfl
    | some s =>
      have hk : 2 + k < M.1.length := (List.getElem?_eq_some_iff.mp e).1
      simp only [Option.map_some, xnew, xcell_I (P := P) (xzI_ne (I := M.2.1) (show k + 2 ≠ M.1.length by omega)) (xzJ_ne (I := M.2.2) (show k + 2 ≠ M.1.length by omega)) s]
  · simp only [List.mapIdx_cons, List.mapIdx_nil, Nat.zero_add, xnew, Nat.sub_add_cancel h2]
/-! locals -/
def xhas (P : xPr) (ls : Array Slot) (n : Nat) (L : xLs) : Prop := ls.size = n ∧ lv_wf ls ∧ ∀ (i : Nat) (v : Value), L[i]? = some (some v) → ls[i]? = some (.val (xv P v))
def xlvl (P : xPr) (L : xLs) : List (Nat × Value) := L.zipIdx.filterMap (fun q => q.1.map (fun v => (q.2, xv P v)))
theorem xlvl_mem {P : xPr} {L : xLs} {i : Nat} {w : Value} : (i, w) ∈ xlvl P L ↔ ∃ v, L[i]? = some (some v) ∧ w = xv P v := by
  simp only [xlvl, List.mem_filterMap]
  constructor
  · rintro ⟨⟨o, j⟩, hm, he⟩
    have h1 := List.mem_zipIdx_iff_getElem?.mp hm
    cases o with
    | none => cases he
    | some v =>
      simp only [Option.map_some, Option.some.injEq, Prod.mk.injEq] at he
      obtain ⟨rfl, rfl⟩ := he
      exact ⟨v, h1, rfl⟩
  · rintro ⟨v, h1, rfl⟩
    exact ⟨(some v, i), List.mem_zipIdx_iff_getElem?.mpr h1, rfl⟩
theorem xhas_lv {P : xPr} {ls : Array Slot} {n : Nat} {L : xLs} (h : xhas P ls n L) : lv_has ls n (xlvl P L) := by
  refine ⟨h.1, h.2.1, fun q hq => ?_⟩
  obtain ⟨v, h1, h2⟩ := xlvl_mem.mp (show (q.1, q.2) ∈ xlvl P L from hq)
  rw [h2]
  exact h.2.2 _ _ h1
theorem xv_cat (P : xPr) (v : Value) : (xv P v).category = v.category := by cases v <;> rfl
theorem xcut_get {L : xLs} {i j : Nat} {w : Value} (h : (xcut L i)[j]? = some (some w)) : L[j]? = some (some w) ∧ ¬ (j + 1 = i ∧ w.category = 2) := by
  match i with
  | 0 => exact ⟨h, fun q => by omega⟩
  | k + 1 =>
    simp only [xcut] at h
    by_cases hj : j = k
    · subst hj
      cases hb : xlg (L.getD j none) with
      | true =>
        rw [hb, cond_true, List.getElem?_set] at h
        rw [if_pos rfl] at h
        split at h <;> cases h
      | false =>
        rw [hb, cond_false] at h
        refine ⟨h, fun q => ?_⟩
        have hd : L.getD j none = some w := by rw [List.getD_eq_getElem?_getD, h]; rfl
        rw [hd] at hb
        cases w <;> simp [xlg, Value.category] at hb q
    · refine ⟨?_, fun q => by omega⟩
      cases hb : xlg (L.getD k none) with
      | true => rw [hb, cond_true, List.getElem?_set, if_neg (Ne.symm hj)] at h; exact h
      | false => rw [hb, cond_false] at h; exact h
theorem xhas_st1 {P : xPr} {ls' : Array Slot} {n i : Nat} {L : xLs} {v : Value} (h : lv_has ls' n ((i, xv P v) :: (xlvl P L).filter (fun q => !(q.1 == i) && !(q.1 + 1 == i && q.2.category == 2)))) : xhas P ls' n (xst1 L i v) := by
  refine ⟨h.1, h.2.1, fun j w hw => ?_⟩
  simp only [xst1, List.getElem?_set] at hw
  by_cases hj : i = j
  · subst hj
    rw [if_pos rfl] at hw
    split at hw
    · cases hw
      exact h.2.2 (i, xv P v) List.mem_cons_self
    · cases hw
  · rw [if_neg hj] at hw
    obtain ⟨h1, h2⟩ := xcut_get hw
    refine h.2.2 (j, xv P w) (List.mem_cons_of_mem _ (List.mem_filter.mpr ⟨xlvl_mem.mpr ⟨w, h1, rfl⟩, ?_⟩))
    simp only [xv_cat, Bool.and_eq_true, Bool.not_eq_true', beq_eq_false_iff_ne, ne_eq, Bool.and_eq_false_iff]
    refine ⟨Ne.symm hj, ?_⟩
    by_cases q : j + 1 = i
    · exact Or.inr fun z => h2 ⟨q, z⟩
    · exact Or.inl q
theorem xhas_st2 {P : xPr} {ls' : Array Slot} {n i : Nat} {L : xLs} {v : Value} (h : lv_has ls' n ((i, xv P v) :: (xlvl P L).filter (fun q => !(q.1 == i) && (!(q.1 == i + 1) && !(q.1 + 1 == i && q.2.category == 2))))) : xhas P ls' n (xst2 L i v) := by
  refine ⟨h.1, h.2.1, fun j w hw => ?_⟩
  simp only [xst2, List.getElem?_set] at hw
  by_cases hj : i = j
  · subst hj
    rw [if_pos rfl] at hw
    split at hw
    · cases hw
      exact h.2.2 (i, xv P v) List.mem_cons_self
    · cases hw
  · rw [if_neg hj] at hw
    by_cases hj2 : i + 1 = j
    · rw [if_pos hj2] at hw
      split at hw <;> cases hw
    · rw [if_neg hj2] at hw
      obtain ⟨h1, h2⟩ := xcut_get hw
      refine h.2.2 (j, xv P w) (List.mem_cons_of_mem _ (List.mem_filter.mpr ⟨xlvl_mem.mpr ⟨w, h1, rfl⟩, ?_⟩))
      simp only [xv_cat, Bool.and_eq_true, Bool.not_eq_true', beq_eq_false_iff_ne, ne_eq, Bool.and_eq_false_iff]
      refine ⟨Ne.symm hj, Ne.symm hj2, ?_⟩
      by_cases q : j + 1 = i
      · exact Or.inr fun z => h2 ⟨q, z⟩
      · exact Or.inl q
/-! a method's entry -/
theorem xargs_get {P : xPr} : ∀ (vs : List Value) (i j : Nat) (w : Value), (∀ v ∈ vs, xok v = true) → (xargs vs)[j]? = some (some w) → (i + j, xv P w) ∈ lv_args i (vs.map (xv P)) := by
  intro vs
  induction vs with
  | nil => intro i j w _ h; simp [xargs] at h
  | cons v vs ih =>
    intro i j w hk h
    have hk' : ∀ v ∈ vs, xok v = true := fun q hq => hk q (List.mem_cons_of_mem _ hq)
    have hv := hk v List.mem_cons_self
    simp only [List.map_cons, lv_args]
    cases v with
    | long x =>
      rw [if_pos (show (xv P (.long x)).category = 2 from rfl)]
      match j with
      | 0 => simp [xargs] at h; subst h; exact List.mem_cons_self
      | 1 => simp [xargs] at h
      | j + 2 =>
        refine List.mem_cons_of_mem _ ?_
        have h1 := ih (i + 2) j w hk' (by simpa [xargs] using h)
        rwa [show i + 2 + j = i + (j + 2) by omega] at h1
    | int x =>
      rw [if_neg (show ¬ (xv P (.int x)).category = 2 by intro q; cases q)]
      match j with
      | 0 => simp [xargs] at h; subst h; exact List.mem_cons_self
      | j + 1 =>
        refine List.mem_cons_of_mem _ ?_
        have h1 := ih (i + 1) j w hk' (by simpa [xargs] using h)
        rwa [show i + 1 + j = i + (j + 1) by omega] at h1
    | ref x =>
      rw [if_neg (show ¬ (xv P (.ref x)).category = 2 by intro q; cases q)]
      match j with
      | 0 => simp [xargs] at h; subst h; exact List.mem_cons_self
      | j + 1 =>
        refine List.mem_cons_of_mem _ ?_
        have h1 := ih (i + 1) j w hk' (by simpa [xargs] using h)
        rwa [show i + 1 + j = i + (j + 1) by omega] at h1
    | float x => cases hv
    | double x => cases hv
    | null => cases hv
    | retAddr x => cases hv
theorem xargs_len {P : xPr} : ∀ (vs : List Value), (∀ v ∈ vs, xok v = true) → (lg_sl (vs.map (xv P))).length = (xargs vs).length := by
  intro vs
  induction vs with
  | nil => intro _; rfl
  | cons v vs ih =>
    intro hk
    have hk' : ∀ v ∈ vs, xok v = true := fun q hq => hk q (List.mem_cons_of_mem _ hq)
    have hv := hk v List.mem_cons_self
    have h1 := ih hk'
    simp only [lg_sl, List.map_cons, List.flatMap_cons, List.length_append] at h1 ⊢
    rw [h1]
    cases v <;> first | (cases hv; done) | (simp [xargs, xv, Value.category]; omega) | (simp [xargs, xv, Value.category])
theorem xhas_entry {P : xPr} {vs : List Value} {n : Nat} (hk : ∀ v ∈ vs, xok v = true) (hl : (xargs vs).length ≤ n) : xhas P ((lg_sl (vs.map (xv P)) ++ List.replicate (n - (lg_sl (vs.map (xv P))).length) Slot.unset).toArray) n (xent vs n) := by
  have h := lv_entry (vs.map (xv P)) (n := n) (by rw [xargs_len vs hk]; exact hl)
  refine ⟨h.1, h.2.1, fun i v hv => ?_⟩
  refine h.2.2 (i, xv P v) ?_
  have h1 : (xargs vs)[i]? = some (some v) := by
    simp only [xent] at hv
    by_cases q : i < (xargs vs).length
    · rwa [List.getElem?_append_left q] at hv
    · rw [List.getElem?_append_right (by omega), List.getElem?_replicate] at hv
      split at hv <;> cases hv
  have h2 := xargs_get (P := P) vs 0 i v hk h1
  rwa [Nat.zero_add] at h2
