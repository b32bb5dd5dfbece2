/-! ===== what holds at a method's start, and how a step of the evaluator is one of the machine ===== -/
def xTab (U : State) : Prop := ∀ w ∈ xTS, ∀ a' : Array Value, w.before a' U = true
theorem xTab_warm {s U : State} (hW : s.WarmedH U.vm) (h : xTab s) : xTab U := by
  intro w hw a'
  have hg : xgw w = true := (List.mem_filter.mp hw).2
  have h0 := h w hw #[]
  cases hz : goodWord w with
  | true => exact word_at hW (good_of_word hz) h0
  | false =>
    unfold xgw at hg
    rw [hz, Bool.false_or] at hg
    cases w <;> first | (cases hg; done) | exact va_Nw.use rfl (va_Nw.warmF hW h0) | exact va_Nw.use rfl (va_Nw.warmM hW h0)
def xOwn : String := "ink eyes leaf reader pace skips pay when word guard or and not all place letter needs min max "
def xStr (P : xPr) (U : State) : Prop := vk_S 1 [94] [xtext] (fun _ => P.1.2.2.1) (fun _ => P.1.2.2.2) (xA P) U U.heap ∧ vk_R "WetInk$Parser" 218 xOwn P.1.2.2.1 U ∧ va_Z "java/lang/String" "COMPACT_STRINGS" "Z" (.int 1) (xA P) U U.heap ∧ va_Zq "jdk/internal/util/Preconditions" "SIOOBE_FORMATTER" "Ljava/util/function/BiFunction;" (xA P) U U.heap
def xEnv (P : xPr) (L : Nat) (xs : Nat → Int32) (U : State) : Prop := va_K P.2.1 xCL (xtys P) U ∧ xTab U ∧ va_T .int P.1.2.1 L (fun j => .int (xs j)) (xA P) U U.heap ∧ xStr P U ∧ P.1.1 ≤ U.heap.size
theorem xEnv_warm {P : xPr} {L : Nat} {xs : Nat → Int32} {s U : State} (hW : s.WarmedH U.vm) (hz : s.heap.size ≤ U.heap.size) (hk : ∀ q : Nat, q < s.heap.size → ¬ xA P q → U.heap[q]? = s.heap[q]?) (h : xEnv P L xs s) : xEnv P L xs U := by
  obtain ⟨h1, h2, h3, ⟨h4, h5, h6, h8⟩, h7⟩ := h
  exact ⟨va_K.moved hW.alike h1, xTab_warm hW h2, va_T.moved hW.alike (h3.kept hk), ⟨vk_S.moved hW.alike (h4.kept hk), vk_R.warm hW h5, va_Z.moved hW.alike (h6.kept hk), va_Zq.moved hW.alike (h8.kept hk)⟩, Nat.le_trans h7 hz⟩
/-- the script is in its place -/
def xpre (L : Nat) (xs : Nat → Int32) (M : xMem) : Prop := 2 ≤ M.1.length ∧ (∃ h, M.1[0]? = some h ∧ h.2.1 = L) ∧ M.2.1 0 = xs
def xsz1 (h : xSh) : Nat := match h.1 with
  | 0 => h.2.2.length
  | _ => h.2.1
/-- the slots that the cells take -/
def xns : List xSh → Nat
  | [] => 0
  | h :: t => xsz1 h + xns t
theorem xns_app (l : List xSh) (h : xSh) : xns (l ++ [h]) = xns l + xsz1 h := by
  induction l with
  | nil => simp [xns]
  | cons a l ih => simp only [List.cons_append, xns, ih]; omega
theorem xns_set : ∀ (l : List xSh) (a : Nat) (h h' : xSh), l[a]? = some h → xsz1 h' = xsz1 h → xns (l.set a h') = xns l := by
  intro l
  induction l with
  | nil => intro a h h' e; simp at e
  | cons x l ih =>
    intro a h h' e hz
    match a with
    | 0 => simp at e; subst e; simp only [List.set_cons_zero, xns, hz]
    | a + 1 => simp only [List.set_cons_succ, xns, ih a h h' (by simpa using e) hz]
def xFr (mi d : Nat) (p : Program) (R : Room) (s : State) (m : MethodId) (meth : Method) (c : Code) (q : xMt) : Prop :=
  xMTL[mi]? = some q ∧ p.tables.exec = Jvm.exec ∧ c.code = q.2.1 ∧ c.maxLocals = xML mi ∧ meth.sig.returnType = q.2.2.2.1 ∧ s.vm.findClass q.1.cls = some m.cls ∧ meth.locks = false ∧ (q.2.2.2.2.2.2.1 = 2 → meth.name = "<init>") ∧ d + 1 ≤ R.frames ∧ 64 * (d + 1) ≤ R.locals
/-- a return's instruction for an answer -/
def xisr (ins : Instr) (v : Option Value) (rt : Nat) : Prop := match v with
  | none => ins = .return_ ∧ rt = 0
  | some (.int x) => ins = .ireturn ∧ (rt = 1 ∨ rt = 2 ∧ (x = 0 ∨ x = 1))
  | some (.long _) => ins = .lreturn ∧ rt = 3
  | some (.ref _) => ins = .areturn ∧ rt = 4
  | _ => False
def xEndH (l : Launch) (P : xPr) (mi : Nat) (r : xRes) (p : Program) (e : Env) (R : Room) (s : State) (m : MethodId) (args : Array Value) (below : List Frame) (meth : Method) (c : Code) (Q : State → Prop) (mcF msF : Nat) (q : xMt) : Prop :=
  ∀ (H' : Heap) (locs' : List Loc) (pc' : Nat) (lsS' : Array Slot) (ins : Instr), decode q.2.1 pc' = .ok (ins, 1) → xisr ins r.1 (xRT mi) → va_P P.2.1 xCL (xws P r.2) H' → va_S (xA P) s.heap H' locs' → W p l e R s m args below meth c H' locs' mcF msF Q (F0 m pc' lsS' ((r.1.map (xv P)).toList))
/-- from the evaluator's state the machine comes to the end with the evaluator's answer -/
def xSnd (l : Launch) (P : xPr) (L : Nat) (xs : Nat → Int32) (d mi pc : Nat) (ls : xLs) (st : List Value) (M : xMem) (r : xRes) : Prop := (M.1.length ≤ r.2.1.length ∧ xns M.1 ≤ xns r.2.1 ∧ (xpre L xs M → xpre L xs r.2)) ∧
  ∀ (p : Program) (e : Env) (R : Room) (s : State) (m : MethodId) (args : Array Value) (below : List Frame) (meth : Method) (c : Code) (H : Heap) (locs : List Loc) (cells slots : Nat) (Q : State → Prop) (mcF msF : Nat) (lsS : Array Slot) (q : xMt),
    xFr mi d p R s m meth c q → xEnv P L xs s → xpre L xs M → va_P P.2.1 xCL (xws P M) H → va_S (xA P) s.heap H locs → s.heap.size + cells = P.1.1 + (M.1.length - 2) → cells + r.2.1.length = mcF + M.1.length → slots + xns r.2.1 = msF + xns M.1 → mcF ≤ R.cells → msF ≤ R.slots → xhas P lsS (xML mi) ls →
    xEndH l P mi r p e R s m args below meth c Q mcF msF q → W p l e R s m args below meth c H locs cells slots Q (F0 m pc lsS (st.map (xv P)))
section SND
variable {l : Launch} {P : xPr} {L : Nat} {xs : Nat → Int32} {d mi pc pc' : Nat} {ls ls' : xLs} {st st' : List Value} {M M' : xMem} {r : xRes}
/-- a step that leaves the memory -/
theorem xSnd_go {q : xMt} (hq : xMTL[mi]? = some q) (h : xSnd l P L xs d mi pc' ls' st' M r)
    (hw : ∀ {p : Program} {e : Env} {R : Room} {s : State} {m : MethodId} {args : Array Value} {below : List Frame} {meth : Method} {c : Code} {H : Heap} {locs : List Loc} {cells slots : Nat} {Q : State → Prop} {lsS : Array Slot},
      xFr mi d p R s m meth c q → xEnv P L xs s → xpre L xs M → va_P P.2.1 xCL (xws P M) H → va_S (xA P) s.heap H locs → xhas P lsS (xML mi) ls →
      (∀ lsS', xhas P lsS' (xML mi) ls' → W p l e R s m args below meth c H locs cells slots Q (F0 m pc' lsS' (st'.map (xv P)))) → W p l e R s m args below meth c H locs cells slots Q (F0 m pc lsS (st.map (xv P)))) : xSnd l P L xs d mi pc ls st M r :=
  ⟨h.1, fun p e R s m args below meth c H locs cells slots Q mcF msF lsS q' fr ev pr hP hS hz h1 h2 h3 h4 hl he => by cases hq.symm.trans fr.1; exact hw fr ev pr hP hS hl (fun lsS' hl' => h.2 p e R s m args below meth c H locs cells slots Q mcF msF lsS' q fr ev pr hP hS hz h1 h2 h3 h4 hl' he)⟩
/-- the same, with the room that is left -/
theorem xSnd_goC {q : xMt} (hq : xMTL[mi]? = some q) (h : xSnd l P L xs d mi pc' ls' st' M r)
    (hw : ∀ {p : Program} {e : Env} {R : Room} {s : State} {m : MethodId} {args : Array Value} {below : List Frame} {meth : Method} {c : Code} {H : Heap} {locs : List Loc} {cells slots : Nat} {Q : State → Prop} {lsS : Array Slot},
      cells ≤ R.cells → slots ≤ R.slots → xFr mi d p R s m meth c q → xEnv P L xs s → xpre L xs M → va_P P.2.1 xCL (xws P M) H → va_S (xA P) s.heap H locs → xhas P lsS (xML mi) ls →
      (∀ lsS', xhas P lsS' (xML mi) ls' → W p l e R s m args below meth c H locs cells slots Q (F0 m pc' lsS' (st'.map (xv P)))) → W p l e R s m args below meth c H locs cells slots Q (F0 m pc lsS (st.map (xv P)))) : xSnd l P L xs d mi pc ls st M r :=
  ⟨h.1, fun p e R s m args below meth c H locs cells slots Q mcF msF lsS q' fr ev pr hP hS hz h1 h2 h3 h4 hl he => by cases hq.symm.trans fr.1; exact hw (by have := h.1.1; omega) (by have := h.1.2.1; omega) fr ev pr hP hS hl (fun lsS' hl' => h.2 p e R s m args below meth c H locs cells slots Q mcF msF lsS' q fr ev pr hP hS hz h1 h2 h3 h4 hl' he)⟩
/-- a step that writes into a cell -/
theorem xSnd_mem {q : xMt} (hq : xMTL[mi]? = some q) (h : xSnd l P L xs d mi pc' ls st' M' r) (hlen : M'.1.length = M.1.length) (hns : xns M'.1 = xns M.1) (hpre : xpre L xs M → xpre L xs M')
    (hw : ∀ {p : Program} {e : Env} {R : Room} {s : State} {m : MethodId} {args : Array Value} {below : List Frame} {meth : Method} {c : Code} {H : Heap} {locs : List Loc} {cells slots : Nat} {Q : State → Prop} {lsS : Array Slot},
      xFr mi d p R s m meth c q → xEnv P L xs s → xpre L xs M → va_P P.2.1 xCL (xws P M) H → va_S (xA P) s.heap H locs → xhas P lsS (xML mi) ls →
      (∀ (H1 : Heap) (locs1 : List Loc), va_P P.2.1 xCL (xws P M') H1 → va_S (xA P) s.heap H1 locs1 → W p l e R s m args below meth c H1 locs1 cells slots Q (F0 m pc' lsS (st'.map (xv P)))) → W p l e R s m args below meth c H locs cells slots Q (F0 m pc lsS (st.map (xv P)))) : xSnd l P L xs d mi pc ls st M r :=
  ⟨⟨by rw [← hlen]; exact h.1.1, by rw [← hns]; exact h.1.2.1, fun z => h.1.2.2 (hpre z)⟩, fun p e R s m args below meth c H locs cells slots Q mcF msF lsS q' fr ev pr hP hS hz h1 h2 h3 h4 hl he => by cases hq.symm.trans fr.1; exact hw fr ev pr hP hS hl (fun H1 locs1 hP1 hS1 => h.2 p e R s m args below meth c H1 locs1 cells slots Q mcF msF lsS q fr ev (hpre pr) hP1 hS1 (by rw [hlen]; exact hz) (by rw [hlen]; exact h1) (by rw [hns]; exact h2) h3 h4 hl he)⟩
/-- the heap ends where the cells end -/
theorem x_size {p : Program} {e : Env} {R : Room} {s : State} {m : MethodId} {args : Array Value} {below : List Frame} {meth : Method} {c : Code} {H : Heap} {locs : List Loc} {cells slots : Nat} {T : State} (X : Stand p l e R s m args below meth c T locs cells slots) (hT : T.heap = H) (ev : xEnv P L xs s) (hP : va_P P.2.1 xCL (xws P M) H) (hS : va_S (xA P) s.heap H locs) (hz : s.heap.size + cells = P.1.1 + (M.1.length - 2)) : H.size = P.1.1 + (M.1.length - 2) := by
  have h1 : H.size ≤ s.heap.size + cells := by rw [← hT]; exact X.heapSize
  have h2 : P.1.1 ≤ H.size := Nat.le_trans ev.2.2.2.2 hS.1
  cases hn : M.1.length - 2 with
  | zero => omega
  | succ k =>
    have hk : k < (xws P M).length := by rw [xws_len]; omega
    have h3 := hP k _ (List.getElem?_eq_getElem hk)
    have h4 := h3.lt
    have h5 : ((xws P M)[k]).1 = P.1.1 + k := by simp [xws]
    rw [h5] at h4
    omega
end SND
/-! contracts -/
def xPc (P : xPr) (L : Nat) (xs : Nat → Int32) (vs : List Value) (M : xMem) : Array Value → State → Prop := fun v U => v = (vs.map (xv P)).toArray ∧ xEnv P L xs U ∧ va_P P.2.1 xCL (xws P M) U.heap ∧ U.heap.size = P.1.1 + (M.1.length - 2)
def xQc (P : xPr) (r : xRes) : Array Value → State → Outcome → State → Prop := fun _ st oc t => oc = .returned (r.1.map (xv P)) ∧ va_P P.2.1 xCL (xws P r.2) t.heap ∧ st.heap.size ≤ t.heap.size ∧ ∀ q : Nat, q < st.heap.size → ¬ xA P q → t.heap[q]? = st.heap[q]?
def xrm (d : Nat) (M : xMem) (r : xRes) : Room := { frames := d + 1, cells := r.2.1.length - M.1.length, slots := xns r.2.1 - xns M.1, locals := 64 * (d + 1) }
def xMet (l : Launch) (P : xPr) (L : Nat) (xs : Nat → Int32) (d : Nat) (q : xMt) (vs : List Value) (M : xMem) (r : xRes) : Prop := Met l q.1 [.code q.1 q.2.1 q.2.2.1 q.2.2.2.1] (xrm d M r) (xPc P L xs vs M) (xQc P r) (r.2.1.length - M.1.length) (xns r.2.1 - xns M.1) (xA P)
theorem xPc_blind {P : xPr} {L : Nat} {xs : Nat → Int32} {vs : List Value} {M : xMem} : FrameBlind (xPc P L xs vs M) := fun a U g mk h => ⟨h.1, xEnv_warm (s := U) (U := U.calling g mk a) (State.WarmedH.refl U) (Nat.le_refl _) (fun _ _ _ => rfl) h.2.1, h.2.2.1, h.2.2.2⟩
section CALLS
variable {p : Program} {l : Launch} {e : Env} {R : Room} {s : State} {m : MethodId} {args : Array Value} {below : List Frame} {meth : Method} {c : Code} {H : Heap} {locs : List Loc} {cells slots : Nat} {Q : State → Prop}
theorem x_call {P : xPr} {r : xRes} {a : Array Value} {mc ms pc : Nat} {lsS : Array Slot} {st0 rest : List Value} (hr : va_Run p l e R s m args below meth c H locs cells slots mc ms (F0 m pc lsS st0) rest (xQc P r a) (xA P)) (hS : va_S (xA P) s.heap H locs)
    (kk : ∀ (H1 : Heap) (locs1 : List Loc), va_P P.2.1 xCL (xws P r.2) H1 → va_S (xA P) s.heap H1 locs1 → W p l e R s m args below meth c H1 locs1 (cells + mc) (slots + ms) Q (F0 m (pc + 3) lsS ((r.1.map (xv P)).toList ++ rest))) : W p l e R s m args below meth c H locs cells slots Q (F0 m pc lsS st0) := by
  intro T hT X
  obtain ⟨v, st₀, t, T', L, h0, X', hL, e1, e2, ⟨hv, hp, hz, hk⟩, st⟩ := hr T hT X
  cases hv
  rw [h0] at hz hk
  obtain ⟨t2, a1, b1⟩ := kk T'.heap (locs ++ L) (by rw [e1]; exact hp)
    ⟨Nat.le_trans hS.1 (by rw [e1]; exact hz), fun q h1 h2 => by rw [e1, hk q (Nat.lt_of_lt_of_le h1 hS.1) h2]; exact hS.2.1 q h1 h2, fun q hq => by
      rcases List.mem_append.mp hq with h | h
      · exact hS.2.2 q h
      · exact hL q h⟩ T' rfl X'
  exact ⟨t2, st t2 a1, b1⟩
end CALLS
