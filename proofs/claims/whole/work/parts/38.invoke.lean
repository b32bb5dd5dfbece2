/-! ===== calls; the evaluator's runs are the machine's ===== -/
theorem xwo1 : (Jvm.Cond.instanceMethod Lib.objectInit) ∈ xTS := xwd_mem (h := 159) (by decide +kernel)
theorem xwo2 : (Jvm.Cond.code Lib.objectInit ⟨#[0xb1]⟩ 1 none) ∈ xTS := xwd_mem (h := 160) (by decide +kernel)
theorem xwa1 : (Jvm.Cond.native arraycopyName) ∈ xTS := xwd_mem (h := 1121) (by decide +kernel)
theorem xwa2 : (Jvm.Cond.static arraycopyName) ∈ xTS := xwd_mem (h := 1120) (by decide +kernel)
theorem xwa3 : (Jvm.Cond.initialized "java/lang/System") ∈ xTS := xwd_mem (h := 151) (by decide +kernel)
theorem xrk0 {r : Option FieldType} (h : xrk r = 0) : r = none := by
  cases r with
  | none => rfl
  | some t => cases t <;> cases h
theorem xrk1 {r : Option FieldType} (h : xrk r = 1) : r = some .int := by
  cases r with
  | none => cases h
  | some t => cases t <;> first | rfl | (cases h; done)
theorem xrk2 {r : Option FieldType} (h : xrk r = 2) : r = some .boolean := by
  cases r with
  | none => cases h
  | some t => cases t <;> first | rfl | (cases h; done)
theorem xrk3 {r : Option FieldType} (h : xrk r = 3) : r = some .long := by
  cases r with
  | none => cases h
  | some t => cases t <;> first | rfl | (cases h; done)
theorem xrk4 {r : Option FieldType} (h : xrk r = 4) : ∃ n, r = some (.object n) := by
  cases r with
  | none => cases h
  | some t => cases t <;> first | exact ⟨_, rfl⟩ | (cases h; done)
/-- what a method's row says -/
theorem xmok_spec {mi : Nat} {q : xMt} (h : xmok mi q = true) : xML mi = q.2.2.1 ∧ q.2.2.1 ≤ 40 ∧ xrk q.2.2.2.1 = xRT mi ∧ plainFor q.1 = true ∧ (q.1.cls ≠ "java/lang/invoke/MethodHandle" ∧ q.1.cls ≠ "java/lang/invoke/VarHandle") ∧ (∀ sig, parseMethodDescriptor q.1.desc = some sig → q.2.2.2.2.2.1 = sig.parameters.length) ∧ xmh q = true := by
  simp only [xmok, Bool.and_eq_true, decide_eq_true_eq] at h
  obtain ⟨⟨⟨⟨⟨⟨⟨h1, h2⟩, h3⟩, h4⟩, h5⟩, h6⟩, h7⟩, h8⟩ := h
  refine ⟨Nat.eq_of_beq_eq_true h1, Nat.le_of_ble_eq_true h2, Nat.eq_of_beq_eq_true h3, h4, ⟨h5, h6⟩, fun sig hs => ?_, h8⟩
  rw [hs] at h7
  exact (Option.some.inj h7).symm
theorem xmh_spec {q : xMt} (h : xmh q = true) (hk : q.2.2.2.2.2.2.1 ≠ 3) : (Jvm.Cond.code q.1 q.2.1 q.2.2.1 q.2.2.2.1) ∈ xTS ∧ (Jvm.Cond.initialized q.1.cls) ∈ xTS ∧ (q.2.2.2.2.2.2.1 = 0 → (Jvm.Cond.static q.1) ∈ xTS) ∧ (q.2.2.2.2.2.2.1 = 1 → (Jvm.Cond.instanceMethod q.1) ∈ xTS ∧ (Jvm.Cond.selects q.1.cls q.1 q.1) ∈ xTS) ∧ (q.2.2.2.2.2.2.1 = 2 → (Jvm.Cond.instanceMethod q.1) ∈ xTS ∧ q.1.name = "<init>") := by
  unfold xmh at h
  split at h
  · rename_i h0 h1 h2 hs he
    simp only [Bool.and_eq_true] at h
    obtain ⟨⟨g1, g2⟩, g3⟩ := h
    refine ⟨xwd_mem g1, xwd_mem g2, fun e => ?_, fun e => ?_, fun e => ?_⟩
    · rw [e] at g3
      exact xwd_mem g3
    · rw [e] at g3
      simp only [Bool.and_eq_true] at g3
      exact ⟨xwd_mem g3.1, xwd_mem g3.2⟩
    · rw [e] at g3
      simp only [Bool.and_eq_true, decide_eq_true_eq] at g3
      exact ⟨xwd_mem g3.1, g3.2⟩
  · exact absurd (Nat.eq_of_beq_eq_true h) hk
theorem xml_spec {own : String} {i a b h kind : Nat} {nest : Bool} (hf : xml own i a b h kind nest = true) : ∃ q, xMTL[a]? = some q ∧ q.2.2.2.2.2.2.1 = kind ∧ q.2.2.2.2.2.1 = b ∧ ((Jvm.Cond.methodLink own i q.1) ∈ xTS ∨ (nest = true ∧ (Jvm.Cond.methodLinkNest own i q.1 "WetInk") ∈ xTS)) := by
  unfold xml at hf
  split at hf
  · rename_i q hq
    simp only [Bool.and_eq_true, Bool.or_eq_true] at hf
    obtain ⟨⟨h1, h2⟩, h3⟩ := hf
    exact ⟨q, hq, Nat.eq_of_beq_eq_true h1, Nat.eq_of_beq_eq_true h2, h3.imp xwd_mem (fun g => ⟨g.1, xwd_mem g.2⟩)⟩
  · cases hf
theorem xmc_spec {a c : Nat} {q : xMt} (hq : xMTL[a]? = some q) (hf : xmc a c = true) : ∃ r, xCL[c]? = some r ∧ r.1 = q.1.cls := by
  unfold xmc at hf
  rw [hq] at hf
  simp only [Bool.and_eq_true] at hf
  obtain ⟨-, h2⟩ := hf
  split at h2
  · rename_i r hr
    exact ⟨r, hr, of_decide_eq_true h2⟩
  · cases h2
theorem xMTL_len : xMTL.length = 323 := by decide +kernel
theorem xmt_lt {a : Nat} {q : xMt} (h : xMTL[a]? = some q) : a < 323 := by
  have h1 := (List.getElem?_eq_some_iff.mp h).1
  rw [xMTL_len] at h1
  exact h1
/-- a constructor answers nothing -/
theorem xinit_all : xMTL.all (fun q => !(Nat.beq q.2.2.2.2.2.2.1 2) || decide (q.2.2.2.1 = none)) = true := by decide +kernel
theorem xinit_none (a : Nat) (q : xMt) (h : xMTL[a]? = some q) (hk : q.2.2.2.2.2.2.1 = 2) : q.2.2.2.1 = none := by
  have h1 := List.all_eq_true.mp xinit_all q (List.mem_of_getElem? h)
  rw [hk] at h1
  simpa using h1
section INVOKE
variable {l : Launch} {P : xPr} {L : Nat} {xs : Nat → Int32}
/-- a contract from a walk, where no native row stands for the method (its class may have some for others) -/
theorem x_ofWF {y : MethodName} {ws ws' : List Jvm.Cond} {rm : Room} {Pc : Array Value → State → Prop} {Qc : Array Value → State → Outcome → State → Prop} {mc ms : Nat} {free : Addr → Prop} {cc : ByteArray} {maxL : Nat} {ret : Option FieldType}
    (hy : plainFor y = true) (hw : ws = Jvm.Cond.code y cc maxL ret :: ws')
    (body : ∀ p e s m args below meth c s₁, BodyLoose p l y (headSpec ws rm) cc maxL ret e s m args below meth c s₁ → c.maxLocals = maxL → Pc args s →
      W p l e (headSpec ws rm).room s m args below meth c s.heap [] 0 0 (MQ below Qc args s mc ms free) (entryFrame m args maxL)) : Met l y ws rm Pc Qc mc ms free := by
  refine MetFree.of_bodySF (code := cc) (maxLocals := maxL) (ret := ret) hy (fun args s m h hn => ?_) (fun p e s m args below meth c s₁ B hml hP _ => ?_)
  · obtain ⟨meth, c, h1, h2, h3, h4, h5, h6, -, -⟩ := Jvm.Cond.code_spec hn (atoms_spec (ws := ws) h _ (by rw [hw]; exact List.mem_cons_self))
    exact ⟨meth, c, h1, h2, h3, h4, h5, h6⟩
  · obtain ⟨t, a1, o, b1, b2, b3⟩ := body p e s m args below meth c s₁ B hml hP s₁ (by rw [B.state]; rfl) (Stand.of_body B)
    exact ⟨t, o, a1, b1, b2, ⟨b3.1, b3.2⟩⟩
/-- a run of the evaluator from a method's entry is a contract of it -/
theorem x_met {d' a : Nat} {qm : xMt} {vs : List Value} {M : xMem} {q : xRes} (hs : xSnd l P L xs d' a 0 (xent vs (xML a)) [] M q) (hq : xMTL[a]? = some qm) (hm : xmok a qm = true) (hk : qm.2.2.2.2.2.2.1 ≠ 3) (hok : ∀ v ∈ vs, xok v = true) (hlen : (xargs vs).length ≤ xML a) (pr : xpre L xs M) : xMet l P L xs d' qm vs M q := by
  obtain ⟨m1, m2, m3, m4, m5, m6, m7⟩ := xmok_spec hm
  obtain ⟨w1, w2, w3, w4, w5⟩ := xmh_spec m7 hk
  unfold xMet
  refine x_ofWF (cc := qm.2.1) (maxL := qm.2.2.1) (ret := qm.2.2.2.1) m4 rfl ?_
  intro p e s m args below meth c s₁ B hml hv
  obtain ⟨rfl, ev, hP, hz⟩ := hv
  rw [lg_entry_eq, ← m1]
  have fr : xFr a d' p (headSpec [.code qm.1 qm.2.1 qm.2.2.1 qm.2.2.2.1] (xrm d' M q)).room s m meth c qm := ⟨hq, B.exec, B.bytes, hml.trans m1.symm, B.returns, findClass_of_methodNamed B.named, B.notSynchronized, fun e => ((name_of_methodNamed B.named B.method).1).trans (w5 e).2, Nat.le_refl _, Nat.le_refl _⟩
  have hlk := fr.2.2.2.2.2.2.1
  have hl1 := hs.1.1
  have hl2 := hs.1.2.1
  refine hs.2 p e _ s m _ below meth c s.heap [] 0 0 _ (q.2.1.length - M.1.length) (xns q.2.1 - xns M.1) _ qm fr ev pr hP va_S.rf (by rw [hz]; rfl) (by omega) (by omega) (Nat.le_refl _) (Nat.le_refl _) (xhas_entry hok hlen) ?_
  intro H' locs' pc' lsS' ins hdec hisr hP' hS'
  have hQ : ∀ t : State, t.heap = H' → s.WarmedH t.vm → xQc P q (vs.map (xv P)).toArray s (.returned (q.1.map (xv P))) t := fun t ht _ => ⟨rfl, by rw [ht]; exact hP', by rw [ht]; exact hS'.1, fun x h1 h2 => by rw [ht]; exact hS'.2.1 x h1 h2⟩
  have hfree : ∀ x ∈ locs', xA P x.base := hS'.2.2
  obtain ⟨qv, qM⟩ := q
  cases qv with
  | none =>
    obtain ⟨rfl, hr⟩ := hisr
    exact W.vret B.exec B.bytes (by rw [B.returns]; exact xrk0 (by rw [m3]; exact hr)) hQ hfree hdec
  | some v =>
    cases v with
    | int x =>
      obtain ⟨rfl, hr⟩ := hisr
      rcases hr with hr | ⟨hr, h01⟩
      · exact W.iret B.exec B.bytes (by rw [B.returns]; exact xrk1 (by rw [m3]; exact hr)) hQ hfree hdec
      · exact W.zret (ty := .boolean) B.exec B.bytes (by rw [B.returns]; exact xrk2 (by rw [m3]; exact hr)) (by rcases h01 with rfl | rfl <;> rfl) hQ hfree hdec
    | long x =>
      obtain ⟨rfl, hr⟩ := hisr
      exact W.lret B.exec B.bytes (by rw [B.returns]; exact xrk3 (by rw [m3]; exact hr)) hQ hfree hdec
    | ref x =>
      obtain ⟨rfl, hr⟩ := hisr
      obtain ⟨n, hn⟩ := xrk4 (by rw [m3]; exact hr)
      exact W.aret (rt := .object n) B.exec B.bytes (by rw [B.returns]; exact hn) (Or.inl ⟨n, rfl⟩) (Or.inr ⟨_, rfl⟩) hQ hfree hdec
    | float x => exact hisr.elim
    | double x => exact hisr.elim
    | null => exact hisr.elim
    | retAddr x => exact hisr.elim
theorem xpush_map {v : Option Value} {st : List Value} : (xpush v st).map (xv P) = (v.map (xv P)).toList ++ st.map (xv P) := by cases v <;> rfl
/-- the calls' common part -/
theorem x_callB {d' a i b mi : Nat} {qm qo : xMt} {M : xMem} {q : xRes} {p : Program} {R : Room} {s : State} {m : MethodId} {args : Array Value} {meth : Method} {c : Code} (fr : xFr mi (d' + 1) p R s m meth c qo) (ev : xEnv P L xs s) (hm : xmok a qm = true) (hk : qm.2.2.2.2.2.2.1 ≠ 3) (hb : qm.2.2.2.2.2.1 = b) (hl : (Jvm.Cond.methodLink qo.1.cls i qm.1) ∈ xTS) :
    CallB R s args qo.1.cls i qm.1 qm.2.1 qm.2.2.1 qm.2.2.2.1 [.code qm.1 qm.2.1 qm.2.2.1 qm.2.2.2.1] (xrm d' M q) (q.2.1.length - M.1.length) (xns q.2.1 - xns M.1) b := by
  obtain ⟨m1, m2, m3, m4, m5, m6, m7⟩ := xmok_spec hm
  obtain ⟨w1, w2, w3, w4, w5⟩ := xmh_spec m7 hk
  obtain ⟨-, -, -, -, -, -, -, -, f1, f2⟩ := fr
  refine ⟨rfl, rfl, f1, ?_, ?_, List.mem_singleton.mpr rfl, ev.2.1 _ w1 args, ev.2.1 _ w2 args, m5, fun sig hs => hb ▸ m6 sig hs, ev.2.1 _ hl args⟩
  · show 8 + (qm.2.2.1 + 11) + 64 * (d' + 1) ≤ R.locals
    omega
  · intro w hw a' U hW
    rw [List.mem_singleton.mp hw]
    exact xTab_warm hW ev.2.1 _ w1 a'
theorem x_callN {d' a i b mi : Nat} {qm qo : xMt} {M : xMem} {q : xRes} {p : Program} {R : Room} {s : State} {m : MethodId} {args : Array Value} {meth : Method} {c : Code} (fr : xFr mi (d' + 1) p R s m meth c qo) (ev : xEnv P L xs s) (hm : xmok a qm = true) (hk : qm.2.2.2.2.2.2.1 ≠ 3) (hb : qm.2.2.2.2.2.1 = b) (hl : (Jvm.Cond.methodLinkNest qo.1.cls i qm.1 "WetInk") ∈ xTS) :
    va_CN R s args qo.1.cls i qm.1 "WetInk" qm.2.1 qm.2.2.1 qm.2.2.2.1 [.code qm.1 qm.2.1 qm.2.2.1 qm.2.2.2.1] (xrm d' M q) (q.2.1.length - M.1.length) (xns q.2.1 - xns M.1) b := by
  obtain ⟨m1, m2, m3, m4, m5, m6, m7⟩ := xmok_spec hm
  obtain ⟨w1, w2, w3, w4, w5⟩ := xmh_spec m7 hk
  obtain ⟨-, -, -, -, -, -, -, -, f1, f2⟩ := fr
  refine ⟨⟨rfl, rfl, f1, ?_, ?_, List.mem_singleton.mpr rfl⟩, ev.2.1 _ w1 args, ev.2.1 _ w2 args, m5, fun sig hs => hb ▸ m6 sig hs, ev.2.1 _ hl args⟩
  · show 8 + (qm.2.2.1 + 11) + 64 * (d' + 1) ≤ R.locals
    omega
  · intro w hw a' U hW
    rw [List.mem_singleton.mp hw]
    exact xTab_warm hW ev.2.1 _ w1 a'
theorem x_pre {vs : List Value} {M : xMem} {s : State} {H : Heap} {locs : List Loc} (ev : xEnv P L xs s) (hP : va_P P.2.1 xCL (xws P M) H) (hS : va_S (xA P) s.heap H locs) (hz : H.size = P.1.1 + (M.1.length - 2)) : ∀ U : State, U.heap = H → s.WarmedH U.vm → xPc P L xs vs M (vs.map (xv P)).toArray U :=
  fun U hU hW => ⟨rfl, xEnv_warm hW (by rw [hU]; exact hS.1) (fun x h1 h2 => by rw [hU]; exact hS.2.1 x h1 h2) ev, by rw [hU]; exact hP, by rw [hU]; exact hz⟩
/-- a call and what follows it, once the machine's call stands -/
theorem xSnd_call {d d' mi pc a : Nat} {ls : xLs} {st rest : List Value} {M : xMem} {q r : xRes} {qo : xMt} {vs : List Value} (hq : xMTL[mi]? = some qo) (hs : xSnd l P L xs d' a 0 (xent vs (xML a)) [] M q) (hF : xSnd l P L xs d mi (pc + 3) ls (xpush q.1 rest) q.2 r)
    (hrun : ∀ {p : Program} {e : Env} {R : Room} {s : State} {m : MethodId} {args : Array Value} {below : List Frame} {meth : Method} {c : Code} {H : Heap} {locs : List Loc} {cells slots : Nat} {lsS : Array Slot}, xFr mi d p R s m meth c qo → xEnv P L xs s → xpre L xs M → va_P P.2.1 xCL (xws P M) H → va_S (xA P) s.heap H locs → H.size = P.1.1 + (M.1.length - 2) → lsS.size = xML mi → cells + (q.2.1.length - M.1.length) ≤ R.cells → slots + (xns q.2.1 - xns M.1) ≤ R.slots →
      ∃ av, va_Run p l e R s m args below meth c H locs cells slots (q.2.1.length - M.1.length) (xns q.2.1 - xns M.1) (F0 m pc lsS (st.map (xv P))) (rest.map (xv P)) (xQc P q av) (xA P)) : xSnd l P L xs d mi pc ls st M r := by
  have m1 := hs.1.1
  have m2 := hs.1.2.1
  have m3 := hF.1.1
  have m4 := hF.1.2.1
  refine ⟨⟨by omega, by omega, fun z => hF.1.2.2 (hs.1.2.2 z)⟩, fun p e R s m args below meth c H locs cells slots Q mcF msF lsS q' fr ev pr hP hS hz g1 g2 g3 g4 hl he => ?_⟩
  cases hq.symm.trans fr.1
  intro T0 hT X
  have hz' := x_size X hT ev hP hS hz
  suffices hW : W p l e R s m args below meth c H locs cells slots Q (F0 m pc lsS (st.map (xv P))) from hW T0 hT X
  obtain ⟨av, hr⟩ := hrun (p := p) (e := e) (R := R) (args := args) (below := below) (cells := cells) (slots := slots) fr ev pr hP hS hz' hl.1 (by omega) (by omega)
  refine x_call hr hS (fun H1 locs1 hP1 hS1 => ?_)
  have h6 := hF.2 p e R s m args below meth c H1 locs1 (cells + (q.2.1.length - M.1.length)) (slots + (xns q.2.1 - xns M.1)) Q mcF msF lsS qo fr ev (hs.1.2.2 pr) hP1 hS1 (by have := pr.1; omega) (by omega) (by omega) g3 g4 hl he
  rw [xpush_map] at h6
  exact h6
end INVOKE
