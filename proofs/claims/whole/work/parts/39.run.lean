/-! ===== every instruction; every run ===== -/
/-- the two calls on the own words' text -/
def xStrMet (l : Launch) (P : xPr) (L : Nat) (xs : Nat → Int32) : Prop := ∀ (mi d i pc : Nat) (q : xMt) (p : Program) (e : Env) (R : Room) (s : State) (m : MethodId) (args : Array Value) (below : List Frame) (meth : Method) (c : Code) (H : Heap) (locs : List Loc) (cells slots : Nat) (Q : State → Prop) (lsS : Array Slot) (rest : List Value),
  xFr mi (d + 4) p R s m meth c q → xEnv P L xs s → va_S (xA P) s.heap H locs → lsS.size = xML mi → (rest.map fun v => v.category).sum ≤ 8 → cells ≤ R.cells → slots ≤ R.slots →
  ((Jvm.Cond.methodLink q.1.cls i ⟨"java/lang/String", "length", "()I"⟩) ∈ xTS → decode q.2.1 pc = .ok (.invokevirtual i, 3) → W p l e R s m args below meth c H locs cells slots Q (F0 m (pc + 3) lsS (.int 94 :: rest)) → W p l e R s m args below meth c H locs cells slots Q (F0 m pc lsS (.ref P.1.2.2.1 :: rest))) ∧
  ((Jvm.Cond.methodLink q.1.cls i ⟨"java/lang/String", "charAt", "(I)C"⟩) ∈ xTS → decode q.2.1 pc = .ok (.invokevirtual i, 3) → ∀ k : Int32, vp_in k 94 → W p l e R s m args below meth c H locs cells slots Q (F0 m (pc + 3) lsS (.int (xchar k) :: rest)) → W p l e R s m args below meth c H locs cells slots Q (F0 m pc lsS (.int k :: .ref P.1.2.2.1 :: rest)))
section RUN
variable {l : Launch} {P : xPr} {L : Nat} {xs : Nat → Int32}
theorem xins_inv (hOK : ∀ i, i < 323 → xOKm i) (hstr : xStrMet l P L xs) {F : xSt → Option xRes} (hF : ∀ d mi pc ls st M r, F (d, mi, pc, ls, st, M) = some r → xSnd l P L xs d mi pc ls st M r) {E : xEnt} {d mi pc : Nat} {ls : xLs} {st : List Value} {M : xMem} {r : xRes} (hE : xcode mi pc = some E) (h : xins xDC xML xRT F F E d mi pc ls st M = some r) (i : Nat) (hi : E.1 = .invokevirtual i ∨ E.1 = .invokespecial i ∨ E.1 = .invokestatic i) : xSnd l P L xs d mi pc ls st M r := by
  obtain ⟨q, hq, hmok, hdec, hce⟩ := xfetch hOK hE
  obtain ⟨ins, len, a, b, hh, cst, lcst⟩ := E
  rcases hi with hi | hi | hi
  · dsimp only at hi
    subst hi
    unfold xins at h
    unfold xce at hce
    dsimp only at h hce
    match d, h with
    | 0, h => cases h
    | d' + 1, h =>
      dsimp only at h
      cases ha : Nat.beq a 1000 with
      | true =>
        rw [ha, cond_true] at h hce
        obtain ⟨a', t, rfl, h2⟩ := xpR_inv h
        obtain ⟨hb, h3⟩ := xif_inv h2
        simp only [Bool.and_eq_true] at hb
        have e1 := Nat.eq_of_beq_eq_true hb.1.1
        subst e1
        have e2 := Nat.le_of_ble_eq_true hb.1.2
        obtain ⟨d', rfl⟩ : ∃ k, d' = k + 3 := ⟨d' - 3, by have := Nat.le_of_ble_eq_true hb.2; omega⟩
        exact xSnd_goC hq (hF _ _ _ _ _ _ _ h3) (fun hc1 hc2 fr ev _ _ hS hl k2 => (hstr mi d' i pc q _ _ _ _ _ _ _ _ _ _ _ _ _ _ _ _ fr ev hS hl.1 (by rw [xsm_eq]; exact e2) hc1 hc2).1 (xwd_mem hce) hdec (k2 _ hl))
      | false =>
        rw [ha, cond_false] at h hce
        cases ha1 : Nat.beq a 1001 with
        | true =>
          rw [ha1, cond_true] at h hce
          obtain ⟨a', k, t, rfl, h2⟩ := xpRI_inv h
          obtain ⟨hb, h3⟩ := xif_inv h2
          obtain ⟨hin, h4⟩ := xif_inv h3
          simp only [Bool.and_eq_true] at hb
          have e1 := Nat.eq_of_beq_eq_true hb.1.1
          subst e1
          have e2 := Nat.le_of_ble_eq_true hb.1.2
          obtain ⟨d', rfl⟩ : ∃ k, d' = k + 3 := ⟨d' - 3, by have := Nat.le_of_ble_eq_true hb.2; omega⟩
          exact xSnd_goC hq (hF _ _ _ _ _ _ _ h4) (fun hc1 hc2 fr ev _ _ hS hl k2 => (hstr mi d' i pc q _ _ _ _ _ _ _ _ _ _ _ _ _ _ _ _ fr ev hS hl.1 (by rw [xsm_eq]; exact e2) hc1 hc2).2 (xwd_mem hce) hdec k (xin_vp hin) (k2 _ hl))
        | false =>
          rw [ha1, cond_false] at h hce
          simp only [Bool.and_eq_true] at hce
          obtain ⟨qm, hqm, hkd, hbn, hlk⟩ := xml_spec hce.1
          obtain ⟨cr, hcr, hcn⟩ := xmc_spec hqm hce.2
          obtain ⟨as, t1, g1, rfl, g3, h2⟩ := xpN_inv b [] st h
          obtain ⟨a', t, rfl, h3⟩ := xpR_inv h2
          obtain ⟨⟨s1, s2, s3⟩, hsh, h4⟩ := xsh_inv h3
          obtain ⟨hb, h5⟩ := xif_inv h4
          simp only [Bool.and_eq_true] at hb
          obtain ⟨⟨⟨⟨hb1, hb2⟩, hb3⟩, hb4⟩, hb5⟩ := hb
          obtain ⟨k, rfl⟩ := xtwo hb1
          have e1 := Nat.eq_of_beq_eq_true hb2
          have e2 := Nat.eq_of_beq_eq_true hb3
          try dsimp only at e1 e2
          subst e1 e2
          rw [List.append_nil] at h5 hb5
          obtain ⟨qr, hG, hF2⟩ := Option.bind_eq_some_iff.mp h5
          have hs := hF _ _ _ _ _ _ _ hG
          obtain ⟨qx, hqx, hmx, -⟩ := hOK a (xmt_lt hqm)
          cases hqm.symm.trans hqx
          have hk3 : qm.2.2.2.2.2.2.1 ≠ 3 := by rw [hkd]; decide
          have hok : ∀ v ∈ (Value.ref (k + 2) :: as), xok v = true := fun v hv => by
            rcases List.mem_cons.mp hv with rfl | hv
            · rfl
            · exact g3 v hv
          obtain ⟨-, -, -, -, m5, m6, m7⟩ := xmok_spec hmx
          obtain ⟨w1, w2, w3, w4, w5⟩ := xmh_spec m7 hk3
          have hlk' : (Jvm.Cond.methodLink q.1.cls i qm.1) ∈ xTS := hlk.elim id (fun z => by cases z.1)
          refine xSnd_call (vs := .ref (k + 2) :: as) hq hs (hF _ _ _ _ _ _ _ hF2) (fun {p e R s m args below meth c H locs cells slots lsS} fr ev pr hP hS hz hsz hc1 hc2 => ⟨(Value.ref (P.1.1 + k) :: as.map (xv P)).toArray, ?_⟩)
          refine va_runV (C := qm.1.cls) (n := b) (As := as.map (xv P)) (b := P.1.1 + k) (Ts := xTS) ⟨fr.2.1, fr.2.2.1, fr.2.2.2.1, fr.2.2.2.2.2.1, fun w hw => ev.2.1 w hw args⟩ (x_met hs hqm hmx hk3 hok (Nat.le_of_ble_eq_true hb5) pr) ⟨x_callB fr ev hmx hk3 hbn hlk', ev.2.1 _ (w4 hkd).1 args, ev.2.1 _ (w4 hkd).2 args⟩ ⟨xPc_blind, ?_, x_pre (vs := .ref (k + 2) :: as) ev hP hS hz⟩ rfl (by rw [List.length_map]; exact g1) hsz ?_ ?_ hdec ⟨hc1, hc2⟩
          · have hrv := va_recv ev.1 hP hcr (xws_get (P := P) hsh)
            rw [← hcn]
            exact hrv
          · show (as.reverse ++ Value.ref (k + 2) :: t).map (xv P) = (as.map (xv P)).reverse ++ Value.ref (P.1.1 + k) :: t.map (xv P)
            rw [List.map_append, List.map_reverse]
            rfl
          · show 2 * 0 + _ ≤ 8
            rw [xsm_eq]
            have := Nat.le_of_ble_eq_true hb4
            omega
  · dsimp only at hi
    subst hi
    unfold xins at h
    unfold xce at hce
    dsimp only at h hce
    match d, h with
    | 0, h => cases h
    | d' + 1, h =>
      dsimp only at h
      cases ha : Nat.beq a 1000 with
      | true =>
        rw [ha, cond_true] at h hce
        obtain ⟨a', t, rfl, h2⟩ := xpR_inv h
        obtain ⟨hb, h3⟩ := xif_inv h2
        have e2 := Nat.le_of_ble_eq_true hb
        refine xSnd_go hq (hF _ _ _ _ _ _ _ h3) (fun {p e R s m args below meth c H locs cells slots Q lsS} fr ev _ _ hS hl k2 => W.objInit fr.2.1 fr.2.2.1 fr.2.2.2.2.2.1 (ev.2.1 _ (xwd_mem hce) args) (ev.2.1 _ xwo1 args) (ev.2.1 _ xwo2 args) rfl (hl.1.trans fr.2.2.2.1.symm) rfl hdec ?_ ?_ (k2 _ hl))
        · have := fr.2.2.2.2.2.2.2.2.1; omega
        · show 2 * 0 + ((t.map (xv P)).map fun v => v.category).sum + 12 ≤ R.locals
          rw [xsm_eq]
          have := fr.2.2.2.2.2.2.2.2.2; omega
      | false =>
        rw [ha, cond_false] at h hce
        obtain ⟨qm, hqm, hkd, hbn, hlk⟩ := xml_spec hce
        obtain ⟨as, t1, g1, rfl, g3, h2⟩ := xpN_inv b [] st h
        obtain ⟨a', t, rfl, h3⟩ := xpR_inv h2
        obtain ⟨hb, h5⟩ := xif_inv h3
        simp only [Bool.and_eq_true] at hb
        obtain ⟨hb4, hb5⟩ := hb
        rw [List.append_nil] at h5 hb5
        obtain ⟨qr, hG, hF2⟩ := Option.bind_eq_some_iff.mp h5
        have hs := hF _ _ _ _ _ _ _ hG
        obtain ⟨qx, hqx, hmx, -⟩ := hOK a (xmt_lt hqm)
        cases hqm.symm.trans hqx
        have hk3 : qm.2.2.2.2.2.2.1 ≠ 3 := by rw [hkd]; decide
        have hok : ∀ v ∈ (Value.ref a' :: as), xok v = true := fun v hv => by
          rcases List.mem_cons.mp hv with rfl | hv
          · rfl
          · exact g3 v hv
        obtain ⟨-, -, m3, -, m5, m6, m7⟩ := xmok_spec hmx
        obtain ⟨w1, w2, w3, w4, w5⟩ := xmh_spec m7 hk3
        refine xSnd_call (vs := .ref a' :: as) hq hs (hF _ _ _ _ _ _ _ hF2) (fun {p e R s m args below meth c H locs cells slots lsS} fr ev pr hP hS hz hsz hc1 hc2 => ⟨(Value.ref (xad P a') :: as.map (xv P)).toArray, ?_⟩)
        have hst : (as.reverse ++ Value.ref a' :: t).map (xv P) = (as.map (xv P)).reverse ++ Value.ref (xad P a') :: t.map (xv P) := by
          rw [List.map_append, List.map_reverse]
          rfl
        have hsm : 2 * 0 + ((t.map (xv P)).map fun v => v.category).sum ≤ 8 := by
          rw [xsm_eq]
          have := Nat.le_of_ble_eq_true hb4
          omega
        have hM := x_met hs hqm hmx hk3 hok (Nat.le_of_ble_eq_true hb5) pr
        have hret : qm.2.2.2.1 = none := by
          have hz2 := xinit_none a qm hqm hkd
          exact hz2
        rcases hlk with hlk | ⟨-, hlk⟩
        · have hB := x_callB (M := M) (q := qr) (args := args) fr ev hmx hk3 hbn hlk
          unfold xMet at hM
          rw [hret] at hB hM
          exact va_runI (n := b) (As := as.map (xv P)) (b := xad P a') (Ts := xTS) ⟨fr.2.1, fr.2.2.1, fr.2.2.2.1, fr.2.2.2.2.2.1, fun w hw => ev.2.1 w hw args⟩ hM ⟨hB, (w5 hkd).2, ev.2.1 _ (w5 hkd).1 args⟩ ⟨xPc_blind, x_pre (vs := .ref a' :: as) ev hP hS hz⟩ rfl (by rw [List.length_map]; exact g1) hsz hst hsm hdec ⟨hc1, hc2⟩
        · have hB := x_callN (M := M) (q := qr) (args := args) fr ev hmx hk3 hbn hlk
          unfold xMet at hM
          rw [hret] at hB hM
          exact va_runIN (n := b) (As := as.map (xv P)) (b := xad P a') (Ts := xTS) ⟨fr.2.1, fr.2.2.1, fr.2.2.2.1, fr.2.2.2.2.2.1, fun w hw => ev.2.1 w hw args⟩ hM ⟨hB, (w5 hkd).2, ev.2.1 _ (w5 hkd).1 args⟩ ⟨xPc_blind, x_pre (vs := .ref a' :: as) ev hP hS hz⟩ rfl (by rw [List.length_map]; exact g1) hsz hst hsm hdec ⟨hc1, hc2⟩
  · dsimp only at hi
    subst hi
    unfold xins at h
    unfold xce at hce
    dsimp only at h hce
    match d, h with
    | 0, h => cases h
    | d' + 1, h =>
      dsimp only at h
      cases ha : Nat.beq a 1000 with
      | true =>
        rw [ha, cond_true] at h hce
        obtain ⟨n, qq, bb, pp, aa, t, rfl, h1⟩ := xpC_inv h
        unfold xrow at h1
        obtain ⟨⟨s1, s2, s3⟩, hsh, h2⟩ := xsh_inv h1
        obtain ⟨hb, h3⟩ := xif_inv h2
        obtain ⟨⟨u1, u2, u3⟩, hsu, h4⟩ := xsh_inv h3
        obtain ⟨hbu, h5⟩ := xif_inv h4
        obtain ⟨hcs, h6⟩ := xif_inv h5
        simp only [Bool.and_eq_true, Bool.not_eq_true', xlt, decide_eq_false_iff_not] at hcs
        obtain ⟨⟨⟨⟨⟨⟨⟨c1, c2⟩, c3⟩, c4⟩, c5⟩, c6⟩, c7⟩, c8⟩ := hcs
        obtain ⟨k1, rfl⟩ := xtwo c1
        obtain ⟨k2, rfl⟩ := xtwo c2
        have e1 := Nat.eq_of_beq_eq_true hb
        have e2 := Nat.eq_of_beq_eq_true hbu
        try dsimp only at e1 e2
        subst e1 e2
        have c6 := Nat.le_of_ble_eq_true c6
        have c7 := Nat.le_of_ble_eq_true c7
        have c8 := Nat.le_of_ble_eq_true c8
        refine xSnd_mem hq (hF _ _ _ _ _ _ _ h6) rfl rfl (fun z => xpre_put (M := M) (M' := (M.1, xcpI M.2.1 (k1 + 2) (xIx pp) (k2 + 2) (xIx qq) (xIx n), M.2.2)) rfl rfl (by funext j; simp only [xcpI, xbq_ne (show 0 ≠ k2 + 2 by omega), cond_false]) z) (fun {p e R s m args below meth c H locs cells slots Q lsS} fr ev _ hP hS hl kk => va_copyi fr.2.1 fr.2.2.1 (fr.2.2.2.1.trans hl.1.symm) fr.2.2.2.2.2.1 (ev.2.1 _ (xwd_mem hce) args) (ev.2.1 _ xwa1 args) (ev.2.1 _ xwa2 args) (ev.2.1 _ xwa3 args) ev.1 hP xws_D hS k1 k2 0 0 (ty := .int) (xws_get (P := P) hsh) (xws_get (P := P) hsu) rfl rfl rfl c3 c4 c5 c6 c7 (fun _ _ => rfl) ?_ ?_ hdec (fun H1 locs1 g1 _ g3 => kk H1 locs1 ?_ g3))
        · have := fr.2.2.2.2.2.2.2.2.1; omega
        · rw [xsm_eq]
          have := fr.2.2.2.2.2.2.2.2.2
          have : nativeFrameWords "java/lang/System" "arraycopy" 5 ≤ 40 := by decide +kernel
          omega
        · rw [xws_cpI hsu]
          show va_P P.2.1 xCL ((xws P M).set k2 (P.1.1 + k2, .inl (P.2.2.1, u2, .inl (xcpI M.2.1 (k1 + 2) (xIx pp) (k2 + 2) (xIx qq) (xIx n) (k2 + 2))))) H1
          have e3 : xcpI M.2.1 (k1 + 2) (xIx pp) (k2 + 2) (xIx qq) (xIx n) (k2 + 2) = va_cpy (M.2.1 (k1 + 2)) (M.2.1 (k2 + 2)) (xIx pp) (xIx qq) (xIx n) := by
            funext j
            simp only [xcpI, xbq_eq, cond_true]
          rw [e3]
          exact g1
      | false =>
        rw [ha, cond_false] at h hce
        obtain ⟨qm, hqm, hkd, hbn, hlk⟩ := xml_spec hce
        obtain ⟨as, t, g1, rfl, g3, h2⟩ := xpN_inv b [] st h
        obtain ⟨hb, h5⟩ := xif_inv h2
        simp only [Bool.and_eq_true] at hb
        obtain ⟨hb4, hb5⟩ := hb
        rw [List.append_nil] at h5 hb5
        obtain ⟨qr, hG, hF2⟩ := Option.bind_eq_some_iff.mp h5
        have hs := hF _ _ _ _ _ _ _ hG
        obtain ⟨qx, hqx, hmx, -⟩ := hOK a (xmt_lt hqm)
        cases hqm.symm.trans hqx
        have hk3 : qm.2.2.2.2.2.2.1 ≠ 3 := by rw [hkd]; decide
        obtain ⟨-, -, m3, -, m5, m6, m7⟩ := xmok_spec hmx
        obtain ⟨w1, w2, w3, w4, w5⟩ := xmh_spec m7 hk3
        have hlk' : (Jvm.Cond.methodLink q.1.cls i qm.1) ∈ xTS := hlk.elim id (fun z => by cases z.1)
        refine xSnd_call (vs := as) hq hs (hF _ _ _ _ _ _ _ hF2) (fun {p e R s m args below meth c H locs cells slots lsS} fr ev pr hP hS hz hsz hc1 hc2 => ⟨(as.map (xv P)).toArray, ?_⟩)
        refine va_runS (n := b) (As := as.map (xv P)) (Ts := xTS) ⟨fr.2.1, fr.2.2.1, fr.2.2.2.1, fr.2.2.2.2.2.1, fun w hw => ev.2.1 w hw args⟩ (x_met hs hqm hmx hk3 g3 (Nat.le_of_ble_eq_true hb5) pr) ⟨x_callB fr ev hmx hk3 hbn hlk', ev.2.1 _ (w3 hkd) args⟩ ⟨xPc_blind, x_pre (vs := as) ev hP hS hz⟩ rfl (by rw [List.length_map]; exact g1) hsz ?_ ?_ hdec ⟨hc1, hc2⟩
        · show (as.reverse ++ t).map (xv P) = (as.map (xv P)).reverse ++ t.map (xv P)
          rw [List.map_append, List.map_reverse]
        · show 2 * 0 + _ ≤ 8
          rw [xsm_eq]
          have := Nat.le_of_ble_eq_true hb4
          omega
theorem xkill_get : ∀ (ks : List Nat) (ls : xLs) (i : Nat) (v : Value), (xkill ks ls)[i]? = some (some v) → ls[i]? = some (some v) := by
  intro ks
  induction ks with
  | nil => intro ls i v h; exact h
  | cons k ks ih =>
    intro ls i v h
    have h1 := ih (ls.set k none) i v h
    rw [List.getElem?_set] at h1
    split at h1
    · split at h1 <;> cases h1
    · exact h1
theorem xSnd_kill {d mi pc : Nat} {ls : xLs} {st : List Value} {M : xMem} {r : xRes} (ks : List Nat) (h : xSnd l P L xs d mi pc (xkill ks ls) st M r) : xSnd l P L xs d mi pc ls st M r :=
  ⟨h.1, fun p e R s m args below meth c H locs cells slots Q mcF msF lsS q fr ev pr hP hS hz h1 h2 h3 h4 hl he => h.2 p e R s m args below meth c H locs cells slots Q mcF msF lsS q fr ev pr hP hS hz h1 h2 h3 h4 ⟨hl.1, hl.2.1, fun i v hv => hl.2.2 i v (xkill_get ks ls i v hv)⟩ he⟩
/-- EVERY RUN of the evaluator is one of the machine -/
theorem xrun_snd (hOK : ∀ i, i < 323 → xOKm i) (hstr : xStrMet l P L xs) : ∀ (n d mi pc : Nat) (ls : xLs) (st : List Value) (M : xMem) (r : xRes), xrun xDC xML xRT xcode n (d, mi, pc, ls, st, M) = some r → xSnd l P L xs d mi pc ls st M r := by
  intro n
  induction n with
  | zero => intro d mi pc ls st M r h; cases h
  | succ n ih =>
    intro d mi pc ls st M r h
    unfold xrun at h
    cases hE : xcode mi pc with
    | none => rw [hE] at h; cases h
    | some E =>
      rw [hE] at h
      dsimp only at h
      refine xSnd_kill (xkl mi pc) ?_
      refine xins_go hOK ih hE h (fun ho => ?_)
      cases hi : E.1 <;> rw [hi] at ho <;> first
        | exact ho.elim
        | exact xins_fld hOK ih hE h _ (Or.inl hi)
        | exact xins_fld hOK ih hE h _ (Or.inr hi)
        | exact xins_new hOK ih hE h _ hi
        | exact xins_newa hOK ih hE h _ hi
        | exact xins_ald hOK ih hE h (Or.inl hi)
        | exact xins_ald hOK ih hE h (Or.inr (Or.inl hi))
        | exact xins_ald hOK ih hE h (Or.inr (Or.inr (Or.inl hi)))
        | exact xins_ald hOK ih hE h (Or.inr (Or.inr (Or.inr (Or.inl hi))))
        | exact xins_ald hOK ih hE h (Or.inr (Or.inr (Or.inr (Or.inr hi))))
        | exact xins_ast hOK ih hE h (Or.inl hi)
        | exact xins_ast hOK ih hE h (Or.inr (Or.inl hi))
        | exact xins_ast hOK ih hE h (Or.inr (Or.inr (Or.inl hi)))
        | exact xins_ast hOK ih hE h (Or.inr (Or.inr (Or.inr hi)))
        | exact xins_ret hOK hE h (Or.inl hi)
        | exact xins_ret hOK hE h (Or.inr (Or.inl hi))
        | exact xins_ret hOK hE h (Or.inr (Or.inr (Or.inl hi)))
        | exact xins_ret hOK hE h (Or.inr (Or.inr (Or.inr hi)))
        | exact xins_inv hOK hstr ih hE h _ (Or.inl hi)
        | exact xins_inv hOK hstr ih hE h _ (Or.inr (Or.inl hi))
        | exact xins_inv hOK hstr ih hE h _ (Or.inr (Or.inr hi))
end RUN
