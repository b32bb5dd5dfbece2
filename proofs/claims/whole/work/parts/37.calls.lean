/-! ===== returns, new cells, calls ===== -/
section RET
variable {l : Launch} {P : xPr} {L : Nat} {xs : Nat → Int32}
theorem xins_ret (hOK : ∀ i, i < 323 → xOKm i) {F : xSt → Option xRes} {E : xEnt} {d mi pc : Nat} {ls : xLs} {st : List Value} {M : xMem} {r : xRes} (hE : xcode mi pc = some E) (h : xins xDC xML xRT F F E d mi pc ls st M = some r) (hi : E.1 = .ireturn ∨ E.1 = .lreturn ∨ E.1 = .areturn ∨ E.1 = .return_) : xSnd l P L xs d mi pc ls st M r := by
  obtain ⟨q, hq, hmok, hdec, hce⟩ := xfetch hOK hE
  obtain ⟨ins, len, a, b, hh, cst, lcst⟩ := E
  have g : r.2 = M ∧ st = r.1.toList ∧ ∃ i, ins = i ∧ xln (ins, len, a, b, hh, cst, lcst) = 1 ∧ xisr i r.1 (xRT mi) := by
    rcases hi with hi | hi | hi | hi
    · dsimp only at hi
      subst hi
      unfold xins at h
      dsimp only at h
      split at h
      · rename_i x
        cases hb : Nat.beq (xRT mi) 1 with
        | true =>
          rw [hb, cond_true] at h
          cases h
          exact ⟨rfl, rfl, _, rfl, rfl, rfl, Or.inl (Nat.eq_of_beq_eq_true hb)⟩
        | false =>
          rw [hb, cond_false] at h
          obtain ⟨h1, h2⟩ := xif_inv h
          cases h2
          simp only [Bool.and_eq_true, Bool.or_eq_true, xeq, decide_eq_true_eq] at h1
          exact ⟨rfl, rfl, _, rfl, rfl, rfl, Or.inr ⟨Nat.eq_of_beq_eq_true h1.1, h1.2⟩⟩
      · cases h
    · dsimp only at hi
      subst hi
      unfold xins at h
      dsimp only at h
      split at h
      · obtain ⟨h1, h2⟩ := xif_inv h
        cases h2
        exact ⟨rfl, rfl, _, rfl, rfl, rfl, Nat.eq_of_beq_eq_true h1⟩
      · cases h
    · dsimp only at hi
      subst hi
      unfold xins at h
      dsimp only at h
      split at h
      · obtain ⟨h1, h2⟩ := xif_inv h
        cases h2
        exact ⟨rfl, rfl, _, rfl, rfl, rfl, Nat.eq_of_beq_eq_true h1⟩
      · cases h
    · dsimp only at hi
      subst hi
      unfold xins at h
      dsimp only at h
      split at h
      · obtain ⟨h1, h2⟩ := xif_inv h
        cases h2
        exact ⟨rfl, rfl, _, rfl, rfl, rfl, Nat.eq_of_beq_eq_true h1⟩
      · cases h
  obtain ⟨g1, g2, i, rfl, g4, g5⟩ := g
  subst g2
  refine ⟨by rw [g1]; exact ⟨Nat.le_refl _, Nat.le_refl _, id⟩, fun p e R s m args below meth c H locs cells slots Q mcF msF lsS q' fr ev pr hP hS hz h1 h2 h3 h4 hl he => ?_⟩
  cases hq.symm.trans fr.1
  rw [g1] at h1 h2
  have e1 : cells = mcF := by omega
  have e2 : slots = msF := by omega
  subst e1 e2
  have h5 := he H locs pc lsS ins (by rw [hdec, g4]) g5 (by rw [g1]; exact hP) hS
  have e3 : (r.1.toList).map (xv P) = (r.1.map (xv P)).toList := by cases r.1 <;> rfl
  rw [e3]
  exact h5
theorem xad_len {P : xPr} {n : Nat} (h : 2 ≤ n) : xad P n = P.1.1 + (n - 2) := by
  obtain ⟨k, rfl⟩ : ∃ k, n = k + 2 := ⟨n - 2, by omega⟩
  rfl
theorem xpre_new {M : xMem} {h : xSh} (hp : xpre L xs M) : xpre L xs (xnew M h) := by
  obtain ⟨h1, h2, h3⟩ := hp
  refine ⟨by simp only [xnew, List.length_append]; omega, ?_, ?_⟩
  · obtain ⟨h', g1, g2⟩ := h2
    exact ⟨h', by simp only [xnew]; rw [List.getElem?_append_left (by omega)]; exact g1, g2⟩
  · exact (xzI_ne (I := M.2.1) (show 0 ≠ M.1.length by omega)).trans h3
theorem xdef_val {I : Nat → Nat → Int32} {J : Nat → Nat → Int64} {a k c : Nat} {t : FieldType} (h : xdef t c = true) : defaultValue t = xv P (xfv (xzI I a) (xzJ J a) a k c) := by
  cases t <;> first
    | (have e := Nat.eq_of_beq_eq_true (show Nat.beq c 0 = true from h); subst e; simp only [xfv, xzI, xbq_eq, cond_true, xv]; rfl)
    | (have e := Nat.eq_of_beq_eq_true (show Nat.beq c 1 = true from h); subst e; simp only [xfv, xzJ, xbq_eq, cond_true, xv]; rfl)
    | (have e := Nat.eq_of_beq_eq_true (show Nat.beq c 2 = true from h); subst e; rfl)
    | (cases h; done)
theorem xins_new (hOK : ∀ i, i < 323 → xOKm i) {F : xSt → Option xRes} (hF : ∀ d mi pc ls st M r, F (d, mi, pc, ls, st, M) = some r → xSnd l P L xs d mi pc ls st M r) {E : xEnt} {d mi pc : Nat} {ls : xLs} {st : List Value} {M : xMem} {r : xRes} (hE : xcode mi pc = some E) (h : xins xDC xML xRT F F E d mi pc ls st M = some r) (i : Nat) (hi : E.1 = .new i) : xSnd l P L xs d mi pc ls st M r := by
  obtain ⟨q, hq, hmok, hdec, hce⟩ := xfetch hOK hE
  obtain ⟨ins, len, a, b, hh, cst, lcst⟩ := E
  dsimp only at hi
  subst hi
  have hs := hF _ _ _ _ _ _ _ h
  obtain ⟨⟨C, T, N⟩, hc, w1, w2, w3⟩ := xcl_spec (show xcl q.1.cls i a hh b len = true from hce)
  obtain ⟨ty, ⟨h1, hdf, h3, hin, hlen⟩, -⟩ := xCL_ok a _ hc
  have z1 : (xnew M (0, a, xDC a)).1.length = M.1.length + 1 := by simp [xnew]
  have z2 : xns (xnew M (0, a, xDC a)).1 = xns M.1 + N := by
    show xns (M.1 ++ [(0, a, xDC a)]) = _
    rw [xns_app]
    show xns M.1 + (xDC a).length = _
    rw [hlen]
  have m1 := hs.1.1
  have m2 := hs.1.2.1
  rw [z1] at m1
  rw [z2] at m2
  refine ⟨⟨by omega, by omega, fun z => hs.1.2.2 (xpre_new z)⟩, fun p e R s m args below meth c H locs cells slots Q mcF msF lsS q' fr ev pr hP hS hz g1 g2 g3 g4 hl he => ?_⟩
  cases hq.symm.trans fr.1
  intro T0 hT X
  have hz' := x_size X hT ev hP hS hz
  have hKn := ev.1.1 a _ hc
  suffices hW : W p l e R s m args below meth c H locs cells slots Q (F0 m pc lsS (st.map (xv P))) from hW T0 hT X
  refine W.newcK (C := C) (n := N) fr.2.1 fr.2.2.1 fr.2.2.2.2.2.1 (ev.2.1 _ w1 args) (ev.2.1 _ w2 args) (ev.2.1 _ w3 args) rfl hdec (by omega) (by omega) hKn.2.1 hz' (fun H1 kC hkC e1 z3 o1 => ?_)
  have hk : ∀ (k : Nat) (x : Nat × va_E), (xws P M)[k]? = some x → H1[x.1]? = H[x.1]? := fun k x hx => o1 x.1 (by have := (hP k x hx).lt; omega)
  have hP1 : va_P P.2.1 xCL (xws P (xnew M (0, a, xDC a))) H1 := by
    rw [xws_new pr.1]
    refine (hP.kept hk).app (fun k x hx => ?_)
    have hz1 : k < 1 := (List.getElem?_eq_some_iff.mp hx).1
    rw [show k = 0 by omega] at hx
    cases hx
    refine ⟨_, hc, (u_born ty (fun w hw => ev.2.1 w hw args) hin hKn hkC e1 h1).to (fun j hj => ?_)⟩
    have hj' : j < (xDC a).length := by rw [hlen]; exact hj
    have hd := hdf j hj
    rw [List.getD_eq_getElem?_getD, List.getElem?_eq_getElem hj', Option.getD_some] at hd
    show defaultValue (ty j) = vp_V _ j
    rw [xdef_val (P := P) (I := M.2.1) (J := M.2.2) (a := M.1.length) (k := j) hd]
    simp only [vp_V, List.getD_eq_getElem?_getD, List.getElem?_mapIdx, List.getElem?_eq_getElem hj', Option.map_some, Option.getD_some]
  have h6 := hs.2 p e R s m args below meth c H1 locs (cells + 1) (slots + N) Q mcF msF lsS q fr ev (xpre_new pr) hP1
    ⟨Nat.le_trans hS.1 (by omega), fun x y1 y2 => (o1 x (by have := hS.1; omega)).trans (hS.2.1 x y1 y2), hS.2.2⟩ (by rw [z1]; have := pr.1; omega) (by rw [z1]; omega) (by rw [z2]; omega) g3 g4 hl he
  simp only [List.map_cons, xv, xad_len (P := P) pr.1] at h6
  exact h6
theorem xins_newa (hOK : ∀ i, i < 323 → xOKm i) {F : xSt → Option xRes} (hF : ∀ d mi pc ls st M r, F (d, mi, pc, ls, st, M) = some r → xSnd l P L xs d mi pc ls st M r) {E : xEnt} {d mi pc : Nat} {ls : xLs} {st : List Value} {M : xMem} {r : xRes} (hE : xcode mi pc = some E) (h : xins xDC xML xRT F F E d mi pc ls st M = some r) (t : ArrayType) (hi : E.1 = .newarray t) : xSnd l P L xs d mi pc ls st M r := by
  obtain ⟨q, hq, hmok, hdec, hce⟩ := xfetch hOK hE
  obtain ⟨ins, len, a, b, hh, cst, lcst⟩ := E
  dsimp only at hi
  subst hi
  obtain ⟨x, tl, rfl, h2⟩ := xpI_inv h
  obtain ⟨hb, h3⟩ := xif_inv h2
  simp only [Bool.and_eq_true, Bool.not_eq_true', xlt, decide_eq_false_iff_not] at hb
  obtain ⟨⟨hb1, hb2⟩, hb3⟩ := hb
  have hb2 := Nat.le_of_ble_eq_true hb2
  have hs := hF _ _ _ _ _ _ _ h3
  have hw : (Jvm.Cond.arrayClass (newarray.typeOf t)) ∈ xTS := xwd_mem hce
  have z1 : (xnew M (xkd t, xIx x, [])).1.length = M.1.length + 1 := by simp [xnew]
  have z2 : xns (xnew M (xkd t, xIx x, [])).1 = xns M.1 + xIx x := by
    show xns (M.1 ++ [(xkd t, xIx x, [])]) = _
    rw [xns_app]
    congr 1
    cases t <;> first | rfl | (cases hb3; done)
  have m1 := hs.1.1
  have m2 := hs.1.2.1
  rw [z1] at m1
  rw [z2] at m2
  refine ⟨⟨by omega, by omega, fun z => hs.1.2.2 (xpre_new z)⟩, fun p e R s m args below meth c H locs cells slots Q mcF msF lsS q' fr ev pr hP hS hz g1 g2 g3 g4 hl he => ?_⟩
  cases hq.symm.trans fr.1
  intro T0 hT X
  have hz' := x_size X hT ev hP hS hz
  suffices hW : W p l e R s m args below meth c H locs cells slots Q (F0 m pc lsS (.int x :: tl.map (xv P))) from hW T0 hT X
  refine va_newaK fr.2.1 fr.2.2.1 (ev.2.1 _ hw args) rfl hdec rfl hb1 rfl (by
      have : componentBytes (newarray.typeOf t) ≤ 8 := by cases t <;> decide
      calc xIx x * componentBytes (newarray.typeOf t) ≤ xIx x * 8 := Nat.mul_le_mul_left _ this
        _ ≤ 536870912 := by omega) (by omega) (by show slots + xIx x ≤ _; omega) hz' (fun H1 cA e1 z3 o1 hAr hNm => ?_)
  have hk : ∀ (k : Nat) (y : Nat × va_E), (xws P M)[k]? = some y → H1[y.1]? = H[y.1]? := fun k y hy => o1 y.1 (by have := (hP k y hy).lt; omega)
  have zI : xzI M.2.1 M.1.length M.1.length = fun _ => 0 := by funext j; simp only [xzI, xbq_eq, cond_true]
  have zJ : xzJ M.2.2 M.1.length M.1.length = fun _ => 0 := by funext j; simp only [xzJ, xbq_eq, cond_true]
  have hcell : va_at P.2.1 xCL (P.1.1 + (M.1.length - 2), xcell P (xzI M.2.1 M.1.length) (xzJ M.2.2 M.1.length) M.1.length (xkd t, xIx x, [])) H1 := by
    have hr := fun k y hy => (ev.1.2 k y hy).2
    cases t
    case int =>
      have e : P.2.2.1 = cA := Option.some.inj ((hr 0 _ rfl : s.vm.findClass _ = some _).symm.trans hNm)
      show H1[_]? = some (vp_cell P.2.2.1 (xIx x, .inl (xzI M.2.1 M.1.length M.1.length)))
      rw [e, zI]
      exact e1
    case long =>
      have e : P.2.2.2.1 = cA := Option.some.inj ((hr 1 _ rfl : s.vm.findClass _ = some _).symm.trans hNm)
      show H1[_]? = some (vp_cell P.2.2.2.1 (xIx x, .inr (.inl (xzJ M.2.2 M.1.length M.1.length))))
      rw [e, zJ]
      exact e1
    case char =>
      have e : P.2.2.2.2.1 = cA := Option.some.inj ((hr 2 _ rfl : s.vm.findClass _ = some _).symm.trans hNm)
      show H1[_]? = some (vp_cell P.2.2.2.2.1 (xIx x, .inl (xzI M.2.1 M.1.length M.1.length)))
      rw [e, zI]
      exact e1
    case boolean =>
      have e : P.2.2.2.2.2 = cA := Option.some.inj ((hr 3 _ rfl : s.vm.findClass _ = some _).symm.trans hNm)
      show H1[_]? = some (vp_cell P.2.2.2.2.2 (xIx x, .inl (xzI M.2.1 M.1.length M.1.length)))
      rw [e, zI]
      exact e1
    all_goals (cases hb3)
  have hP1 : va_P P.2.1 xCL (xws P (xnew M (xkd t, xIx x, []))) H1 := by
    rw [xws_new pr.1]
    refine (hP.kept hk).app (fun k y hy => ?_)
    have hz1 : k < 1 := (List.getElem?_eq_some_iff.mp hy).1
    rw [show k = 0 by omega] at hy
    cases hy
    exact hcell
  have h6 := hs.2 p e R s m args below meth c H1 locs (cells + 1) (slots + xIx x) Q mcF msF lsS q fr ev (xpre_new pr) hP1
    ⟨Nat.le_trans hS.1 (by omega), fun x y1 y2 => (o1 x (by have := hS.1; omega)).trans (hS.2.1 x y1 y2), hS.2.2⟩ (by rw [z1]; have := pr.1; omega) (by rw [z1]; omega) (by rw [z2]; omega) g3 g4 hl he
  simp only [List.map_cons, xv, xad_len (P := P) pr.1] at h6
  exact h6
end RET
