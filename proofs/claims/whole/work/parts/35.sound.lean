/-! ===== an instruction of the evaluator is one of the machine ===== -/
theorem xfetch (hOK : ∀ i, i < 323 → xOKm i) {mi pc : Nat} {E : xEnt} (h : xcode mi pc = some E) : ∃ q : xMt, xMTL[mi]? = some q ∧ xmok mi q = true ∧ decode q.2.1 pc = .ok (E.1, xln E) ∧ xce q.1.cls (Nat.beq q.2.2.2.2.2.2.1 2) mi pc E = true := by
  unfold xcode at h
  cases h1 : Nat.ble pc 1999 with
  | false => rw [h1] at h; cases h
  | true =>
    cases h2 : Nat.ble mi 322 with
    | false => rw [h1, h2] at h; cases h
    | true =>
      rw [h1, h2, cond_true, cond_true] at h
      obtain ⟨q, hq, hk, hg⟩ := hOK mi (Nat.lt_succ_of_le (Nat.le_of_ble_eq_true h2))
      have h3 := hg pc E (Nat.lt_succ_of_le (Nat.le_of_ble_eq_true h1)) h
      simp only [xch, Bool.and_eq_true, decide_eq_true_eq] at h3
      exact ⟨q, hq, hk, h3.1, h3.2⟩
theorem xsw_tab {F : Nat → Option xRes} {x : Int32} {dd pc : Nat} {r : xRes} : ∀ (os : List Int) (lo : Int), -2147483648 ≤ lo → lo + (os.length : Int) ≤ 2147483648 → xsw F x dd (xtabs pc lo os) = some r →
    (∃ (i : Nat) (o : Int), os[i]? = some o ∧ x.toInt = lo + i ∧ F ((pc : Int) + o).toNat = some r) ∨ ((x.toInt < lo ∨ lo + (os.length : Int) ≤ x.toInt) ∧ F dd = some r) := by
  intro os
  induction os with
  | nil =>
    intro lo _ _ h
    refine Or.inr ⟨?_, h⟩
    simp only [List.length_nil]
    omega
  | cons o os ih =>
    intro lo h1 h2 h
    simp only [List.length_cons, Int.natCast_add, Int.natCast_one] at h2
    simp only [xtabs, xsw] at h
    have hlo : (Int32.ofInt lo).toInt = lo := Int32.toInt_ofInt_of_le (by simpa using h1) (by simp; omega)
    cases hx : xeq x (Int32.ofInt lo) with
    | true =>
      rw [hx, cond_true] at h
      have e : x = Int32.ofInt lo := by simpa [xeq] using hx
      refine Or.inl ⟨0, o, rfl, ?_, h⟩
      rw [e, hlo]
      simp
    | false =>
      rw [hx, cond_false] at h
      have ne : x.toInt ≠ lo := by
        intro q
        have : x = Int32.ofInt lo := Int32.toInt.inj (by rw [hlo]; exact q)
        simp [xeq, this] at hx
      rcases ih (lo + 1) (by omega) (by omega) h with ⟨i, o', g1, g2, g3⟩ | ⟨g1, g2⟩
      · exact Or.inl ⟨i + 1, o', by simpa using g1, by rw [g2]; simp; omega, g3⟩
      · refine Or.inr ⟨?_, g2⟩
        simp only [List.length_cons, Int.natCast_add, Int.natCast_one]
        omega
theorem xsw_look {F : Nat → Option xRes} {x : Int32} {dd pc : Nat} {dflt : Int} (hd : (pc : Int) + dflt = (dd : Int)) {r : xRes} : ∀ (os : List (Int × Int)), os.all (fun o => decide (0 ≤ (pc : Int) + o.2) && decide (-2147483648 ≤ o.1) && decide (o.1 < 2147483648)) = true → xsw F x dd (xlook pc os) = some r →
    ∃ t : Nat, (pc : Int) + Op.lookupswitch.offset os dflt x.toInt = (t : Int) ∧ F t = some r := by
  intro os
  induction os with
  | nil => intro _ h; exact ⟨dd, hd, h⟩
  | cons o os ih =>
    intro ha h
    simp only [List.all_cons, Bool.and_eq_true, decide_eq_true_eq] at ha
    obtain ⟨⟨⟨h0, h1⟩, h2⟩, ha⟩ := ha
    simp only [xlook, xsw] at h
    have hlo : (Int32.ofInt o.1).toInt = o.1 := Int32.toInt_ofInt_of_le (by simpa using h1) (by simpa using h2)
    obtain ⟨oa, oo⟩ := o
    rw [Op.lookupswitch.offset_cons]
    cases hx : xeq x (Int32.ofInt oa) with
    | true =>
      rw [hx, cond_true] at h
      have e : x = Int32.ofInt oa := by simpa [xeq] using hx
      rw [if_pos (by rw [e]; exact hlo.symm)]
      exact ⟨_, by rw [Int.toNat_of_nonneg h0], h⟩
    | false =>
      rw [hx, cond_false] at h
      have ne : ¬ oa = x.toInt := by
        intro q
        have : x = Int32.ofInt oa := Int32.toInt.inj (by rw [hlo]; exact q.symm)
        simp [xeq, this] at hx
      rw [if_neg ne]
      exact ih (by simpa using ha) h
section MAIN
variable {l : Launch} {P : xPr} {L : Nat} {xs : Nat → Int32}
/-- the instructions that leave the memory and call nothing -/
theorem xins_go (hOK : ∀ i, i < 323 → xOKm i) {F : xSt → Option xRes} (hF : ∀ d mi pc ls st M r, F (d, mi, pc, ls, st, M) = some r → xSnd l P L xs d mi pc ls st M r) {E : xEnt} {d mi pc : Nat} {ls : xLs} {st : List Value} {M : xMem} {r : xRes} (hE : xcode mi pc = some E) (h : xins xDC xML xRT F F E d mi pc ls st M = some r)
    (hother : (match E.1 with
      | .getfield _ => True
      | .putfield _ => True
      | .new _ => True
      | .newarray _ => True
      | .arraylength => True
      | .iaload => True
      | .laload => True
      | .caload => True
      | .baload => True
      | .iastore => True
      | .lastore => True
      | .castore => True
      | .bastore => True
      | .ireturn => True
      | .lreturn => True
      | .areturn => True
      | .return_ => True
      | .invokevirtual _ => True
      | .invokespecial _ => True
      | .invokestatic _ => True
      | _ => False) → xSnd l P L xs d mi pc ls st M r) : xSnd l P L xs d mi pc ls st M r := by
  obtain ⟨q, hq, hmok, hdec, hce⟩ := xfetch hOK hE
  obtain ⟨ins, len, a, b, hh, cst, lcst⟩ := E
  cases ins
  case getfield => exact hother trivial
  case putfield => exact hother trivial
  case new => exact hother trivial
  case newarray => exact hother trivial
  case arraylength => exact hother trivial
  case iaload => exact hother trivial
  case laload => exact hother trivial
  case caload => exact hother trivial
  case baload => exact hother trivial
  case iastore => exact hother trivial
  case lastore => exact hother trivial
  case castore => exact hother trivial
  case bastore => exact hother trivial
  case ireturn => exact hother trivial
  case lreturn => exact hother trivial
  case areturn => exact hother trivial
  case return_ => exact hother trivial
  case invokevirtual => exact hother trivial
  case invokespecial => exact hother trivial
  case invokestatic => exact hother trivial
  case iconst n =>
    exact xSnd_go hq (hF _ _ _ _ _ _ _ h) (fun fr _ _ _ _ hl k => lv_iconst fr.2.1 fr.2.2.1 hdec (of_decide_eq_true hce) (k _ hl))
  case bipush n =>
    exact xSnd_go hq (hF _ _ _ _ _ _ _ h) (fun fr _ _ _ _ hl k => lv_bipush fr.2.1 fr.2.2.1 hdec (of_decide_eq_true hce) (k _ hl))
  case sipush n =>
    exact xSnd_go hq (hF _ _ _ _ _ _ _ h) (fun fr _ _ _ _ hl k => lv_sipush fr.2.1 fr.2.2.1 hdec (of_decide_eq_true hce) (k _ hl))
  case ldc i =>
    unfold xins at h
    unfold xce at hce
    dsimp only at h hce
    cases ha : Nat.beq a 0 with
    | true =>
      rw [ha, cond_true] at h hce
      exact xSnd_go hq (hF _ _ _ _ _ _ _ h) (fun fr ev _ _ _ hl k => lv_ldc fr.2.1 fr.2.2.1 fr.2.2.2.2.2.1 (ev.2.1 _ (xwd_mem hce) _) hdec (k _ hl))
    | false =>
      rw [ha, cond_false] at h hce
      simp only [Bool.and_eq_true, decide_eq_true_eq] at hce
      obtain ⟨ho, hi⟩ := hce
      have hi := Nat.eq_of_beq_eq_true hi
      subst hi
      exact xSnd_go hq (hF _ _ _ _ _ _ _ h) (fun fr ev _ _ _ hl k => va_ldcS fr.2.1 fr.2.2.1 (own := "WetInk$Parser") (by rw [← ho]; exact fr.2.2.2.2.2.1) ev.2.2.2.1.2.1 hdec (k _ hl))
  case ldc_w i =>
    exact xSnd_go hq (hF _ _ _ _ _ _ _ h) (fun fr ev _ _ _ hl k => lv_ldcw fr.2.1 fr.2.2.1 fr.2.2.2.2.2.1 (ev.2.1 _ (xwd_mem hce) _) hdec (k _ hl))
  case lconst n =>
    exact xSnd_go hq (hF _ _ _ _ _ _ _ h) (fun fr _ _ _ _ hl k => lv_lconst fr.2.1 fr.2.2.1 hdec (of_decide_eq_true hce) (k _ hl))
  case ldc2_w i =>
    exact xSnd_go hq (hF _ _ _ _ _ _ _ h) (fun fr ev _ _ _ hl k => lv_ldc2 fr.2.1 fr.2.2.1 fr.2.2.2.2.2.1 (ev.2.1 _ (xwd_mem hce) _) hdec (k _ hl))
  case iload_n k0 =>
    obtain ⟨v, hv, h⟩ := xlv_inv h
    cases v with
    | int x => exact xSnd_go hq (hF _ _ _ _ _ _ _ h) (fun fr _ _ _ _ hl k => lv_iload_n fr.2.1 fr.2.2.1 hdec (Nat.eq_of_beq_eq_true hce) (hl.2.2 _ _ hv) (k _ hl))
    | _ => cases h
  case iload k0 =>
    obtain ⟨v, hv, h⟩ := xlv_inv h
    have hk := Nat.eq_of_beq_eq_true hce
    subst hk
    cases v with
    | int x => exact xSnd_go hq (hF _ _ _ _ _ _ _ h) (fun fr _ _ _ _ hl k => lv_iload fr.2.1 fr.2.2.1 hdec (hl.2.2 _ _ hv) (k _ hl))
    | _ => cases h
  case lload_n k0 =>
    obtain ⟨v, hv, h⟩ := xlv_inv h
    cases v with
    | long x => exact xSnd_go hq (hF _ _ _ _ _ _ _ h) (fun fr _ _ _ _ hl k => lv_lload_n fr.2.1 fr.2.2.1 hdec (Nat.eq_of_beq_eq_true hce) (hl.2.2 _ _ hv) (k _ hl))
    | _ => cases h
  case lload k0 =>
    obtain ⟨v, hv, h⟩ := xlv_inv h
    have hk := Nat.eq_of_beq_eq_true hce
    subst hk
    cases v with
    | long x => exact xSnd_go hq (hF _ _ _ _ _ _ _ h) (fun fr _ _ _ _ hl k => lv_lload fr.2.1 fr.2.2.1 hdec (hl.2.2 _ _ hv) (k _ hl))
    | _ => cases h
  case aload_n k0 =>
    obtain ⟨v, hv, h⟩ := xlv_inv h
    cases v with
    | ref x => exact xSnd_go hq (hF _ _ _ _ _ _ _ h) (fun fr _ _ _ _ hl k => lv_aload_n fr.2.1 fr.2.2.1 hdec (Nat.eq_of_beq_eq_true hce) (hl.2.2 _ _ hv) (k _ hl))
    | _ => cases h
  case aload k0 =>
    obtain ⟨v, hv, h⟩ := xlv_inv h
    have hk := Nat.eq_of_beq_eq_true hce
    subst hk
    cases v with
    | ref x => exact xSnd_go hq (hF _ _ _ _ _ _ _ h) (fun fr _ _ _ _ hl k => lv_aload fr.2.1 fr.2.2.1 hdec (hl.2.2 _ _ hv) (k _ hl))
    | _ => cases h
  case istore_n k0 =>
    obtain ⟨x, t, rfl, h⟩ := xpI_inv h
    obtain ⟨hb, h⟩ := xif_inv h
    exact xSnd_go hq (hF _ _ _ _ _ _ _ h) (fun fr _ _ _ _ hl k => lv_istore_n fr.2.1 fr.2.2.1 hdec (Nat.eq_of_beq_eq_true hce) (xhas_lv hl) (xblt hb) rfl (fun lsS hl' => k lsS (xhas_st1 (v := .int x) hl')))
  case istore k0 =>
    obtain ⟨x, t, rfl, h⟩ := xpI_inv h
    obtain ⟨hb, h⟩ := xif_inv h
    have hk := Nat.eq_of_beq_eq_true hce
    subst hk
    exact xSnd_go hq (hF _ _ _ _ _ _ _ h) (fun fr _ _ _ _ hl k => lv_istore fr.2.1 fr.2.2.1 hdec (xhas_lv hl) (xblt hb) rfl (fun lsS hl' => k lsS (xhas_st1 (v := .int x) hl')))
  case lstore_n k0 =>
    obtain ⟨x, t, rfl, h⟩ := xpL_inv h
    obtain ⟨hb, h⟩ := xif_inv h
    exact xSnd_go hq (hF _ _ _ _ _ _ _ h) (fun fr _ _ _ _ hl k => lv_lstore_n fr.2.1 fr.2.2.1 hdec (Nat.eq_of_beq_eq_true hce) (xhas_lv hl) (xblt hb) rfl (fun lsS hl' => k lsS (xhas_st2 (v := .long x) hl')))
  case lstore k0 =>
    obtain ⟨x, t, rfl, h⟩ := xpL_inv h
    obtain ⟨hb, h⟩ := xif_inv h
    have hk := Nat.eq_of_beq_eq_true hce
    subst hk
    exact xSnd_go hq (hF _ _ _ _ _ _ _ h) (fun fr _ _ _ _ hl k => lv_lstore fr.2.1 fr.2.2.1 hdec (xhas_lv hl) (xblt hb) rfl (fun lsS hl' => k lsS (xhas_st2 (v := .long x) hl')))
  case astore_n k0 =>
    obtain ⟨x, t, rfl, h⟩ := xpR_inv h
    obtain ⟨hb, h⟩ := xif_inv h
    exact xSnd_go hq (hF _ _ _ _ _ _ _ h) (fun fr _ _ _ _ hl k => lv_astore_n fr.2.1 fr.2.2.1 hdec (Nat.eq_of_beq_eq_true hce) (xhas_lv hl) (xblt hb) rfl (fun lsS hl' => k lsS (xhas_st1 (v := .ref x) hl')))
  case astore k0 =>
    obtain ⟨x, t, rfl, h⟩ := xpR_inv h
    obtain ⟨hb, h⟩ := xif_inv h
    have hk := Nat.eq_of_beq_eq_true hce
    subst hk
    exact xSnd_go hq (hF _ _ _ _ _ _ _ h) (fun fr _ _ _ _ hl k => lv_astore fr.2.1 fr.2.2.1 hdec (xhas_lv hl) (xblt hb) rfl (fun lsS hl' => k lsS (xhas_st1 (v := .ref x) hl')))
  case iinc k0 n =>
    obtain ⟨v, hv, h⟩ := xlv_inv h
    unfold xce at hce
    simp only [Bool.and_eq_true, decide_eq_true_eq] at hce
    obtain ⟨hk, hn⟩ := hce
    have hk := Nat.eq_of_beq_eq_true hk
    subst hk
    cases v with
    | int x =>
      obtain ⟨hb, h⟩ := xif_inv h
      refine xSnd_go hq (hF _ _ _ _ _ _ _ h) (fun {p e R s m args below meth c H locs cells slots Q lsS} fr _ _ _ _ hl k => ?_)
      obtain ⟨kk, hkk⟩ := List.getElem?_of_mem (xlvl_mem (P := P).mpr ⟨_, hv, rfl⟩)
      exact lv_iinc fr.2.1 fr.2.2.1 hdec (xhas_lv hl) hkk (by rw [hn]) (xblt hb) rfl (fun lsS hl' => k lsS (xhas_st1 (v := .int (x + cst)) hl'))
    | _ => cases h
  case iadd =>
    obtain ⟨x, y, t, rfl, h⟩ := xpII_inv h
    exact xSnd_go hq (hF _ _ _ _ _ _ _ h) (fun fr _ _ _ _ hl k => lv_iadd fr.2.1 fr.2.2.1 hdec (k _ hl))
  case isub =>
    obtain ⟨x, y, t, rfl, h⟩ := xpII_inv h
    exact xSnd_go hq (hF _ _ _ _ _ _ _ h) (fun fr _ _ _ _ hl k => lv_isub fr.2.1 fr.2.2.1 hdec (k _ hl))
  case imul =>
    obtain ⟨x, y, t, rfl, h⟩ := xpII_inv h
    exact xSnd_go hq (hF _ _ _ _ _ _ _ h) (fun fr _ _ _ _ hl k => lv_imul fr.2.1 fr.2.2.1 hdec (k _ hl))
  case iand =>
    obtain ⟨x, y, t, rfl, h⟩ := xpII_inv h
    exact xSnd_go hq (hF _ _ _ _ _ _ _ h) (fun fr _ _ _ _ hl k => lv_iand fr.2.1 fr.2.2.1 hdec (k _ hl))
  case ior =>
    obtain ⟨x, y, t, rfl, h⟩ := xpII_inv h
    exact xSnd_go hq (hF _ _ _ _ _ _ _ h) (fun fr _ _ _ _ hl k => lv_ior fr.2.1 fr.2.2.1 hdec (k _ hl))
  case idiv =>
    obtain ⟨x, y, t, rfl, h⟩ := xpII_inv h
    obtain ⟨hb, h⟩ := xif_inv h
    exact xSnd_go hq (hF _ _ _ _ _ _ _ h) (fun fr _ _ _ _ hl k => lv_idiv fr.2.1 fr.2.2.1 hdec (by simpa [xeq] using hb) (k _ hl))
  case irem =>
    obtain ⟨x, y, t, rfl, h⟩ := xpII_inv h
    obtain ⟨hb, h⟩ := xif_inv h
    exact xSnd_go hq (hF _ _ _ _ _ _ _ h) (fun fr _ _ _ _ hl k => lv_irem fr.2.1 fr.2.2.1 hdec (by simpa [xeq] using hb) (k _ hl))
  case ineg =>
    obtain ⟨x, t, rfl, h⟩ := xpI_inv h
    exact xSnd_go hq (hF _ _ _ _ _ _ _ h) (fun fr _ _ _ _ hl k => lv_ineg fr.2.1 fr.2.2.1 hdec (k _ hl))
  case ishl =>
    obtain ⟨x, y, t, rfl, h⟩ := xpII_inv h
    exact xSnd_go hq (hF _ _ _ _ _ _ _ h) (fun fr _ _ _ _ hl k => lv_ishl fr.2.1 fr.2.2.1 hdec (k _ hl))
  case ishr =>
    obtain ⟨x, y, t, rfl, h⟩ := xpII_inv h
    exact xSnd_go hq (hF _ _ _ _ _ _ _ h) (fun fr _ _ _ _ hl k => lv_ishr fr.2.1 fr.2.2.1 hdec (k _ hl))
  case iushr =>
    obtain ⟨x, y, t, rfl, h⟩ := xpII_inv h
    exact xSnd_go hq (hF _ _ _ _ _ _ _ h) (fun fr _ _ _ _ hl k => lv_iushr fr.2.1 fr.2.2.1 hdec rfl (k _ hl))
  case i2l =>
    obtain ⟨x, t, rfl, h⟩ := xpI_inv h
    exact xSnd_go hq (hF _ _ _ _ _ _ _ h) (fun fr _ _ _ _ hl k => lv_i2l fr.2.1 fr.2.2.1 hdec rfl (k _ hl))
  case l2i =>
    obtain ⟨x, t, rfl, h⟩ := xpL_inv h
    exact xSnd_go hq (hF _ _ _ _ _ _ _ h) (fun fr _ _ _ _ hl k => lv_l2i fr.2.1 fr.2.2.1 hdec rfl (k _ hl))
  case ladd =>
    obtain ⟨x, y, t, rfl, h⟩ := xpLL_inv h
    exact xSnd_go hq (hF _ _ _ _ _ _ _ h) (fun fr _ _ _ _ hl k => lv_ladd fr.2.1 fr.2.2.1 hdec (k _ hl))
  case lsub =>
    obtain ⟨x, y, t, rfl, h⟩ := xpLL_inv h
    exact xSnd_go hq (hF _ _ _ _ _ _ _ h) (fun fr _ _ _ _ hl k => lv_lsub fr.2.1 fr.2.2.1 hdec (k _ hl))
  case lmul =>
    obtain ⟨x, y, t, rfl, h⟩ := xpLL_inv h
    exact xSnd_go hq (hF _ _ _ _ _ _ _ h) (fun fr _ _ _ _ hl k => lv_lmul fr.2.1 fr.2.2.1 hdec (k _ hl))
  case land =>
    obtain ⟨x, y, t, rfl, h⟩ := xpLL_inv h
    exact xSnd_go hq (hF _ _ _ _ _ _ _ h) (fun fr _ _ _ _ hl k => lv_land fr.2.1 fr.2.2.1 hdec (k _ hl))
  case lor =>
    obtain ⟨x, y, t, rfl, h⟩ := xpLL_inv h
    exact xSnd_go hq (hF _ _ _ _ _ _ _ h) (fun fr _ _ _ _ hl k => lv_lor fr.2.1 fr.2.2.1 hdec (k _ hl))
  case lxor =>
    obtain ⟨x, y, t, rfl, h⟩ := xpLL_inv h
    exact xSnd_go hq (hF _ _ _ _ _ _ _ h) (fun fr _ _ _ _ hl k => lv_lxor fr.2.1 fr.2.2.1 hdec (k _ hl))
  case ldiv =>
    obtain ⟨x, y, t, rfl, h⟩ := xpLL_inv h
    obtain ⟨hb, h⟩ := xif_inv h
    exact xSnd_go hq (hF _ _ _ _ _ _ _ h) (fun fr _ _ _ _ hl k => lv_ldiv fr.2.1 fr.2.2.1 hdec (by simpa using hb) (k _ hl))
  case lrem =>
    obtain ⟨x, y, t, rfl, h⟩ := xpLL_inv h
    obtain ⟨hb, h⟩ := xif_inv h
    exact xSnd_go hq (hF _ _ _ _ _ _ _ h) (fun fr _ _ _ _ hl k => lv_lrem fr.2.1 fr.2.2.1 hdec (by simpa using hb) (k _ hl))
  case lshl =>
    obtain ⟨x, y, t, rfl, h⟩ := xpLI_inv h
    exact xSnd_go hq (hF _ _ _ _ _ _ _ h) (fun fr _ _ _ _ hl k => lv_lshl fr.2.1 fr.2.2.1 hdec rfl (k _ hl))
  case lcmp =>
    obtain ⟨x, y, t, rfl, h⟩ := xpLL_inv h
    exact xSnd_go hq (hF _ _ _ _ _ _ _ h) (fun fr _ _ _ _ hl k => W.lcmp fr.2.1 fr.2.2.1 hdec (k _ hl))
  case dup =>
    unfold xins at h
    dsimp only at h
    split at h
    · exact xSnd_go hq (hF _ _ _ _ _ _ _ h) (fun fr _ _ _ _ hl k => lv_dup fr.2.1 fr.2.2.1 hdec rfl (k _ hl))
    · exact xSnd_go hq (hF _ _ _ _ _ _ _ h) (fun fr _ _ _ _ hl k => lv_dup fr.2.1 fr.2.2.1 hdec rfl (k _ hl))
    · cases h
  case dup2 =>
    unfold xins at h
    dsimp only at h
    split at h
    · exact xSnd_go hq (hF _ _ _ _ _ _ _ h) (fun fr _ _ _ _ hl k => lv_dup2_11 fr.2.1 fr.2.2.1 hdec rfl rfl (k _ hl))
    · cases h
  case pop =>
    unfold xins at h
    dsimp only at h
    split at h
    · exact xSnd_go hq (hF _ _ _ _ _ _ _ h) (fun fr _ _ _ _ hl k => lv_pop fr.2.1 fr.2.2.1 hdec rfl (k _ hl))
    · cases h
  case goto o =>
    exact xSnd_go hq (hF _ _ _ _ _ _ _ h) (fun fr _ _ _ _ hl k => lv_goto fr.2.1 fr.2.2.1 hdec (of_decide_eq_true hce) (k _ hl))
  case ifCond cnd o =>
    obtain ⟨x, t, rfl, h2⟩ := xpI_inv h
    dsimp only at h2
    cases hc : xcp cnd x 0 with
    | true =>
      rw [hc, cond_true] at h2
      exact xSnd_go hq (hF _ _ _ _ _ _ _ h2) (fun fr _ _ _ _ hl k => x_ifc fr.2.1 fr.2.2.1 hdec (of_decide_eq_true hce) (fun _ => k _ hl) (fun z => by rw [hc] at z; cases z))
    | false =>
      rw [hc, cond_false] at h2
      exact xSnd_go hq (hF _ _ _ _ _ _ _ h2) (fun fr _ _ _ _ hl k => x_ifc fr.2.1 fr.2.2.1 hdec (of_decide_eq_true hce) (fun z => by rw [hc] at z; cases z) (fun _ => k _ hl))
  case if_icmp cnd o =>
    obtain ⟨x, y, t, rfl, h2⟩ := xpII_inv h
    dsimp only at h2
    cases hc : xcp cnd x y with
    | true =>
      rw [hc, cond_true] at h2
      exact xSnd_go hq (hF _ _ _ _ _ _ _ h2) (fun fr _ _ _ _ hl k => x_icc fr.2.1 fr.2.2.1 hdec (of_decide_eq_true hce) (fun _ => k _ hl) (fun z => by rw [hc] at z; cases z))
    | false =>
      rw [hc, cond_false] at h2
      exact xSnd_go hq (hF _ _ _ _ _ _ _ h2) (fun fr _ _ _ _ hl k => x_icc fr.2.1 fr.2.2.1 hdec (of_decide_eq_true hce) (fun z => by rw [hc] at z; cases z) (fun _ => k _ hl))
  case tableswitch dflt lo hi offs =>
    obtain ⟨x, t, rfl, h⟩ := xpI_inv h
    unfold xce at hce
    simp only [Bool.and_eq_true, decide_eq_true_eq] at hce
    obtain ⟨⟨⟨⟨h1, h2⟩, h3⟩, h4⟩, h5⟩ := hce
    rcases xsw_tab offs.toList lo h3 (by omega) h with ⟨i, o, g1, g2, g3⟩ | ⟨g1, g2⟩
    · have ho : 0 ≤ (pc : Int) + o := of_decide_eq_true (List.all_eq_true.mp h5 o (List.mem_of_getElem? g1))
      have hi' : i < offs.toList.length := (List.getElem?_eq_some_iff.mp g1).1
      refine xSnd_go hq (hF _ _ _ _ _ _ _ g3) (fun fr _ _ _ _ hl k => lv_tableIn fr.2.1 fr.2.2.1 hdec (by omega) (by omega) (off := o) ?_ ?_ (k _ hl))
      · rw [g2, show lo + (i : Int) - lo = (i : Int) by omega, Int.toNat_natCast, ← Array.getElem?_toList]
        exact g1
      · exact (Int.toNat_of_nonneg ho).symm
    · exact xSnd_go hq (hF _ _ _ _ _ _ _ g2) (fun fr _ _ _ _ hl k => lv_tableOut fr.2.1 fr.2.2.1 hdec (by omega) h1 (k _ hl))
  case lookupswitch dflt ps =>
    obtain ⟨x, t, rfl, h⟩ := xpI_inv h
    unfold xce at hce
    simp only [Bool.and_eq_true, decide_eq_true_eq] at hce
    obtain ⟨⟨h1, h2⟩, h3⟩ := hce
    obtain ⟨tg, g1, g2⟩ := xsw_look h1 ps.toList h3 h
    exact xSnd_go hq (hF _ _ _ _ _ _ _ g2) (fun fr _ _ _ _ hl k => lv_lookup fr.2.1 fr.2.2.1 hdec h2 rfl g1 (k _ hl))
  all_goals (cases h)
end MAIN
