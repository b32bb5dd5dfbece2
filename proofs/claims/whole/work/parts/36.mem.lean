/-! ===== instructions that read or write cells, and returns ===== -/
section MEM
variable {l : Launch} {P : xPr} {L : Nat} {xs : Nat → Int32}
theorem xfl_spec {own : String} {i ci k h : Nat} (hf : xfl own i ci k h = true) : ∃ q : vw_C, xCL[ci]? = some q ∧ k < q.2.2 ∧ (q.2.1 k).1 = q.1 ∧ ((Jvm.Cond.fieldLink own i q.1 (q.2.1 k).2.1 (q.2.1 k).2.2.1) ∈ xTS ∨ (Jvm.Cond.fieldLinkNest own i q.1 (q.2.1 k).2.1 (q.2.1 k).2.2.1 "WetInk") ∈ xTS) := by
  unfold xfl at hf
  split at hf
  · rename_i q hq
    simp only [Bool.and_eq_true, Bool.or_eq_true, decide_eq_true_eq] at hf
    obtain ⟨⟨h1, h2⟩, h3⟩ := hf
    exact ⟨q, hq, xblt h1, h2, h3.imp xwd_mem xwd_mem⟩
  · cases hf
theorem xpf_spec {own : String} {ini : Bool} {i ci k h c : Nat} (hf : xpf own ini i ci k h c = true) : ∃ q : vw_C, xCL[ci]? = some q ∧ k < q.2.2 ∧ (q.2.1 k).1 = q.1 ∧ (Jvm.Cond.fieldLink own i q.1 (q.2.1 k).2.1 (q.2.1 k).2.2.1) ∈ xTS ∧ xtc (parseFieldDescriptor (q.2.1 k).2.2.1) c = true ∧ ((q.2.1 k).2.2.2 = false ∨ ((q.2.1 k).2.2.2 = true ∧ ini = true ∧ q.1 = own)) := by
  unfold xpf at hf
  split at hf
  · rename_i q hq
    simp only [Bool.and_eq_true, Bool.or_eq_true, decide_eq_true_eq, Bool.not_eq_true'] at hf
    obtain ⟨⟨⟨⟨h1, h2⟩, h3⟩, h4⟩, h5⟩ := hf
    refine ⟨q, hq, xblt h1, h2, xwd_mem h3, h4, ?_⟩
    rcases h5 with h5 | h5
    · exact Or.inl h5
    · cases hz : (q.2.1 k).2.2.2 with
      | false => exact Or.inl rfl
      | true => exact Or.inr ⟨rfl, h5.1, h5.2⟩
  · cases hf
theorem xcl_spec {own : String} {i ci h h1 h2 : Nat} (hf : xcl own i ci h h1 h2 = true) : ∃ q : vw_C, xCL[ci]? = some q ∧ (Jvm.Cond.classLink own i q.1) ∈ xTS ∧ (Jvm.Cond.instantiable q.1 q.2.2) ∈ xTS ∧ (Jvm.Cond.initialized q.1) ∈ xTS := by
  unfold xcl at hf
  split at hf
  · rename_i q hq
    simp only [Bool.and_eq_true] at hf
    exact ⟨q, hq, xwd_mem hf.1.1, xwd_mem hf.1.2, xwd_mem hf.2⟩
  · cases hf
theorem xtwo {a : Nat} (h : Nat.ble 2 a = true) : ∃ k, a = k + 2 := ⟨a - 2, by have := Nat.le_of_ble_eq_true h; omega⟩
/-- a field is read -/
theorem x_getf {mi pc : Nat} {q : xMt} {i ci k h : Nat} {p : Program} {e : Env} {R : Room} {s : State} {m : MethodId} {args : Array Value} {below : List Frame} {meth : Method} {c : Code} {H : Heap} {locs : List Loc} {cells slots d : Nat} {Q : State → Prop} {lsS : Array Slot} {M : xMem} {rest : List Value} {a : Nat} {cs : List Nat} {cd : Nat}
    (hf : xfl q.1.cls i ci k h = true) (hdec : decode q.2.1 pc = .ok (.getfield i, 3)) (fr : xFr mi d p R s m meth c q) (ev : xEnv P L xs s) (hP : va_P P.2.1 xCL (xws P M) H) (hsh : M.1[a + 2]? = some (0, ci, cs)) (hk : cs[k]? = some cd)
    (kk : W p l e R s m args below meth c H locs cells slots Q (F0 m (pc + 3) lsS (xv P (xfv M.2.1 M.2.2 (a + 2) k cd) :: rest))) : W p l e R s m args below meth c H locs cells slots Q (F0 m pc lsS (.ref (P.1.1 + a) :: rest)) := by
  obtain ⟨⟨C, T, N⟩, hc, hkN, hC, hl⟩ := xfl_spec hf
  obtain ⟨ty, ⟨-, -, -, hin, -⟩, -⟩ := xCL_ok ci _ hc
  have he := xws_get (P := P) hsh
  have hv : (cs.mapIdx (fun j c => xv P (xfv M.2.1 M.2.2 (a + 2) j c)))[k]? = some (xv P (xfv M.2.1 M.2.2 (a + 2) k cd)) := by rw [List.getElem?_mapIdx, hk]; rfl
  rcases hl with hl | hl
  · exact va_get fr.2.1 fr.2.2.1 (fun w hw => ev.2.1 w hw args) hin fr.2.2.2.2.2.1 ev.1 hP a he hc k hkN (ev.2.1 _ hl args) (fun x hx => by rw [hC] at hx; exact hx) hv hdec kk
  · exact va_getN fr.2.1 fr.2.2.1 (fun w hw => ev.2.1 w hw args) hin fr.2.2.2.2.2.1 ev.1 hP a he hc k hkN (ev.2.1 _ hl args) (fun x hx => by rw [hC] at hx; exact hx) hv hdec kk
/-- a field is written -/
theorem x_putf {mi pc : Nat} {q : xMt} {i ci k h c0 : Nat} {p : Program} {e : Env} {R : Room} {s : State} {m : MethodId} {args : Array Value} {below : List Frame} {meth : Method} {c : Code} {H : Heap} {locs : List Loc} {cells slots d : Nat} {Q : State → Prop} {lsS : Array Slot} {M : xMem} {rest : List Value} {a : Nat} {cs : List Nat} {cd : Nat} {v : Value}
    (hf : xpf q.1.cls (Nat.beq q.2.2.2.2.2.2.1 2) i ci k h c0 = true) (hdec : decode q.2.1 pc = .ok (.putfield i, 3)) (fr : xFr mi d p R s m meth c q) (ev : xEnv P L xs s) (hP : va_P P.2.1 xCL (xws P M) H) (hS : va_S (xA P) s.heap H locs) (hsh : M.1[a + 2]? = some (0, ci, cs)) (hk : cs[k]? = some cd)
    (hty : ∀ ty, xtc (some ty) c0 = true → narrow ty v = v ∧ fits ty v = true)
    (kk : ∀ (H1 : Heap) (locs1 : List Loc), va_P P.2.1 xCL ((xws P M).set a (P.1.1 + a, .inr (ci, (cs.mapIdx (fun j c => xv P (xfv M.2.1 M.2.2 (a + 2) j c))).set k v))) H1 → va_S (xA P) s.heap H1 locs1 → W p l e R s m args below meth c H1 locs1 cells slots Q (F0 m (pc + 3) lsS rest)) : W p l e R s m args below meth c H locs cells slots Q (F0 m pc lsS (v :: .ref (P.1.1 + a) :: rest)) := by
  obtain ⟨⟨C, T, N⟩, hc, hkN, hC, hl, ht, hfin⟩ := xpf_spec hf
  obtain ⟨ty, ⟨h1, -, h3, hin, -⟩, -⟩ := xCL_ok ci _ hc
  have he := xws_get (P := P) hsh
  have ht' : parseFieldDescriptor (T k).2.2.1 = some (ty k) := h1 k hkN
  dsimp only at ht
  rw [ht'] at ht
  obtain ⟨hn, hft⟩ := hty _ ht
  have hlen : k < (cs.mapIdx (fun j c => xv P (xfv M.2.1 M.2.2 (a + 2) j c))).length := by simpa using (List.getElem?_eq_some_iff.mp hk).1
  rcases hfin with hfin | ⟨hfin, hini, hown⟩
  · exact va_put fr.2.1 fr.2.2.1 (fun w hw => ev.2.1 w hw args) hin ty h1 h3 fr.2.2.2.2.2.1 ev.1 hP xws_D hS a he hc k hkN (ev.2.1 _ hl args) (fun x hx => by rw [hC] at hx; exact hx) hfin ht' hn hft hlen hdec (fun H1 locs1 g1 _ g3 => kk H1 locs1 g1 g3)
  · exact va_putF fr.2.1 fr.2.2.1 (fun w hw => ev.2.1 w hw args) hin ty h1 h3 fr.2.2.2.2.2.1 ev.1 hP xws_D hS a he hc k hkN (ev.2.1 _ hl args) (fun x hx => by rw [hC] at hx; exact hx) hfin (fr.2.2.2.2.2.2.2.1 (Nat.eq_of_beq_eq_true hini)) (hC.trans hown) ht' hn hft hlen hdec (fun H1 locs1 g1 _ g3 => kk H1 locs1 g1 g3)
theorem xpre_put {M M' : xMem} (hS : M'.1.length = M.1.length) (h0 : M'.1[0]? = M.1[0]?) (hI : M'.2.1 0 = M.2.1 0) (h : xpre L xs M) : xpre L xs M' := ⟨by rw [hS]; exact h.1, by rw [h0]; exact h.2.1, hI.trans h.2.2⟩
theorem xpre_I {M : xMem} {a k : Nat} {x : Int32} (h : xpre L xs M) : xpre L xs (xputI M (a + 2) k x) := xpre_put (M := M) (M' := xputI M (a + 2) k x) rfl rfl (xwI_ne (I := M.2.1) (j := k) (v := x) (show 0 ≠ a + 2 by omega)) h
theorem xpre_J {M : xMem} {a k : Nat} {x : Int64} (h : xpre L xs M) : xpre L xs (xputJ M (a + 2) k x) := xpre_put (M := M) (M' := xputJ M (a + 2) k x) rfl rfl rfl h
theorem xputR_1 {M : xMem} {a k r : Nat} {h : xSh} (e : M.1[a]? = some h) : (xputR M a k r).1 = M.1.set a (h.1, h.2.1, h.2.2.set k (r + 3)) := by simp only [xputR, e]
theorem xpre_R {M : xMem} {a k r : Nat} {h : xSh} (e : M.1[a + 2]? = some h) (hp : xpre L xs M) : xpre L xs (xputR M (a + 2) k r) := xpre_put (M := M) (M' := xputR M (a + 2) k r) (by rw [xputR_1 e, List.length_set]) (by rw [xputR_1 e, List.getElem?_set, if_neg (by omega)]) rfl hp
theorem xtc_int {x : Int32} : ∀ ty, xtc (some ty) 0 = true → narrow ty (.int x) = .int x ∧ fits ty (.int x) = true := by
  intro ty h
  cases ty <;> first | (exact ⟨rfl, rfl⟩; done) | (simp [xtc] at h; done)
theorem xtc_long {x : Int64} : ∀ ty, xtc (some ty) 1 = true → narrow ty (.long x) = .long x ∧ fits ty (.long x) = true := by
  intro ty h
  cases ty <;> first | (exact ⟨rfl, rfl⟩; done) | (simp [xtc] at h; done)
theorem xtc_ref {x : Nat} : ∀ ty, xtc (some ty) 2 = true → narrow ty (.ref x) = .ref x ∧ fits ty (.ref x) = true := by
  intro ty h
  cases ty <;> first | (exact ⟨rfl, rfl⟩; done) | (simp [xtc] at h; done)
theorem xins_fld (hOK : ∀ i, i < 323 → xOKm i) {F : xSt → Option xRes} (hF : ∀ d mi pc ls st M r, F (d, mi, pc, ls, st, M) = some r → xSnd l P L xs d mi pc ls st M r) {E : xEnt} {d mi pc : Nat} {ls : xLs} {st : List Value} {M : xMem} {r : xRes} (hE : xcode mi pc = some E) (h : xins xDC xML xRT F F E d mi pc ls st M = some r) (i : Nat) (hi : E.1 = .getfield i ∨ E.1 = .putfield i) : xSnd l P L xs d mi pc ls st M r := by
  obtain ⟨q, hq, hmok, hdec, hce⟩ := xfetch hOK hE
  obtain ⟨ins, len, a, b, hh, cst, lcst⟩ := E
  rcases hi with hi | hi
  · dsimp only at hi
    subst hi
    obtain ⟨a', t, rfl, h2⟩ := xpR_inv h
    obtain ⟨⟨s1, s2, s3⟩, hsh, h3⟩ := xsh_inv h2
    obtain ⟨hb, h4⟩ := xif_inv h3
    simp only [Bool.and_eq_true] at hb
    obtain ⟨⟨hb1, hb2⟩, hb3⟩ := hb
    obtain ⟨k, rfl⟩ := xtwo hb1
    have e1 := Nat.eq_of_beq_eq_true hb2
    have e2 := Nat.eq_of_beq_eq_true hb3
    dsimp only at e1 e2 h4
    subst e1 e2
    split at h4
    · rename_i r0 hr0
      exact xSnd_go hq (hF _ _ _ _ _ _ _ h4) (fun fr ev _ hP _ hl k2 => x_getf hce hdec fr ev hP hsh hr0 (k2 _ hl))
    · rename_i hr0
      exact xSnd_go hq (hF _ _ _ _ _ _ _ h4) (fun fr ev _ hP _ hl k2 => x_getf hce hdec fr ev hP hsh hr0 (k2 _ hl))
    · rename_i hr0
      exact xSnd_go hq (hF _ _ _ _ _ _ _ h4) (fun fr ev _ hP _ hl k2 => x_getf hce hdec fr ev hP hsh hr0 (k2 _ hl))
    · cases h4
  · dsimp only at hi
    subst hi
    unfold xins at h
    dsimp only at h
    unfold xce at hce
    dsimp only at hce
    split at h
    · rename_i x a' t
      obtain ⟨⟨s1, s2, s3⟩, hsh, h3⟩ := xsh_inv h
      obtain ⟨hb, h4⟩ := xif_inv h3
      simp only [Bool.and_eq_true] at hb
      obtain ⟨⟨⟨hb0, hb1⟩, hb2⟩, hb3⟩ := hb
      obtain ⟨k, rfl⟩ := xtwo hb1
      have e0 := Nat.eq_of_beq_eq_true hb0
      have e1 := Nat.eq_of_beq_eq_true hb2
      have e2 := Nat.eq_of_beq_eq_true hb3
      dsimp only at e1 e2 h4
      subst e0 e1 e2
      split at h4
      · rename_i hr0
        refine xSnd_mem hq (hF _ _ _ _ _ _ _ h4) rfl rfl xpre_I (fun fr ev _ hP hS hl k2 => x_putf hce hdec fr ev hP hS hsh hr0 xtc_int (fun H1 locs1 g1 g2 => k2 H1 locs1 ?_ g2))
        rw [xws_putI hsh]
        show va_P P.2.1 xCL ((xws P M).set k (P.1.1 + k, .inr (s2, s3.mapIdx (fun j c => xv P (xfv (xwI M.2.1 (k + 2) b x) M.2.2 (k + 2) j c))))) H1
        rw [xfs_putI hr0]
        exact g1
      · cases h4
    · rename_i x a' t
      obtain ⟨⟨s1, s2, s3⟩, hsh, h3⟩ := xsh_inv h
      obtain ⟨hb, h4⟩ := xif_inv h3
      simp only [Bool.and_eq_true] at hb
      obtain ⟨⟨⟨hb0, hb1⟩, hb2⟩, hb3⟩ := hb
      obtain ⟨k, rfl⟩ := xtwo hb1
      have e0 := Nat.eq_of_beq_eq_true hb0
      have e1 := Nat.eq_of_beq_eq_true hb2
      have e2 := Nat.eq_of_beq_eq_true hb3
      dsimp only at e1 e2 h4
      subst e0 e1 e2
      split at h4
      · rename_i hr0
        refine xSnd_mem hq (hF _ _ _ _ _ _ _ h4) rfl rfl xpre_J (fun fr ev _ hP hS hl k2 => x_putf hce hdec fr ev hP hS hsh hr0 xtc_long (fun H1 locs1 g1 g2 => k2 H1 locs1 ?_ g2))
        rw [xws_putJ hsh]
        show va_P P.2.1 xCL ((xws P M).set k (P.1.1 + k, .inr (s2, s3.mapIdx (fun j c => xv P (xfv M.2.1 (xwJ M.2.2 (k + 2) b x) (k + 2) j c))))) H1
        rw [xfs_putJ hr0]
        exact g1
      · cases h4
    · rename_i x a' t
      obtain ⟨⟨s1, s2, s3⟩, hsh, h3⟩ := xsh_inv h
      obtain ⟨hb, h4⟩ := xif_inv h3
      simp only [Bool.and_eq_true] at hb
      obtain ⟨⟨⟨hb0, hb1⟩, hb2⟩, hb3⟩ := hb
      obtain ⟨k, rfl⟩ := xtwo hb1
      have e0 := Nat.eq_of_beq_eq_true hb0
      have e1 := Nat.eq_of_beq_eq_true hb2
      have e2 := Nat.eq_of_beq_eq_true hb3
      dsimp only at e1 e2 h4
      subst e0 e1 e2
      split at h4
      · rename_i hr0
        refine xSnd_mem hq (hF _ _ _ _ _ _ _ h4) (by rw [xputR_1 hsh, List.length_set]) ?_ (xpre_R hsh) (fun fr ev _ hP hS hl k2 => x_putf hce hdec fr ev hP hS hsh hr0 xtc_ref (fun H1 locs1 g1 g2 => k2 H1 locs1 ?_ g2))
        · rw [xputR_1 hsh]
          exact xns_set _ _ _ _ hsh (by simp [xsz1])
        · rw [xws_putR hsh rfl hr0]
          exact g1
      · cases h4
    · cases h
/-- rows are read -/
theorem xins_ald (hOK : ∀ i, i < 323 → xOKm i) {F : xSt → Option xRes} (hF : ∀ d mi pc ls st M r, F (d, mi, pc, ls, st, M) = some r → xSnd l P L xs d mi pc ls st M r) {E : xEnt} {d mi pc : Nat} {ls : xLs} {st : List Value} {M : xMem} {r : xRes} (hE : xcode mi pc = some E) (h : xins xDC xML xRT F F E d mi pc ls st M = some r) (hi : E.1 = .iaload ∨ E.1 = .laload ∨ E.1 = .caload ∨ E.1 = .baload ∨ E.1 = .arraylength) : xSnd l P L xs d mi pc ls st M r := by
  obtain ⟨q, hq, hmok, hdec, hce⟩ := xfetch hOK hE
  obtain ⟨ins, len, a, b, hh, cst, lcst⟩ := E
  rcases hi with hi | hi | hi | hi | hi
  · dsimp only at hi
    subst hi
    obtain ⟨a', i, t, rfl, h2⟩ := xpRI_inv h
    obtain ⟨⟨s1, s2, s3⟩, hsh, h3⟩ := xsh_inv h2
    obtain ⟨hb, h4⟩ := xif_inv h3
    obtain ⟨hin, h5⟩ := xif_inv h4
    simp only [Bool.and_eq_true, Bool.or_eq_true] at hb
    rcases hb with ⟨hb1, hb2⟩ | hb
    · obtain ⟨k, rfl⟩ := xtwo hb1
      have e1 := Nat.eq_of_beq_eq_true hb2
      try dsimp only at e1
      subst e1
      exact xSnd_go hq (hF _ _ _ _ _ _ _ h5) (fun fr ev _ hP _ hl k2 => va_iald fr.2.1 fr.2.2.1 ev.1 hP k 0 (xws_get (P := P) hsh) rfl (xin_vp hin) hdec (k2 _ hl))
    · have e1 := Nat.eq_of_beq_eq_true hb
      subst e1
      refine xSnd_go hq (hF _ _ _ _ _ _ _ h5) (fun {p e R s m args below meth c H locs cells slots Q lsS} fr ev pr hP hS hl k2 => ?_)
      obtain ⟨cell, c1, c2, c3, c4, c5, c6, c7⟩ := ev.2.2.1.kept hS.2.1
      obtain ⟨h', g1, g2⟩ := pr.2.1
      have e2 : s2 = L := by rw [hsh] at g1; cases g1; exact g2
      have hv := xin_vp hin
      try dsimp only at hv
      rw [e2] at hv
      have hlt : i.toNatClampNeg < L := Nat.not_le.mp fun z => hv (Or.inr z)
      refine W.iald (v := .int (xs i.toNatClampNeg)) fr.2.1 fr.2.2.1 c1 c2 c3 (fun z => hv (z.imp id (fun w => Nat.le_trans c4 w))) (c6 _ hlt) rfl rfl hdec ?_
      rw [← pr.2.2]
      exact k2 _ hl
  · dsimp only at hi
    subst hi
    obtain ⟨a', i, t, rfl, h2⟩ := xpRI_inv h
    obtain ⟨⟨s1, s2, s3⟩, hsh, h3⟩ := xsh_inv h2
    obtain ⟨hb, h4⟩ := xif_inv h3
    obtain ⟨hin, h5⟩ := xif_inv h4
    simp only [Bool.and_eq_true] at hb
    obtain ⟨k, rfl⟩ := xtwo hb.1
    have e1 := Nat.eq_of_beq_eq_true hb.2
    try dsimp only at e1
    subst e1
    exact xSnd_go hq (hF _ _ _ _ _ _ _ h5) (fun fr ev _ hP _ hl k2 => va_lald fr.2.1 fr.2.2.1 ev.1 hP k 1 (xws_get (P := P) hsh) rfl (xin_vp hin) hdec (k2 _ hl))
  · dsimp only at hi
    subst hi
    obtain ⟨a', i, t, rfl, h2⟩ := xpRI_inv h
    obtain ⟨⟨s1, s2, s3⟩, hsh, h3⟩ := xsh_inv h2
    obtain ⟨hb, h4⟩ := xif_inv h3
    obtain ⟨hin, h5⟩ := xif_inv h4
    simp only [Bool.and_eq_true] at hb
    obtain ⟨k, rfl⟩ := xtwo hb.1
    have e1 := Nat.eq_of_beq_eq_true hb.2
    try dsimp only at e1
    subst e1
    exact xSnd_go hq (hF _ _ _ _ _ _ _ h5) (fun fr ev _ hP _ hl k2 => va_cald fr.2.1 fr.2.2.1 ev.1 hP k 2 (xws_get (P := P) hsh) rfl (xin_vp hin) hdec (k2 _ hl))
  · dsimp only at hi
    subst hi
    obtain ⟨a', i, t, rfl, h2⟩ := xpRI_inv h
    obtain ⟨⟨s1, s2, s3⟩, hsh, h3⟩ := xsh_inv h2
    obtain ⟨hb, h4⟩ := xif_inv h3
    obtain ⟨hin, h5⟩ := xif_inv h4
    simp only [Bool.and_eq_true] at hb
    obtain ⟨k, rfl⟩ := xtwo hb.1
    have e1 := Nat.eq_of_beq_eq_true hb.2
    try dsimp only at e1
    subst e1
    exact xSnd_go hq (hF _ _ _ _ _ _ _ h5) (fun fr ev _ hP _ hl k2 => va_zald fr.2.1 fr.2.2.1 ev.1 hP k 3 (xws_get (P := P) hsh) rfl (xin_vp hin) hdec (k2 _ hl))
  · dsimp only at hi
    subst hi
    obtain ⟨a', t, rfl, h2⟩ := xpR_inv h
    obtain ⟨⟨s1, s2, s3⟩, hsh, h3⟩ := xsh_inv h2
    obtain ⟨hb, h5⟩ := xif_inv h3
    simp only [Bool.and_eq_true, Bool.or_eq_true] at hb
    rcases hb with ⟨⟨hb1, hb2⟩, hb3⟩ | hb
    · obtain ⟨k, rfl⟩ := xtwo hb1
      have e1 := Nat.le_of_ble_eq_true hb2
      have e2 := Nat.le_of_ble_eq_true hb3
      try dsimp only at e1 e2
      have hx := xws_get (P := P) hsh
      rcases (show s1 = 1 ∨ s1 = 2 ∨ s1 = 3 ∨ s1 = 4 by omega) with rfl | rfl | rfl | rfl
      · exact xSnd_go hq (hF _ _ _ _ _ _ _ h5) (fun fr ev _ hP _ hl k2 => va_alen fr.2.1 fr.2.2.1 ev.1 hP k 0 hx rfl rfl hdec (k2 _ hl))
      · exact xSnd_go hq (hF _ _ _ _ _ _ _ h5) (fun fr ev _ hP _ hl k2 => va_alen fr.2.1 fr.2.2.1 ev.1 hP k 1 hx rfl rfl hdec (k2 _ hl))
      · exact xSnd_go hq (hF _ _ _ _ _ _ _ h5) (fun fr ev _ hP _ hl k2 => va_alen fr.2.1 fr.2.2.1 ev.1 hP k 2 hx rfl rfl hdec (k2 _ hl))
      · exact xSnd_go hq (hF _ _ _ _ _ _ _ h5) (fun fr ev _ hP _ hl k2 => va_alen fr.2.1 fr.2.2.1 ev.1 hP k 3 hx rfl rfl hdec (k2 _ hl))
    · have e1 := Nat.eq_of_beq_eq_true hb
      subst e1
      refine xSnd_go hq (hF _ _ _ _ _ _ _ h5) (fun {p e R s m args below meth c H locs cells slots Q lsS} fr ev pr hP hS hl k2 => ?_)
      obtain ⟨cell, c1, c2, c3, c4, c5, c6, c7⟩ := ev.2.2.1.kept hS.2.1
      obtain ⟨h', g1, g2⟩ := pr.2.1
      have e2 : s2 = L := by rw [hsh] at g1; cases g1; exact g2
      subst e2
      exact W.alen fr.2.1 fr.2.2.1 c1 c2 c5 rfl rfl hdec (k2 _ hl)
/-- rows are written -/
theorem xins_ast (hOK : ∀ i, i < 323 → xOKm i) {F : xSt → Option xRes} (hF : ∀ d mi pc ls st M r, F (d, mi, pc, ls, st, M) = some r → xSnd l P L xs d mi pc ls st M r) {E : xEnt} {d mi pc : Nat} {ls : xLs} {st : List Value} {M : xMem} {r : xRes} (hE : xcode mi pc = some E) (h : xins xDC xML xRT F F E d mi pc ls st M = some r) (hi : E.1 = .iastore ∨ E.1 = .lastore ∨ E.1 = .castore ∨ E.1 = .bastore) : xSnd l P L xs d mi pc ls st M r := by
  obtain ⟨q, hq, hmok, hdec, hce⟩ := xfetch hOK hE
  obtain ⟨ins, len, a, b, hh, cst, lcst⟩ := E
  rcases hi with hi | hi | hi | hi
  · dsimp only at hi
    subst hi
    obtain ⟨a', i, x, t, rfl, h2⟩ := xpIIR_inv h
    obtain ⟨⟨s1, s2, s3⟩, hsh, h3⟩ := xsh_inv h2
    obtain ⟨hb, h4⟩ := xif_inv h3
    obtain ⟨hin, h5⟩ := xif_inv h4
    simp only [Bool.and_eq_true] at hb
    obtain ⟨k, rfl⟩ := xtwo hb.1
    have e1 := Nat.eq_of_beq_eq_true hb.2
    try dsimp only at e1
    subst e1
    refine xSnd_mem hq (hF _ _ _ _ _ _ _ h5) rfl rfl xpre_I (fun fr ev _ hP hS hl k2 => va_iast fr.2.1 fr.2.2.1 ev.1 hP xws_D hS k 0 (xws_get (P := P) hsh) rfl (xin_vp hin) hdec (fun H1 locs1 g1 _ g3 => k2 H1 locs1 ?_ g3))
    rw [xws_putI hsh]
    show va_P P.2.1 xCL ((xws P M).set k (P.1.1 + k, .inl (P.2.2.1, s2, .inl (xwI M.2.1 (k + 2) (xIx i) x (k + 2))))) H1
    rw [xwI_eq]
    exact g1
  · dsimp only at hi
    subst hi
    obtain ⟨a', i, x, t, rfl, h2⟩ := xpLIR_inv h
    obtain ⟨⟨s1, s2, s3⟩, hsh, h3⟩ := xsh_inv h2
    obtain ⟨hb, h4⟩ := xif_inv h3
    obtain ⟨hin, h5⟩ := xif_inv h4
    simp only [Bool.and_eq_true] at hb
    obtain ⟨k, rfl⟩ := xtwo hb.1
    have e1 := Nat.eq_of_beq_eq_true hb.2
    try dsimp only at e1
    subst e1
    refine xSnd_mem hq (hF _ _ _ _ _ _ _ h5) rfl rfl xpre_J (fun fr ev _ hP hS hl k2 => va_last fr.2.1 fr.2.2.1 ev.1 hP xws_D hS k 1 (xws_get (P := P) hsh) rfl (xin_vp hin) hdec (fun H1 locs1 g1 _ g3 => k2 H1 locs1 ?_ g3))
    rw [xws_putJ hsh]
    show va_P P.2.1 xCL ((xws P M).set k (P.1.1 + k, .inl (P.2.2.2.1, s2, .inr (.inl (xwJ M.2.2 (k + 2) (xIx i) x (k + 2)))))) H1
    rw [xwJ_eq]
    exact g1
  · dsimp only at hi
    subst hi
    obtain ⟨a', i, x, t, rfl, h2⟩ := xpIIR_inv h
    obtain ⟨⟨s1, s2, s3⟩, hsh, h3⟩ := xsh_inv h2
    obtain ⟨hb, h4⟩ := xif_inv h3
    obtain ⟨hin, h5⟩ := xif_inv h4
    simp only [Bool.and_eq_true] at hb
    obtain ⟨k, rfl⟩ := xtwo hb.1
    have e1 := Nat.eq_of_beq_eq_true hb.2
    try dsimp only at e1
    subst e1
    refine xSnd_mem hq (hF _ _ _ _ _ _ _ h5) rfl rfl xpre_I (fun fr ev _ hP hS hl k2 => va_cast fr.2.1 fr.2.2.1 ev.1 hP xws_D hS k 2 (xws_get (P := P) hsh) rfl (xin_vp hin) hdec (fun H1 locs1 g1 _ g3 => k2 H1 locs1 ?_ g3))
    rw [xws_putI hsh]
    show va_P P.2.1 xCL ((xws P M).set k (P.1.1 + k, .inl (P.2.2.2.2.1, s2, .inl (xwI M.2.1 (k + 2) (xIx i) (vp_nar .char x) (k + 2))))) H1
    rw [xwI_eq]
    exact g1
  · dsimp only at hi
    subst hi
    obtain ⟨a', i, x, t, rfl, h2⟩ := xpIIR_inv h
    obtain ⟨⟨s1, s2, s3⟩, hsh, h3⟩ := xsh_inv h2
    obtain ⟨hb, h4⟩ := xif_inv h3
    obtain ⟨hin, h5⟩ := xif_inv h4
    simp only [Bool.and_eq_true] at hb
    obtain ⟨k, rfl⟩ := xtwo hb.1
    have e1 := Nat.eq_of_beq_eq_true hb.2
    try dsimp only at e1
    subst e1
    refine xSnd_mem hq (hF _ _ _ _ _ _ _ h5) rfl rfl xpre_I (fun fr ev _ hP hS hl k2 => va_zast fr.2.1 fr.2.2.1 ev.1 hP xws_D hS k 3 (xws_get (P := P) hsh) rfl (xin_vp hin) hdec (fun H1 locs1 g1 _ g3 => k2 H1 locs1 ?_ g3))
    rw [xws_putI hsh]
    show va_P P.2.1 xCL ((xws P M).set k (P.1.1 + k, .inl (P.2.2.2.2.2, s2, .inl (xwI M.2.1 (k + 2) (xIx i) (vp_nar .boolean x) (k + 2))))) H1
    rw [xwI_eq]
    exact g1
end MEM
