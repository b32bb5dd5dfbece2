/-! ===== the own words' text: length() and charAt(int), the JDK's own code ===== -/
def xSQ (v : Option Value) : Array Value → State → Outcome → State → Prop := fun _ st oc t => oc = .returned v ∧ t.heap = st.heap
def xSR (d : Nat) : Room := { frames := d + 1, cells := 0, slots := 0, locals := 64 * (d + 1) }
def xSPc (P : xPr) (L : Nat) (xs : Nat → Int32) (av : List Value) : Array Value → State → Prop := fun a U => a = av.toArray ∧ xEnv P L xs U
abbrev xSM (l : Launch) (P : xPr) (L : Nat) (xs : Nat → Int32) (y : MethodName) (bytes : ByteArray) (maxL : Nat) (ret : Option FieldType) (d : Nat) (av : List Value) (v : Option Value) : Prop := Met l y [.code y bytes maxL ret] (xSR d) (xSPc P L xs av) (xSQ v) 0 0 (fun _ => False)
theorem xSPc_blind {P : xPr} {L : Nat} {xs : Nat → Int32} {av : List Value} : FrameBlind (xSPc P L xs av) := fun a U g mk h => ⟨h.1, xEnv_warm (s := U) (U := U.calling g mk a) (State.WarmedH.refl U) (Nat.le_refl _) (fun _ _ _ => rfl) h.2⟩
section TEXT
variable {l : Launch} {P : xPr} {L : Nat} {xs : Nat → Int32}
section
variable {p : Program} {e : Env} {R : Room} {s : State} {m : MethodId} {args : Array Value} {below : List Frame} {meth : Method} {c : Code} {H : Heap} {locs : List Loc} {cells slots : Nat} {Q : State → Prop}
theorem x_scall {v : Option Value} {a : Array Value} {pc : Nat} {lsS : Array Slot} {st0 rest : List Value} (hr : va_Run p l e R s m args below meth c H locs cells slots 0 0 (F0 m pc lsS st0) rest (xSQ v a) (fun _ => False))
    (kk : W p l e R s m args below meth c H locs cells slots Q (F0 m (pc + 3) lsS (v.toList ++ rest))) : W p l e R s m args below meth c H locs cells slots Q (F0 m pc lsS st0) := by
  intro T hT X
  obtain ⟨v', st₀, t, T', Ls, h0, X', hL, e1, e2, ⟨hv, hp⟩, st⟩ := hr T hT X
  cases hv
  have hL0 : Ls = [] := by
    cases Ls with
    | nil => rfl
    | cons a _ => exact (hL a List.mem_cons_self).elim
  subst hL0
  rw [List.append_nil] at X'
  obtain ⟨t2, a1, b1⟩ := kk T' (by rw [e1, hp, h0]) X'
  exact ⟨t2, st t2 a1, b1⟩
theorem x_sB {own : String} {i : Nat} {y : MethodName} {bytes : ByteArray} {maxL : Nat} {ret : Option FieldType} {d n : Nat} (ev : xEnv P L xs s) (hf : d + 2 ≤ R.frames) (hlo : 64 * (d + 2) ≤ R.locals) (hm : maxL ≤ 40) (wc : (Jvm.Cond.code y bytes maxL ret) ∈ xTS) (wi : (Jvm.Cond.initialized y.cls) ∈ xTS) (wl : (Jvm.Cond.methodLink own i y) ∈ xTS) (hy : y.cls ≠ "java/lang/invoke/MethodHandle" ∧ y.cls ≠ "java/lang/invoke/VarHandle") (hn : (parseMethodDescriptor y.desc).map (fun d => d.parameters.length) = some n) : CallB R s args own i y bytes maxL ret [.code y bytes maxL ret] (xSR d) 0 0 n := by
  refine ⟨rfl, rfl, hf, ?_, ?_, List.mem_singleton.mpr rfl, ev.2.1 _ wc args, ev.2.1 _ wi args, hy, fun sig h => ?_, ev.2.1 _ wl args⟩
  · show 8 + (maxL + 11) + 64 * (d + 1) ≤ R.locals
    omega
  · intro w hw a' U hW
    rw [List.mem_singleton.mp hw]
    exact xTab_warm hW ev.2.1 _ wc a'
  · rw [h] at hn
    exact (Option.some.inj hn).symm
theorem x_sP {av : List Value} (ev : xEnv P L xs s) (hS : va_S (xA P) s.heap H locs) : ∀ U : State, U.heap = H → s.WarmedH U.vm → xSPc P L xs av av.toArray U := fun U hU hW => ⟨rfl, xEnv_warm hW (by rw [hU]; exact hS.1) (fun x h1 h2 => by rw [hU]; exact hS.2.1 x h1 h2) ev⟩
end
theorem x_ofS {y : MethodName} {bytes : ByteArray} {maxL : Nat} {ret : Option FieldType} {d : Nat} {av : List Value} {v : Option Value} (hy : plainName y.cls = true) (hlen : (lg_sl av).length ≤ maxL)
    (body : ∀ {p : Program} {e : Env} {s : State} {m : MethodId} {below : List Frame} {meth : Method} {c : Code} {lsS : Array Slot}, p.tables.exec = Jvm.exec → c.code = bytes → c.maxLocals = maxL → meth.sig.returnType = ret → s.vm.findClass y.cls = some m.cls → meth.locks = false → xEnv P L xs s → lv_has lsS maxL (lv_args 0 av) → W p l e (xSR d) s m av.toArray below meth c s.heap [] 0 0 (MQ below (xSQ v) av.toArray s 0 0 (fun _ => False)) (F0 m 0 lsS [])) : xSM l P L xs y bytes maxL ret d av v := by
  refine Met.ofW (cc := bytes) (maxL := maxL) (ret := ret) hy rfl ?_
  intro p e s m args below meth c s₁ B hml hv
  obtain ⟨rfl, ev⟩ := hv
  rw [lg_entry_eq]
  exact body B.exec B.bytes hml B.returns (findClass_of_methodNamed B.named) B.notSynchronized ev (lv_entry av hlen)
theorem dS_coder0 : decode prog_16_method_152_code 0 = .ok (.getstatic 38, 3) := by decide +kernel
theorem dS_coder3 : decode prog_16_method_152_code 3 = .ok (.ifCond .eq 10, 3) := by decide +kernel
theorem dS_coder6 : decode prog_16_method_152_code 6 = .ok (.aload_n 0, 1) := by decide +kernel
theorem dS_coder7 : decode prog_16_method_152_code 7 = .ok (.getfield 15, 3) := by decide +kernel
theorem dS_coder10 : decode prog_16_method_152_code 10 = .ok (.goto 4, 3) := by decide +kernel
theorem dS_coder14 : decode prog_16_method_152_code 14 = .ok (.ireturn, 1) := by decide +kernel
theorem wS_static : (Jvm.Cond.fieldLink "java/lang/String" 38 "java/lang/String" "COMPACT_STRINGS" "Z") ∈ xTS := xwd_mem (h := 547) (by decide +kernel)
theorem wS_coderF : (Jvm.Cond.fieldLink "java/lang/String" 15 "java/lang/String" "coder" "B") ∈ xTS := xwd_mem (h := 2094) (by decide +kernel)
theorem wS_valueF : (Jvm.Cond.fieldLink "java/lang/String" 9 "java/lang/String" "value" "[B") ∈ xTS := xwd_mem (h := 2093) (by decide +kernel)
theorem wS_ini : (Jvm.Cond.initialized "java/lang/String") ∈ xTS := xwd_mem (h := 147) (by decide +kernel)
theorem wS_ini1 : (Jvm.Cond.initialized "java/lang/StringLatin1") ∈ xTS := xwd_mem (h := 148) (by decide +kernel)
theorem wS_iniP : (Jvm.Cond.initialized "jdk/internal/util/Preconditions") ∈ xTS := xwd_mem (h := 149) (by decide +kernel)
theorem x_coder (d : Nat) : xSM l P L xs ⟨"java/lang/String", "coder", "()B"⟩ prog_16_method_152_code 1 (some .byte) d [.ref P.1.2.2.1] (some (.int 0)) := x_ofS (by decide) (Nat.le_of_ble_eq_true rfl) fun hx hb hml hr hown hlk ev hl => by
  refine va_gets hx hb ev.2.2.2.1.2.2.1 va_S.rf hown (ev.2.1 _ wS_static _) (fun _ h => h) dS_coder0 ?_
  refine lv_if_eq (tgt := 13) hx hb dS_coder3 (by decide) (fun h => absurd h (by decide)) (fun _ => ?_)
  refine lv_aload_n hx hb dS_coder6 rfl (lv_at hl 0 rfl) ?_
  refine vk_getf hx hb (ev.2.2.2.1.1.1 0 (by decide)).2.1 va_S.rf hown (ev.2.1 _ wS_coderF _) (fun _ h => h) dS_coder7 ?_
  refine lv_goto (tgt := 14) hx hb dS_coder10 (by decide) ?_
  exact W.zret (ty := .byte) hx hb hr rfl (fun t ht _ => ⟨rfl, ht⟩) (fun q hq => by cases hq) dS_coder14 hlk
theorem dS_lat0 : decode prog_16_method_154_code 0 = .ok (.getstatic 38, 3) := by decide +kernel
theorem dS_lat3 : decode prog_16_method_154_code 3 = .ok (.ifCond .eq 14, 3) := by decide +kernel
theorem dS_lat6 : decode prog_16_method_154_code 6 = .ok (.aload_n 0, 1) := by decide +kernel
theorem dS_lat7 : decode prog_16_method_154_code 7 = .ok (.getfield 15, 3) := by decide +kernel
theorem dS_lat10 : decode prog_16_method_154_code 10 = .ok (.ifCond .ne 7, 3) := by decide +kernel
theorem dS_lat13 : decode prog_16_method_154_code 13 = .ok (.iconst 1, 1) := by decide +kernel
theorem dS_lat14 : decode prog_16_method_154_code 14 = .ok (.goto 4, 3) := by decide +kernel
theorem dS_lat18 : decode prog_16_method_154_code 18 = .ok (.ireturn, 1) := by decide +kernel
theorem x_latin (d : Nat) : xSM l P L xs ⟨"java/lang/String", "isLatin1", "()Z"⟩ prog_16_method_154_code 1 (some .boolean) d [.ref P.1.2.2.1] (some (.int 1)) := x_ofS (by decide) (Nat.le_of_ble_eq_true rfl) fun hx hb hml hr hown hlk ev hl => by
  refine va_gets hx hb ev.2.2.2.1.2.2.1 va_S.rf hown (ev.2.1 _ wS_static _) (fun _ h => h) dS_lat0 ?_
  refine lv_if_eq (tgt := 17) hx hb dS_lat3 (by decide) (fun h => absurd h (by decide)) (fun _ => ?_)
  refine lv_aload_n hx hb dS_lat6 rfl (lv_at hl 0 rfl) ?_
  refine vk_getf hx hb (ev.2.2.2.1.1.1 0 (by decide)).2.1 va_S.rf hown (ev.2.1 _ wS_coderF _) (fun _ h => h) dS_lat7 ?_
  refine lv_if_ne (tgt := 17) hx hb dS_lat10 (by decide) (fun h => absurd rfl h) (fun _ => ?_)
  refine lv_iconst (v := 1) hx hb dS_lat13 (by decide) ?_
  refine lv_goto (tgt := 18) hx hb dS_lat14 (by decide) ?_
  exact W.zret (ty := .boolean) hx hb hr rfl (fun t ht _ => ⟨rfl, ht⟩) (fun q hq => by cases hq) dS_lat18 hlk
theorem dS_len0 : decode prog_16_method_54_code 0 = .ok (.aload_n 0, 1) := by decide +kernel
theorem dS_len1 : decode prog_16_method_54_code 1 = .ok (.getfield 9, 3) := by decide +kernel
theorem dS_len4 : decode prog_16_method_54_code 4 = .ok (.arraylength, 1) := by decide +kernel
theorem dS_len5 : decode prog_16_method_54_code 5 = .ok (.aload_n 0, 1) := by decide +kernel
theorem dS_len6 : decode prog_16_method_54_code 6 = .ok (.invokevirtual 335, 3) := by decide +kernel
theorem dS_len9 : decode prog_16_method_54_code 9 = .ok (.ishr, 1) := by decide +kernel
theorem dS_len10 : decode prog_16_method_54_code 10 = .ok (.ireturn, 1) := by decide +kernel
theorem wS_coder1 : (Jvm.Cond.methodLink "java/lang/String" 335 ⟨"java/lang/String", "coder", "()B"⟩) ∈ xTS := xwd_mem (h := 543) (by decide +kernel)
theorem wS_coder2 : (Jvm.Cond.instanceMethod ⟨"java/lang/String", "coder", "()B"⟩) ∈ xTS := xwd_mem (h := 544) (by decide +kernel)
theorem wS_coder3 : (Jvm.Cond.selects "java/lang/String" ⟨"java/lang/String", "coder", "()B"⟩ ⟨"java/lang/String", "coder", "()B"⟩) ∈ xTS := xwd_mem (h := 545) (by decide +kernel)
theorem wS_coder4 : (Jvm.Cond.code ⟨"java/lang/String", "coder", "()B"⟩ prog_16_method_152_code 1 (some .byte)) ∈ xTS := xwd_mem (h := 546) (by decide +kernel)
theorem x_length (d : Nat) : xSM l P L xs ⟨"java/lang/String", "length", "()I"⟩ prog_16_method_54_code 1 (some .int) (d + 1) [.ref P.1.2.2.1] (some (.int 94)) := x_ofS (by decide) (Nat.le_of_ble_eq_true rfl) fun {p e s m below meth c lsS} hx hb hml hr hown hlk ev hl => by
  refine lv_aload_n hx hb dS_len0 rfl (lv_at hl 0 rfl) ?_
  refine vk_getf hx hb (ev.2.2.2.1.1.1 0 (by decide)).2.2.1 va_S.rf hown (ev.2.1 _ wS_valueF _) (fun _ h => h) dS_len1 ?_
  refine va_tlen (v := 94) hx hb (ev.2.2.2.1.1.1 0 (by decide)).2.2.2 va_S.rf (by decide) dS_len4 ?_
  refine lv_aload_n hx hb dS_len5 rfl (lv_at hl 0 rfl) ?_
  refine x_scall (v := some (.int 0)) (rest := [.int 94]) (va_runV (C := "java/lang/String") (n := 0) (As := []) (b := P.1.2.2.1) (Ts := xTS) ⟨hx, hb, hml, hown, fun w hw => ev.2.1 w hw _⟩ (x_coder d) ⟨x_sB ev (Nat.le_refl _) (Nat.le_refl _) (by decide) wS_coder4 wS_ini wS_coder1 (by decide) (by decide +kernel), ev.2.1 _ wS_coder2 _, ev.2.1 _ wS_coder3 _⟩ ⟨xSPc_blind, vk_recv (i := 0) ev.2.2.2.1.1 (by decide) va_S.rf, x_sP ev va_S.rf⟩ rfl rfl hl.1 rfl (by show 2 * 0 + 1 ≤ 8; decide) dS_len6 ⟨Nat.le_refl _, Nat.le_refl _⟩) ?_
  refine lv_ishr hx hb dS_len9 ?_
  rw [show (94 : Int32) >>> ((0 : Int32) &&& 31) = 94 by decide]
  exact W.iret hx hb hr (fun t ht _ => ⟨rfl, ht⟩) (fun q hq => by cases hq) dS_len10 hlk
theorem dS_pc0 : decode prog_21_method_11_code 0 = .ok (.iload_n 0, 1) := by decide +kernel
theorem dS_pc1 : decode prog_21_method_11_code 1 = .ok (.ifCond .lt 8, 3) := by decide +kernel
theorem dS_pc4 : decode prog_21_method_11_code 4 = .ok (.iload_n 0, 1) := by decide +kernel
theorem dS_pc5 : decode prog_21_method_11_code 5 = .ok (.iload_n 1, 1) := by decide +kernel
theorem dS_pc6 : decode prog_21_method_11_code 6 = .ok (.if_icmp .lt 10, 3) := by decide +kernel
theorem dS_pc16 : decode prog_21_method_11_code 16 = .ok (.iload_n 0, 1) := by decide +kernel
theorem dS_pc17 : decode prog_21_method_11_code 17 = .ok (.ireturn, 1) := by decide +kernel
theorem x_pcheck (d : Nat) {k : Int32} (hk : vp_in k 94) {fv : Value} (hf : fv = .null ∨ ∃ t, fv = .ref t) : xSM l P L xs ⟨"jdk/internal/util/Preconditions", "checkIndex", "(IILjava/util/function/BiFunction;)I"⟩ prog_21_method_11_code 3 (some .int) d [.int k, .int 94, fv] (some (.int k)) := x_ofS (by decide) (by rcases hf with rfl | ⟨t, rfl⟩ <;> exact Nat.le_of_ble_eq_true rfl) fun hx hb hml hr hown hlk ev hl => by
  have h0 : ¬ k < 0 := fun z => hk (Or.inl z)
  have h1 : k < 94 := by
    obtain ⟨j, hj, rfl⟩ := vp_in_of hk (by decide)
    exact nI_lt (b := 94) hj (by decide)
  refine lv_iload_n hx hb dS_pc0 rfl (lv_at hl 0 rfl) ?_
  refine lv_if_lt (tgt := 9) hx hb dS_pc1 (by decide) (fun h => absurd h h0) (fun _ => ?_)
  refine lv_iload_n hx hb dS_pc4 rfl (lv_at hl 0 rfl) ?_
  refine lv_iload_n hx hb dS_pc5 rfl (lv_at hl 1 rfl) ?_
  refine lv_icmp_lt (tgt := 16) hx hb dS_pc6 (by decide) (fun _ => ?_) (fun h => absurd h1 h)
  refine lv_iload_n hx hb dS_pc16 rfl (lv_at hl 0 rfl) ?_
  exact W.iret hx hb hr (fun t ht _ => ⟨rfl, ht⟩) (fun q hq => by cases hq) dS_pc17 hlk
theorem dS_ci0 : decode prog_16_method_155_code 0 = .ok (.iload_n 0, 1) := by decide +kernel
theorem dS_ci1 : decode prog_16_method_155_code 1 = .ok (.iload_n 1, 1) := by decide +kernel
theorem dS_ci2 : decode prog_16_method_155_code 2 = .ok (.getstatic 1053, 3) := by decide +kernel
theorem dS_ci5 : decode prog_16_method_155_code 5 = .ok (.invokestatic 1059, 3) := by decide +kernel
theorem dS_ci8 : decode prog_16_method_155_code 8 = .ok (.pop, 1) := by decide +kernel
theorem dS_ci9 : decode prog_16_method_155_code 9 = .ok (.return_, 1) := by decide +kernel
theorem wS_fmt : (Jvm.Cond.fieldLink "java/lang/String" 1053 "jdk/internal/util/Preconditions" "SIOOBE_FORMATTER" "Ljava/util/function/BiFunction;") ∈ xTS := xwd_mem (h := 563) (by decide +kernel)
theorem wS_pc1 : (Jvm.Cond.methodLink "java/lang/String" 1059 ⟨"jdk/internal/util/Preconditions", "checkIndex", "(IILjava/util/function/BiFunction;)I"⟩) ∈ xTS := xwd_mem (h := 565) (by decide +kernel)
theorem wS_pc2 : (Jvm.Cond.static ⟨"jdk/internal/util/Preconditions", "checkIndex", "(IILjava/util/function/BiFunction;)I"⟩) ∈ xTS := xwd_mem (h := 566) (by decide +kernel)
theorem wS_pc3 : (Jvm.Cond.code ⟨"jdk/internal/util/Preconditions", "checkIndex", "(IILjava/util/function/BiFunction;)I"⟩ prog_21_method_11_code 3 (some .int)) ∈ xTS := xwd_mem (h := 567) (by decide +kernel)
theorem x_scheck (d : Nat) {k : Int32} (hk : vp_in k 94) : xSM l P L xs ⟨"java/lang/String", "checkIndex", "(II)V"⟩ prog_16_method_155_code 2 none (d + 1) [.int k, .int 94] none := x_ofS (by decide) (Nat.le_of_ble_eq_true rfl) fun {p e s m below meth c lsS} hx hb hml hr hown hlk ev hl => by
  refine lv_iload_n hx hb dS_ci0 rfl (lv_at hl 0 rfl) ?_
  refine lv_iload_n hx hb dS_ci1 rfl (lv_at hl 1 rfl) ?_
  have go : ∀ fv : Value, (fv = .null ∨ ∃ t, fv = .ref t) → va_Z "jdk/internal/util/Preconditions" "SIOOBE_FORMATTER" "Ljava/util/function/BiFunction;" fv (xA P) s s.heap → W p l e (xSR (d + 1)) s m [Value.int k, .int 94].toArray below meth c s.heap [] 0 0 (MQ below (xSQ none) [Value.int k, .int 94].toArray s 0 0 (fun _ => False)) (F0 m 2 lsS [.int 94, .int k]) := by
    intro fv hf hZ
    refine va_gets hx hb hZ va_S.rf hown (ev.2.1 _ wS_fmt _) (fun _ h => h) dS_ci2 ?_
    refine x_scall (v := some (.int k)) (rest := []) (va_runS (n := 3) (As := [.int k, .int 94, fv]) (Ts := xTS) ⟨hx, hb, hml, hown, fun w hw => ev.2.1 w hw _⟩ (x_pcheck d hk hf) ⟨x_sB ev (Nat.le_refl _) (Nat.le_refl _) (by decide) wS_pc3 wS_iniP wS_pc1 (by decide) (by decide +kernel), ev.2.1 _ wS_pc2 _⟩ ⟨xSPc_blind, x_sP ev va_S.rf⟩ rfl rfl hl.1 rfl (by show 2 * 0 + 0 ≤ 8; decide) dS_ci5 ⟨Nat.le_refl _, Nat.le_refl _⟩) ?_
    refine lv_pop hx hb dS_ci8 rfl ?_
    exact W.vret hx hb hr (fun t ht _ => ⟨rfl, ht⟩) (fun q hq => by cases hq) dS_ci9 hlk
  rcases ev.2.2.2.1.2.2.2 with hZ | ⟨t, hZ⟩
  · exact go .null (Or.inl rfl) hZ
  · exact go (.ref t) (Or.inr ⟨t, rfl⟩) hZ
theorem dS_lc0 : decode prog_17_method_2_code 0 = .ok (.iload_n 1, 1) := by decide +kernel
theorem dS_lc1 : decode prog_17_method_2_code 1 = .ok (.aload_n 0, 1) := by decide +kernel
theorem dS_lc2 : decode prog_17_method_2_code 2 = .ok (.arraylength, 1) := by decide +kernel
theorem dS_lc3 : decode prog_17_method_2_code 3 = .ok (.invokestatic 9, 3) := by decide +kernel
theorem dS_lc6 : decode prog_17_method_2_code 6 = .ok (.aload_n 0, 1) := by decide +kernel
theorem dS_lc7 : decode prog_17_method_2_code 7 = .ok (.iload_n 1, 1) := by decide +kernel
theorem dS_lc8 : decode prog_17_method_2_code 8 = .ok (.baload, 1) := by decide +kernel
theorem dS_lc9 : decode prog_17_method_2_code 9 = .ok (.sipush 255, 3) := by decide +kernel
theorem dS_lc12 : decode prog_17_method_2_code 12 = .ok (.iand, 1) := by decide +kernel
theorem dS_lc13 : decode prog_17_method_2_code 13 = .ok (.i2c, 1) := by decide +kernel
theorem dS_lc14 : decode prog_17_method_2_code 14 = .ok (.ireturn, 1) := by decide +kernel
theorem wS_ci1 : (Jvm.Cond.methodLink "java/lang/StringLatin1" 9 ⟨"java/lang/String", "checkIndex", "(II)V"⟩) ∈ xTS := xwd_mem (h := 560) (by decide +kernel)
theorem wS_ci2 : (Jvm.Cond.static ⟨"java/lang/String", "checkIndex", "(II)V"⟩) ∈ xTS := xwd_mem (h := 561) (by decide +kernel)
theorem wS_ci3 : (Jvm.Cond.code ⟨"java/lang/String", "checkIndex", "(II)V"⟩ prog_16_method_155_code 2 none) ∈ xTS := xwd_mem (h := 562) (by decide +kernel)
theorem xtext_all : xtext.all (fun b => decide (b &&& 255 = b)) = true := by decide +kernel
theorem xchar_255 (k : Int32) : xchar k &&& 255 = xchar k := by
  unfold xchar
  rw [List.getD_eq_getElem?_getD]
  cases h : xtext[xIx k]? with
  | none => decide
  | some b => exact of_decide_eq_true (List.all_eq_true.mp xtext_all b (List.mem_of_getElem? h))
theorem xchar_nar (k : Int32) : narrow .char (.int (xchar k)) = .int (xchar k) := by
  have h := sc_nar (xchar k)
  rw [xchar_255] at h
  exact h
theorem x_lchar (d : Nat) {k : Int32} (hk : vp_in k 94) : xSM l P L xs ⟨"java/lang/StringLatin1", "charAt", "([BI)C"⟩ prog_17_method_2_code 2 (some .char) (d + 2) [.ref P.1.2.2.2, .int k] (some (.int (xchar k))) := x_ofS (by decide) (Nat.le_of_ble_eq_true rfl) fun {p e s m below meth c lsS} hx hb hml hr hown hlk ev hl => by
  have hT := (ev.2.2.2.1.1.1 0 (by decide)).2.2.2
  refine lv_iload_n hx hb dS_lc0 rfl (lv_at hl 1 rfl) ?_
  refine lv_aload_n hx hb dS_lc1 rfl (lv_at hl 0 rfl) ?_
  refine va_tlen (v := 94) hx hb hT va_S.rf (by decide) dS_lc2 ?_
  refine x_scall (v := none) (rest := []) (va_runS (n := 2) (As := [.int k, .int 94]) (Ts := xTS) ⟨hx, hb, hml, hown, fun w hw => ev.2.1 w hw _⟩ (x_scheck d hk) ⟨x_sB ev (Nat.le_refl _) (Nat.le_refl _) (by decide) wS_ci3 wS_ini wS_ci1 (by decide) (by decide +kernel), ev.2.1 _ wS_ci2 _⟩ ⟨xSPc_blind, x_sP ev va_S.rf⟩ rfl rfl hl.1 rfl (by show 2 * 0 + 0 ≤ 8; decide) dS_lc3 ⟨Nat.le_refl _, Nat.le_refl _⟩) ?_
  refine lv_aload_n hx hb dS_lc6 rfl (lv_at hl 0 rfl) ?_
  refine lv_iload_n hx hb dS_lc7 rfl (lv_at hl 1 rfl) ?_
  refine va_tb (v := .int (xchar k)) hx hb hT va_S.rf hk rfl dS_lc8 ?_
  refine lv_sipush (v := 255) hx hb dS_lc9 (by decide) ?_
  refine lv_iand hx hb dS_lc12 ?_
  refine lv_i2c hx hb dS_lc13 (sc_c2 (xchar k)) ?_
  rw [xchar_255]
  exact W.zret (ty := .char) hx hb hr (xchar_nar k) (fun t ht _ => ⟨rfl, ht⟩) (fun q hq => by cases hq) dS_lc14 hlk
theorem dS_ca0 : decode prog_16_method_56_code 0 = .ok (.aload_n 0, 1) := by decide +kernel
theorem dS_ca1 : decode prog_16_method_56_code 1 = .ok (.invokevirtual 492, 3) := by decide +kernel
theorem dS_ca4 : decode prog_16_method_56_code 4 = .ok (.ifCond .eq 12, 3) := by decide +kernel
theorem dS_ca7 : decode prog_16_method_56_code 7 = .ok (.aload_n 0, 1) := by decide +kernel
theorem dS_ca8 : decode prog_16_method_56_code 8 = .ok (.getfield 9, 3) := by decide +kernel
theorem dS_ca11 : decode prog_16_method_56_code 11 = .ok (.iload_n 1, 1) := by decide +kernel
theorem dS_ca12 : decode prog_16_method_56_code 12 = .ok (.invokestatic 495, 3) := by decide +kernel
theorem dS_ca15 : decode prog_16_method_56_code 15 = .ok (.ireturn, 1) := by decide +kernel
theorem wS_lat1 : (Jvm.Cond.methodLink "java/lang/String" 492 ⟨"java/lang/String", "isLatin1", "()Z"⟩) ∈ xTS := xwd_mem (h := 553) (by decide +kernel)
theorem wS_lat2 : (Jvm.Cond.instanceMethod ⟨"java/lang/String", "isLatin1", "()Z"⟩) ∈ xTS := xwd_mem (h := 554) (by decide +kernel)
theorem wS_lat3 : (Jvm.Cond.selects "java/lang/String" ⟨"java/lang/String", "isLatin1", "()Z"⟩ ⟨"java/lang/String", "isLatin1", "()Z"⟩) ∈ xTS := xwd_mem (h := 555) (by decide +kernel)
theorem wS_lat4 : (Jvm.Cond.code ⟨"java/lang/String", "isLatin1", "()Z"⟩ prog_16_method_154_code 1 (some .boolean)) ∈ xTS := xwd_mem (h := 556) (by decide +kernel)
theorem wS_lc1 : (Jvm.Cond.methodLink "java/lang/String" 495 ⟨"java/lang/StringLatin1", "charAt", "([BI)C"⟩) ∈ xTS := xwd_mem (h := 557) (by decide +kernel)
theorem wS_lc2 : (Jvm.Cond.static ⟨"java/lang/StringLatin1", "charAt", "([BI)C"⟩) ∈ xTS := xwd_mem (h := 558) (by decide +kernel)
theorem wS_lc3 : (Jvm.Cond.code ⟨"java/lang/StringLatin1", "charAt", "([BI)C"⟩ prog_17_method_2_code 2 (some .char)) ∈ xTS := xwd_mem (h := 559) (by decide +kernel)
theorem x_charAt (d : Nat) {k : Int32} (hk : vp_in k 94) : xSM l P L xs ⟨"java/lang/String", "charAt", "(I)C"⟩ prog_16_method_56_code 2 (some .char) (d + 3) [.ref P.1.2.2.1, .int k] (some (.int (xchar k))) := x_ofS (by decide) (Nat.le_of_ble_eq_true rfl) fun {p e s m below meth c lsS} hx hb hml hr hown hlk ev hl => by
  refine lv_aload_n hx hb dS_ca0 rfl (lv_at hl 0 rfl) ?_
  refine x_scall (v := some (.int 1)) (rest := []) (va_runV (C := "java/lang/String") (n := 0) (As := []) (b := P.1.2.2.1) (Ts := xTS) ⟨hx, hb, hml, hown, fun w hw => ev.2.1 w hw _⟩ (x_latin (d + 2)) ⟨x_sB ev (Nat.le_refl _) (Nat.le_refl _) (by decide) wS_lat4 wS_ini wS_lat1 (by decide) (by decide +kernel), ev.2.1 _ wS_lat2 _, ev.2.1 _ wS_lat3 _⟩ ⟨xSPc_blind, vk_recv (i := 0) ev.2.2.2.1.1 (by decide) va_S.rf, x_sP ev va_S.rf⟩ rfl rfl hl.1 rfl (by show 2 * 0 + 0 ≤ 8; decide) dS_ca1 ⟨Nat.le_refl _, Nat.le_refl _⟩) ?_
  refine lv_if_eq (tgt := 16) hx hb dS_ca4 (by decide) (fun h => absurd h (by decide)) (fun _ => ?_)
  refine lv_aload_n hx hb dS_ca7 rfl (lv_at hl 0 rfl) ?_
  refine vk_getf hx hb (ev.2.2.2.1.1.1 0 (by decide)).2.2.1 va_S.rf hown (ev.2.1 _ wS_valueF _) (fun _ h => h) dS_ca8 ?_
  refine lv_iload_n hx hb dS_ca11 rfl (lv_at hl 1 rfl) ?_
  refine x_scall (v := some (.int (xchar k))) (rest := []) (va_runS (n := 2) (As := [.ref P.1.2.2.2, .int k]) (Ts := xTS) ⟨hx, hb, hml, hown, fun w hw => ev.2.1 w hw _⟩ (x_lchar d hk) ⟨x_sB ev (Nat.le_refl _) (Nat.le_refl _) (by decide) wS_lc3 wS_ini1 wS_lc1 (by decide) (by decide +kernel), ev.2.1 _ wS_lc2 _⟩ ⟨xSPc_blind, x_sP ev va_S.rf⟩ rfl rfl hl.1 rfl (by show 2 * 0 + 0 ≤ 8; decide) dS_ca12 ⟨Nat.le_refl _, Nat.le_refl _⟩) ?_
  exact W.zret (ty := .char) hx hb hr (xchar_nar k) (fun t ht _ => ⟨rfl, ht⟩) (fun q hq => by cases hq) dS_ca15 hlk
theorem wS_l1 : (Jvm.Cond.instanceMethod ⟨"java/lang/String", "length", "()I"⟩) ∈ xTS := xwd_mem (h := 540) (by decide +kernel)
theorem wS_l2 : (Jvm.Cond.selects "java/lang/String" ⟨"java/lang/String", "length", "()I"⟩ ⟨"java/lang/String", "length", "()I"⟩) ∈ xTS := xwd_mem (h := 541) (by decide +kernel)
theorem wS_l3 : (Jvm.Cond.code ⟨"java/lang/String", "length", "()I"⟩ prog_16_method_54_code 1 (some .int)) ∈ xTS := xwd_mem (h := 542) (by decide +kernel)
theorem wS_c1 : (Jvm.Cond.instanceMethod ⟨"java/lang/String", "charAt", "(I)C"⟩) ∈ xTS := xwd_mem (h := 550) (by decide +kernel)
theorem wS_c2 : (Jvm.Cond.selects "java/lang/String" ⟨"java/lang/String", "charAt", "(I)C"⟩ ⟨"java/lang/String", "charAt", "(I)C"⟩) ∈ xTS := xwd_mem (h := 551) (by decide +kernel)
theorem wS_c3 : (Jvm.Cond.code ⟨"java/lang/String", "charAt", "(I)C"⟩ prog_16_method_56_code 2 (some .char)) ∈ xTS := xwd_mem (h := 552) (by decide +kernel)
theorem x_str : xStrMet l P L xs := by
  intro mi d i pc q p e R s m args below meth c H locs cells slots Q lsS rest fr ev hS hsz hsm hc1 hc2
  have f1 := fr.2.2.2.2.2.2.2.2.1
  have f2 := fr.2.2.2.2.2.2.2.2.2
  refine ⟨fun wl hdec kk => ?_, fun wl hdec k hk kk => ?_⟩
  · exact x_scall (v := some (.int 94)) (rest := rest) (va_runV (C := "java/lang/String") (n := 0) (As := []) (b := P.1.2.2.1) (Ts := xTS) ⟨fr.2.1, fr.2.2.1, fr.2.2.2.1, fr.2.2.2.2.2.1, fun w hw => ev.2.1 w hw _⟩ (x_length d) ⟨x_sB ev (by omega) (by omega) (by decide) wS_l3 wS_ini wl (by decide) (by decide +kernel), ev.2.1 _ wS_l1 _, ev.2.1 _ wS_l2 _⟩ ⟨xSPc_blind, vk_recv (i := 0) ev.2.2.2.1.1 (by decide) hS, x_sP ev hS⟩ rfl rfl hsz rfl (by show 2 * 0 + _ ≤ 8; omega) hdec ⟨hc1, hc2⟩) kk
  · exact x_scall (v := some (.int (xchar k))) (rest := rest) (va_runV (C := "java/lang/String") (n := 1) (As := [.int k]) (b := P.1.2.2.1) (Ts := xTS) ⟨fr.2.1, fr.2.2.1, fr.2.2.2.1, fr.2.2.2.2.2.1, fun w hw => ev.2.1 w hw _⟩ (x_charAt d hk) ⟨x_sB ev (by omega) (by omega) (by decide) wS_c3 wS_ini wl (by decide) (by decide +kernel), ev.2.1 _ wS_c1 _, ev.2.1 _ wS_c2 _⟩ ⟨xSPc_blind, vk_recv (i := 0) ev.2.2.2.1.1 (by decide) hS, x_sP ev hS⟩ rfl rfl hsz rfl (by show 2 * 0 + _ ≤ 8; omega) hdec ⟨hc1, hc2⟩) kk
end TEXT
