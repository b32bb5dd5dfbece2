/-! ===== what a method answers; both calls of the law ===== -/
def okv (k : Nat) (v : Option Value) : Prop := (k = 1 ∨ k = 2 → ∃ x : Int32, v = some (.int x)) ∧ (k = 3 → ∃ x : Int64, v = some (.long x))
theorem xcond_eb {ρ : Type} {r : ρ} {P : Prop} {b : Bool} {x y : Option ρ} (h : cond b x y = some r) (hx : b = true → x = some r → P) (hy : y = some r → P) : P := by
  cases b with
  | true => exact hx rfl h
  | false => exact hy h
theorem xins_rt {F : xSt → Option xRes} {mi : Nat} (hF : ∀ (d pc : Nat) (ls : xLs) (st : List Value) (M : xMem) (r : xRes), F (d, mi, pc, ls, st, M) = some r → okv (xRT mi) r.1) {E : xEnt} {d pc : Nat} {ls : xLs} {st : List Value} {M : xMem} {r : xRes} (h : xins xDC xML xRT F F E d mi pc ls st M = some r) : okv (xRT mi) r.1 := by
  have retI : ∀ {x : Int32}, (xRT mi = 1 ∨ xRT mi = 2) → some (some (.int x), M) = some r → okv (xRT mi) r.1 := by
    intro x g hv
    cases hv
    exact ⟨fun _ => ⟨x, rfl⟩, fun z => by omega⟩
  have retL : ∀ {x : Int64}, xRT mi = 3 → some (some (.long x), M) = some r → okv (xRT mi) r.1 := by
    intro x g hv
    cases hv
    exact ⟨fun z => by omega, fun _ => ⟨x, rfl⟩⟩
  have retN : ∀ {v : Option Value}, ¬ (xRT mi = 1 ∨ xRT mi = 2 ∨ xRT mi = 3) → some (v, M) = some r → okv (xRT mi) r.1 := by
    intro v g hv
    cases hv
    exact ⟨fun z => by omega, fun z => by omega⟩
  obtain ⟨ins, len, a, b, hh, cst, lcst⟩ := E
  cases ins
  case putfield i =>
    unfold xins at h
    dsimp only at h
    split at h
    · exact xsh_e h fun s h => xif_e h fun hb h => by
        split at h
        · exact (hF _ _ _ _ _ _ h)
        · cases h
    · exact xsh_e h fun s h => xif_e h fun hb h => by
        split at h
        · exact (hF _ _ _ _ _ _ h)
        · cases h
    · exact xsh_e h fun s h => xif_e h fun hb h => by
        split at h
        · exact (hF _ _ _ _ _ _ h)
        · cases h
    · cases h
  case getfield i =>
    exact xpR_e h fun _ _ h => xsh_e h fun s h => xif_e h fun _ h => by
      split at h <;> first | exact hF _ _ _ _ _ _ h | (cases h; done)
  case invokevirtual i =>
    cases d with
    | zero => cases h
    | succ d' => exact xcond_e h (fun h => xpR_e h fun _ _ h => xif_e h fun _ h => hF _ _ _ _ _ _ h) (fun h => xcond_e h (fun h => xpRI_e h fun _ _ _ h => xif_e h fun _ h => xif_e h fun _ h => hF _ _ _ _ _ _ h) (fun h => xpN_e _ _ _ h fun _ _ h => xpR_e h fun _ _ h => xsh_e h fun _ h => xif_e h fun _ h => xbind_e h fun _ _ h => hF _ _ _ _ _ _ h))
  case invokespecial i =>
    cases d with
    | zero => cases h
    | succ d' => exact xcond_e h (fun h => xpR_e h fun _ _ h => xif_e h fun _ h => hF _ _ _ _ _ _ h) (fun h => xpN_e _ _ _ h fun _ _ h => xpR_e h fun _ _ h => xif_e h fun _ h => xbind_e h fun _ _ h => hF _ _ _ _ _ _ h)
  case invokestatic i =>
    cases d with
    | zero => cases h
    | succ d' => exact xcond_e h (fun h => xpC_e h fun _ _ _ _ _ _ h => xrow_e h fun _ h => xrow_e h fun _ h => xif_e h fun hb h => (hF _ _ _ _ _ _ h)) (fun h => xpN_e _ _ _ h fun _ _ h => xif_e h fun _ h => xbind_e h fun _ _ h => hF _ _ _ _ _ _ h)
  case tableswitch => exact xpI_e h fun _ _ h => xsw_e (fun _ h => hF _ _ _ _ _ _ h) _ h
  case lookupswitch => exact xpI_e h fun _ _ h => xsw_e (fun _ h => hF _ _ _ _ _ _ h) _ h
  case ldc => exact xcond_e h (fun h => hF _ _ _ _ _ _ h) (fun h => hF _ _ _ _ _ _ h)
  case ifCond => exact xpI_e h fun _ _ h => xcond_e h (fun h => hF _ _ _ _ _ _ h) (fun h => hF _ _ _ _ _ _ h)
  case if_icmp => exact xpII_e h fun _ _ _ h => xcond_e h (fun h => hF _ _ _ _ _ _ h) (fun h => hF _ _ _ _ _ _ h)
  case iinc => exact xlv_e h fun v h => by cases v <;> first | exact xif_e h fun _ h => hF _ _ _ _ _ _ h | (cases h; done)
  case new => exact (hF _ _ _ _ _ _ h)
  case newarray => exact xpI_e h fun _ _ h => xif_e h fun _ h => (hF _ _ _ _ _ _ h)
  case iastore => exact xpIIR_e h fun _ _ _ _ h => xsh_e h fun _ h => xif_e h fun hb h => xif_e h fun _ h => (hF _ _ _ _ _ _ h)
  case castore => exact xpIIR_e h fun _ _ _ _ h => xsh_e h fun _ h => xif_e h fun hb h => xif_e h fun _ h => (hF _ _ _ _ _ _ h)
  case bastore => exact xpIIR_e h fun _ _ _ _ h => xsh_e h fun _ h => xif_e h fun hb h => xif_e h fun _ h => (hF _ _ _ _ _ _ h)
  case lastore => exact xpLIR_e h fun _ _ _ _ h => xsh_e h fun _ h => xif_e h fun hb h => xif_e h fun _ h => (hF _ _ _ _ _ _ h)
  case dup =>
    unfold xins at h
    dsimp only at h
    split at h <;> first | exact hF _ _ _ _ _ _ h | (cases h; done)
  case dup2 =>
    unfold xins at h
    dsimp only at h
    split at h <;> first | exact hF _ _ _ _ _ _ h | (cases h; done)
  case pop =>
    unfold xins at h
    dsimp only at h
    split at h <;> first | exact hF _ _ _ _ _ _ h | (cases h; done)
  case ireturn =>
    unfold xins at h
    dsimp only at h
    split at h
    · exact xcond_eb h (fun hb h => retI (Or.inl (Nat.eq_of_beq_eq_true hb)) h) (fun h => xif_e h fun hb h => retI (Or.inr (by simp only [Bool.and_eq_true] at hb; exact Nat.eq_of_beq_eq_true hb.1)) h)
    · cases h
  case lreturn =>
    unfold xins at h
    dsimp only at h
    split at h
    · exact xif_e h fun hb h => retL (Nat.eq_of_beq_eq_true hb) h
    · cases h
  case areturn =>
    unfold xins at h
    dsimp only at h
    split at h
    · exact xif_e h fun hb h => retN (by have := Nat.eq_of_beq_eq_true hb; omega) h
    · cases h
  case return_ =>
    unfold xins at h
    dsimp only at h
    split at h
    · exact xif_e h fun hb h => retN (by have := Nat.eq_of_beq_eq_true hb; omega) h
    · cases h
  all_goals first
    | exact hF _ _ _ _ _ _ h
    | (cases h; done)
    | exact xlv_e h fun v h => by cases v <;> first | exact hF _ _ _ _ _ _ h | (cases h; done)
    | exact xpI_e h fun _ _ h => hF _ _ _ _ _ _ h
    | exact xpL_e h fun _ _ h => hF _ _ _ _ _ _ h
    | exact xpII_e h fun _ _ _ h => hF _ _ _ _ _ _ h
    | exact xpLL_e h fun _ _ _ h => hF _ _ _ _ _ _ h
    | exact xpLI_e h fun _ _ _ h => hF _ _ _ _ _ _ h
    | exact xpI_e h fun _ _ h => xif_e h fun _ h => hF _ _ _ _ _ _ h
    | exact xpL_e h fun _ _ h => xif_e h fun _ h => hF _ _ _ _ _ _ h
    | exact xpR_e h fun _ _ h => xif_e h fun _ h => hF _ _ _ _ _ _ h
    | exact xpII_e h fun _ _ _ h => xif_e h fun _ h => hF _ _ _ _ _ _ h
    | exact xpLL_e h fun _ _ _ h => xif_e h fun _ h => hF _ _ _ _ _ _ h
    | exact xpR_e h fun _ _ h => xsh_e h fun _ h => xif_e h fun _ h => hF _ _ _ _ _ _ h
    | exact xpRI_e h fun _ _ _ h => xsh_e h fun _ h => xif_e h fun _ h => xif_e h fun _ h => hF _ _ _ _ _ _ h
theorem xR_rt : ∀ (n d mi pc : Nat) (ls : xLs) (st : List Value) (M : xMem) (r : xRes), xR n (d, mi, pc, ls, st, M) = some r → okv (xRT mi) r.1 := by
  intro n
  induction n with
  | zero => intro d mi pc ls st M r h; cases h
  | succ n ih =>
    intro d mi pc ls st M r h
    unfold xR xrun at h
    cases hE : xcode mi pc with
    | none => rw [hE] at h; cases h
    | some E =>
      rw [hE] at h
      dsimp only at h
      exact xins_rt (fun d pc ls st M r h => ih d mi pc ls st M r h) h
theorem WP.ans {d mi pc : Nat} {ls : xLs} {st : List Value} {M : xMem} {Q : Option Value → xMem → Prop} (w : WP (d, mi, pc, ls, st, M) Q) (hl : 1 ≤ M.1.length) : WP (d, mi, pc, ls, st, M) (fun v M' => Q v M' ∧ M'.2.1 0 = M.2.1 0 ∧ okv (xRT mi) v) := by
  obtain ⟨n, v, M', h1, h2⟩ := w
  exact ⟨n, v, M', h1, h2, (xR_kp _ _ _ _ _ _ _ _ h1 hl).1, xR_rt _ _ _ _ _ _ _ _ h1⟩
theorem Call.int {L d cx cm dr tl : Nat} {ax am : List Value} {S : aS} {I : Nat → Nat → Int32} {J : Nat → Nat → Int64} {R : Int32 → Nat → Nat → (Nat → Nat → Int32) → (Nat → Nat → Int64) → Prop} (hc : Call L d cx cm ax am S) (q1 : CInv S dr tl I J) (q2 : MInv S I J) (hr : xRT cx = 1 ∨ xRT cx = 2) (K : ∀ (r : Int32) (dr' tl' : Nat) (I1 : Nat → Nat → Int32) (J1 : Nat → Nat → Int64), I1 0 = I 0 → WP (d, cm, 0, xent (.ref 71 :: am) (xML cm), [], (xSH L dr' tl', I1, J1)) (fun v2 M2 => ∃ (S' : aS) (I2 : Nat → Nat → Int32) (J2 : Nat → Nat → Int64), v2 = some (.int r) ∧ M2 = (xSH L dr' tl', I2, J2) ∧ CInv S' dr' tl' I2 J2 ∧ MInv S' I2 J2) → R r dr' tl' I1 J1) : WP (d, cx, 0, xent (.ref 2 :: ax) (xML cx), [], (xSH L dr tl, I, J)) (fun v M => ∃ (r : Int32) (dr' tl' : Nat) (I1 : Nat → Nat → Int32) (J1 : Nat → Nat → Int64), v = some (.int r) ∧ M = (xSH L dr' tl', I1, J1) ∧ R r dr' tl' I1 J1) := by
  refine WP.mono ((hc dr tl I J q1 q2).ans (by show 1 ≤ (xSH L dr tl).length; exact Nat.le_add_left 1 130)) fun v M g => ?_
  obtain ⟨⟨dr', tl', I1, J1, rfl, w⟩, e0, ok⟩ := g
  obtain ⟨r, rfl⟩ := ok.1 hr
  refine ⟨r, dr', tl', I1, J1, rfl, rfl, K r dr' tl' I1 J1 e0 (WP.mono w fun v2 M2 g2 => ?_)⟩
  obtain ⟨rfl, S', I2, J2, rfl, c, m⟩ := g2
  exact ⟨S', I2, J2, rfl, rfl, c, m⟩
theorem Call.lng {L d cx cm dr tl : Nat} {ax am : List Value} {S : aS} {I : Nat → Nat → Int32} {J : Nat → Nat → Int64} {R : Int64 → Nat → Nat → (Nat → Nat → Int32) → (Nat → Nat → Int64) → Prop} (hc : Call L d cx cm ax am S) (q1 : CInv S dr tl I J) (q2 : MInv S I J) (hr : xRT cx = 3) (K : ∀ (r : Int64) (dr' tl' : Nat) (I1 : Nat → Nat → Int32) (J1 : Nat → Nat → Int64), I1 0 = I 0 → WP (d, cm, 0, xent (.ref 71 :: am) (xML cm), [], (xSH L dr' tl', I1, J1)) (fun v2 M2 => ∃ (S' : aS) (I2 : Nat → Nat → Int32) (J2 : Nat → Nat → Int64), v2 = some (.long r) ∧ M2 = (xSH L dr' tl', I2, J2) ∧ CInv S' dr' tl' I2 J2 ∧ MInv S' I2 J2) → R r dr' tl' I1 J1) : WP (d, cx, 0, xent (.ref 2 :: ax) (xML cx), [], (xSH L dr tl, I, J)) (fun v M => ∃ (r : Int64) (dr' tl' : Nat) (I1 : Nat → Nat → Int32) (J1 : Nat → Nat → Int64), v = some (.long r) ∧ M = (xSH L dr' tl', I1, J1) ∧ R r dr' tl' I1 J1) := by
  refine WP.mono ((hc dr tl I J q1 q2).ans (by show 1 ≤ (xSH L dr tl).length; exact Nat.le_add_left 1 130)) fun v M g => ?_
  obtain ⟨⟨dr', tl', I1, J1, rfl, w⟩, e0, ok⟩ := g
  obtain ⟨r, rfl⟩ := ok.2 hr
  refine ⟨r, dr', tl', I1, J1, rfl, rfl, K r dr' tl' I1 J1 e0 (WP.mono w fun v2 M2 g2 => ?_)⟩
  obtain ⟨rfl, S', I2, J2, rfl, c, m⟩ := g2
  exact ⟨S', I2, J2, rfl, rfl, c, m⟩
