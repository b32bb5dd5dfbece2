/-! ===== the law's own row is never written ===== -/
section KEEP
variable {ρ : Type} {r : ρ} {st : List Value} {P : Prop}
theorem xpI_e {k : Int32 → List Value → Option ρ} (h : xpI st k = some r) (hk : ∀ x t, k x t = some r → P) : P := by obtain ⟨x, t, rfl, h⟩ := xpI_inv h; exact hk _ _ h
theorem xpL_e {k : Int64 → List Value → Option ρ} (h : xpL st k = some r) (hk : ∀ x t, k x t = some r → P) : P := by obtain ⟨x, t, rfl, h⟩ := xpL_inv h; exact hk _ _ h
theorem xpII_e {k : Int32 → Int32 → List Value → Option ρ} (h : xpII st k = some r) (hk : ∀ x y t, k x y t = some r → P) : P := by obtain ⟨x, y, t, rfl, h⟩ := xpII_inv h; exact hk _ _ _ h
theorem xpLL_e {k : Int64 → Int64 → List Value → Option ρ} (h : xpLL st k = some r) (hk : ∀ x y t, k x y t = some r → P) : P := by obtain ⟨x, y, t, rfl, h⟩ := xpLL_inv h; exact hk _ _ _ h
theorem xpLI_e {k : Int64 → Int32 → List Value → Option ρ} (h : xpLI st k = some r) (hk : ∀ x y t, k x y t = some r → P) : P := by obtain ⟨x, y, t, rfl, h⟩ := xpLI_inv h; exact hk _ _ _ h
theorem xpR_e {k : Nat → List Value → Option ρ} (h : xpR st k = some r) (hk : ∀ x t, k x t = some r → P) : P := by obtain ⟨x, t, rfl, h⟩ := xpR_inv h; exact hk _ _ h
theorem xpRI_e {k : Nat → Int32 → List Value → Option ρ} (h : xpRI st k = some r) (hk : ∀ x y t, k x y t = some r → P) : P := by obtain ⟨x, y, t, rfl, h⟩ := xpRI_inv h; exact hk _ _ _ h
theorem xpIIR_e {k : Nat → Int32 → Int32 → List Value → Option ρ} (h : xpIIR st k = some r) (hk : ∀ a i x t, k a i x t = some r → P) : P := by obtain ⟨a, i, x, t, rfl, h⟩ := xpIIR_inv h; exact hk _ _ _ _ h
theorem xpLIR_e {k : Nat → Int32 → Int64 → List Value → Option ρ} (h : xpLIR st k = some r) (hk : ∀ a i x t, k a i x t = some r → P) : P := by obtain ⟨a, i, x, t, rfl, h⟩ := xpLIR_inv h; exact hk _ _ _ _ h
theorem xpC_e {k : Int32 → Int32 → Nat → Int32 → Nat → List Value → Option ρ} (h : xpC st k = some r) (hk : ∀ n q b p a t, k n q b p a t = some r → P) : P := by obtain ⟨n, q, b, p, a, t, rfl, h⟩ := xpC_inv h; exact hk _ _ _ _ _ _ h
theorem xif_e {b : Bool} {x : Option ρ} (h : xif b x = some r) (hk : b = true → x = some r → P) : P := by
  cases b with
  | true => exact hk rfl h
  | false => cases h
theorem xsh_e {M : xMem} {a : Nat} {k : xSh → Option ρ} (h : xsh M a k = some r) (hk : ∀ s, k s = some r → P) : P := by
  unfold xsh at h
  cases e : M.1[a]? with
  | none => rw [e] at h; cases h
  | some s => rw [e] at h; exact hk s h
theorem xrow_e {M : xMem} {kd a : Nat} {k : Nat → Option ρ} (h : xrow M kd a k = some r) (hk : ∀ s, k s = some r → P) : P := xsh_e h fun _ h => xif_e h fun _ h => hk _ h
theorem xlv_e {ls : xLs} {i : Nat} {k : Value → Option ρ} (h : xlv ls i k = some r) (hk : ∀ v, k v = some r → P) : P := by
  unfold xlv at h
  split at h
  · exact hk _ h
  · cases h
theorem xpN_e : ∀ (n : Nat) (acc st : List Value) {k : List Value → List Value → Option ρ}, xpN n acc st k = some r → (∀ as t, k as t = some r → P) → P := by
  intro n
  induction n with
  | zero => intro acc st k h hk; exact hk _ _ h
  | succ n ih =>
    intro acc st k h hk
    cases st with
    | nil => cases h
    | cons v t =>
      unfold xpN at h
      dsimp only at h
      cases hv : xok v with
      | false => rw [hv] at h; cases h
      | true => rw [hv, cond_true] at h; exact ih _ _ h hk
theorem xcond_e {b : Bool} {x y : Option ρ} (h : cond b x y = some r) (hx : x = some r → P) (hy : y = some r → P) : P := by
  cases b with
  | true => exact hx h
  | false => exact hy h
theorem xbind_e {α : Type} {x : Option α} {k : α → Option ρ} (h : x.bind k = some r) (hk : ∀ a, x = some a → k a = some r → P) : P := by
  obtain ⟨a, h1, h2⟩ := Option.bind_eq_some_iff.mp h
  exact hk a h1 h2
end KEEP
theorem xsw_e {F : Nat → Option xRes} {x : Int32} {dd : Nat} {r : xRes} {P : Prop} (hF : ∀ t, F t = some r → P) : ∀ qs, xsw F x dd qs = some r → P := by
  intro qs
  induction qs with
  | nil => intro h; exact hF _ h
  | cons q qs ih => intro h; exact xcond_e h (hF _) ih
def kp (M M' : xMem) : Prop := 1 ≤ M.1.length → M'.2.1 0 = M.2.1 0 ∧ 1 ≤ M'.1.length
section KEEP2
variable {M M1 M2 : xMem} {a b k p q n : Nat} {x : Int32} {y : Int64} {s : xSh}
theorem kp_refl : kp M M := fun h => ⟨rfl, h⟩
theorem kp.tr (h : kp M M1) (h' : kp M1 M2) : kp M M2 := fun z => ⟨(h' (h z).2).1.trans (h z).1, (h' (h z).2).2⟩
theorem kp_putI (h : Nat.ble 2 a = true) : kp M (xputI M a k x) := by
  have h2 : 2 ≤ a := Nat.le_of_ble_eq_true h
  exact fun z => ⟨xwI_ne (by omega), z⟩
theorem kp_putJ : kp M (xputJ M a k y) := fun z => ⟨rfl, z⟩
theorem kp_putR : kp M (xputR M a k q) := fun z => ⟨rfl, by
  unfold xputR
  dsimp only
  split
  · rw [List.length_set]; exact z
  · exact z⟩
theorem kp_new : kp M (xnew M s) := fun z => ⟨by
  unfold xnew
  show xzI M.2.1 M.1.length 0 = M.2.1 0
  funext j
  unfold xzI
  have e : Nat.beq 0 M.1.length = false := by
    cases h : Nat.beq 0 M.1.length with
    | false => rfl
    | true => have := Nat.eq_of_beq_eq_true h; omega
  rw [e]; rfl, by
  unfold xnew
  show 1 ≤ (M.1 ++ [s]).length
  rw [List.length_append]; omega⟩
theorem kp_cp (h : Nat.ble 2 b = true) : kp M (M.1, xcpI M.2.1 a p b q n, M.2.2) := by
  have h2 : 2 ≤ b := Nat.le_of_ble_eq_true h
  refine fun z => ⟨?_, z⟩
  show xcpI M.2.1 a p b q n 0 = M.2.1 0
  funext j
  unfold xcpI
  have e : Nat.beq 0 b = false := by
    cases h : Nat.beq 0 b with
    | false => rfl
    | true => have := Nat.eq_of_beq_eq_true h; omega
  rw [e]; rfl
end KEEP2
theorem xins_kp {F : xSt → Option xRes} (hF : ∀ (d mi pc : Nat) (ls : xLs) (st : List Value) (M : xMem) (r : xRes), F (d, mi, pc, ls, st, M) = some r → kp M r.2) {E : xEnt} {d mi pc : Nat} {ls : xLs} {st : List Value} {M : xMem} {r : xRes} (h : xins xDC xML xRT F F E d mi pc ls st M = some r) : kp M r.2 := by
  have hB : ∀ (c : xSt) (g : Option Value × xMem → xSt), c.2.2.2.2.2 = M → (∀ q, (g q).2.2.2.2.2 = q.2) → ((F c).bind fun q => F (g q)) = some r → kp M r.2 := by
    intro c g hc hg hh
    refine xbind_e hh fun a h1 h2 => ?_
    obtain ⟨c1, c2, c3, c4, c5, c6⟩ := c
    have e : c6 = M := hc
    subst e
    have e2 := hg a
    generalize g a = ga at h2 e2
    obtain ⟨g1, g2, g3, g4, g5, g6⟩ := ga
    have e3 : g6 = a.2 := e2
    subst e3
    exact (hF _ _ _ _ _ _ _ h1).tr (hF _ _ _ _ _ _ _ h2)
  have ret : ∀ (v : Option Value), some (v, M) = some r → kp M r.2 := by
    intro v hv
    cases hv
    exact kp_refl
  obtain ⟨ins, len, a, b, hh, cst, lcst⟩ := E
  cases ins
  case putfield i =>
    unfold xins at h
    dsimp only at h
    split at h
    · exact xsh_e h fun s h => xif_e h fun hb h => by
        split at h
        · exact (kp_putI (by simp only [Bool.and_eq_true] at hb; exact hb.1.1.2)).tr (hF _ _ _ _ _ _ _ h)
        · cases h
    · exact xsh_e h fun s h => xif_e h fun hb h => by
        split at h
        · exact kp_putJ.tr (hF _ _ _ _ _ _ _ h)
        · cases h
    · exact xsh_e h fun s h => xif_e h fun hb h => by
        split at h
        · exact kp_putR.tr (hF _ _ _ _ _ _ _ h)
        · cases h
    · cases h
  case getfield i =>
    exact xpR_e h fun _ _ h => xsh_e h fun s h => xif_e h fun _ h => by
      split at h <;> first | exact hF _ _ _ _ _ _ _ h | (cases h; done)
  case invokevirtual i =>
    cases d with
    | zero => cases h
    | succ d' => exact xcond_e h (fun h => xpR_e h fun _ _ h => xif_e h fun _ h => hF _ _ _ _ _ _ _ h) (fun h => xcond_e h (fun h => xpRI_e h fun _ _ _ h => xif_e h fun _ h => xif_e h fun _ h => hF _ _ _ _ _ _ _ h) (fun h => xpN_e _ _ _ h fun _ _ h => xpR_e h fun _ _ h => xsh_e h fun _ h => xif_e h fun _ h => hB _ (fun q => (_, _, _, _, _, q.2)) rfl (fun _ => rfl) h))
  case invokespecial i =>
    cases d with
    | zero => cases h
    | succ d' => exact xcond_e h (fun h => xpR_e h fun _ _ h => xif_e h fun _ h => hF _ _ _ _ _ _ _ h) (fun h => xpN_e _ _ _ h fun _ _ h => xpR_e h fun _ _ h => xif_e h fun _ h => hB _ (fun q => (_, _, _, _, _, q.2)) rfl (fun _ => rfl) h)
  case invokestatic i =>
    cases d with
    | zero => cases h
    | succ d' => exact xcond_e h (fun h => xpC_e h fun _ _ _ _ _ _ h => xrow_e h fun _ h => xrow_e h fun _ h => xif_e h fun hb h => (kp_cp (by simp only [Bool.and_eq_true] at hb; exact hb.1.1.1.1.1.1.2)).tr (hF _ _ _ _ _ _ _ h)) (fun h => xpN_e _ _ _ h fun _ _ h => xif_e h fun _ h => hB _ (fun q => (_, _, _, _, _, q.2)) rfl (fun _ => rfl) h)
  case tableswitch => exact xpI_e h fun _ _ h => xsw_e (fun _ h => hF _ _ _ _ _ _ _ h) _ h
  case lookupswitch => exact xpI_e h fun _ _ h => xsw_e (fun _ h => hF _ _ _ _ _ _ _ h) _ h
  case ldc => exact xcond_e h (fun h => hF _ _ _ _ _ _ _ h) (fun h => hF _ _ _ _ _ _ _ h)
  case ifCond => exact xpI_e h fun _ _ h => xcond_e h (fun h => hF _ _ _ _ _ _ _ h) (fun h => hF _ _ _ _ _ _ _ h)
  case if_icmp => exact xpII_e h fun _ _ _ h => xcond_e h (fun h => hF _ _ _ _ _ _ _ h) (fun h => hF _ _ _ _ _ _ _ h)
  case iinc => exact xlv_e h fun v h => by cases v <;> first | exact xif_e h fun _ h => hF _ _ _ _ _ _ _ h | (cases h; done)
  case new => exact kp_new.tr (hF _ _ _ _ _ _ _ h)
  case newarray => exact xpI_e h fun _ _ h => xif_e h fun _ h => kp_new.tr (hF _ _ _ _ _ _ _ h)
  case iastore => exact xpIIR_e h fun _ _ _ _ h => xsh_e h fun _ h => xif_e h fun hb h => xif_e h fun _ h => (kp_putI (by simp only [Bool.and_eq_true] at hb; exact hb.1)).tr (hF _ _ _ _ _ _ _ h)
  case castore => exact xpIIR_e h fun _ _ _ _ h => xsh_e h fun _ h => xif_e h fun hb h => xif_e h fun _ h => (kp_putI (by simp only [Bool.and_eq_true] at hb; exact hb.1)).tr (hF _ _ _ _ _ _ _ h)
  case bastore => exact xpIIR_e h fun _ _ _ _ h => xsh_e h fun _ h => xif_e h fun hb h => xif_e h fun _ h => (kp_putI (by simp only [Bool.and_eq_true] at hb; exact hb.1)).tr (hF _ _ _ _ _ _ _ h)
  case lastore => exact xpLIR_e h fun _ _ _ _ h => xsh_e h fun _ h => xif_e h fun hb h => xif_e h fun _ h => kp_putJ.tr (hF _ _ _ _ _ _ _ h)
  case dup =>
    unfold xins at h
    dsimp only at h
    split at h <;> first | exact hF _ _ _ _ _ _ _ h | (cases h; done)
  case dup2 =>
    unfold xins at h
    dsimp only at h
    split at h <;> first | exact hF _ _ _ _ _ _ _ h | (cases h; done)
  case pop =>
    unfold xins at h
    dsimp only at h
    split at h <;> first | exact hF _ _ _ _ _ _ _ h | (cases h; done)
  case ireturn =>
    unfold xins at h
    dsimp only at h
    split at h
    · exact xcond_e h (fun h => ret _ h) (fun h => xif_e h fun _ h => ret _ h)
    · cases h
  case lreturn =>
    unfold xins at h
    dsimp only at h
    split at h
    · exact xif_e h fun _ h => ret _ h
    · cases h
  case areturn =>
    unfold xins at h
    dsimp only at h
    split at h
    · exact xif_e h fun _ h => ret _ h
    · cases h
  case return_ =>
    unfold xins at h
    dsimp only at h
    split at h
    · exact xif_e h fun _ h => ret _ h
    · cases h
  all_goals first
    | exact hF _ _ _ _ _ _ _ h
    | (cases h; done)
    | exact xlv_e h fun v h => by cases v <;> first | exact hF _ _ _ _ _ _ _ h | (cases h; done)
    | exact xpI_e h fun _ _ h => hF _ _ _ _ _ _ _ h
    | exact xpL_e h fun _ _ h => hF _ _ _ _ _ _ _ h
    | exact xpII_e h fun _ _ _ h => hF _ _ _ _ _ _ _ h
    | exact xpLL_e h fun _ _ _ h => hF _ _ _ _ _ _ _ h
    | exact xpLI_e h fun _ _ _ h => hF _ _ _ _ _ _ _ h
    | exact xpI_e h fun _ _ h => xif_e h fun _ h => hF _ _ _ _ _ _ _ h
    | exact xpL_e h fun _ _ h => xif_e h fun _ h => hF _ _ _ _ _ _ _ h
    | exact xpR_e h fun _ _ h => xif_e h fun _ h => hF _ _ _ _ _ _ _ h
    | exact xpII_e h fun _ _ _ h => xif_e h fun _ h => hF _ _ _ _ _ _ _ h
    | exact xpLL_e h fun _ _ _ h => xif_e h fun _ h => hF _ _ _ _ _ _ _ h
    | exact xpR_e h fun _ _ h => xsh_e h fun _ h => xif_e h fun _ h => hF _ _ _ _ _ _ _ h
    | exact xpRI_e h fun _ _ _ h => xsh_e h fun _ h => xif_e h fun _ h => xif_e h fun _ h => hF _ _ _ _ _ _ _ h
theorem xR_kp : ∀ (n d mi pc : Nat) (ls : xLs) (st : List Value) (M : xMem) (r : xRes), xR n (d, mi, pc, ls, st, M) = some r → kp M r.2 := by
  intro n
  induction n with
  | zero => intro d mi pc ls st M r h; cases h
  | succ n ih =>
    intro d mi pc ls st M r h
    unfold xR xrun at h
    cases hE : xcode mi pc with
    | none => rw [hE] at h; cases h
    | some E =>
      rw [hE] at h
      dsimp only at h
      exact xins_kp ih h
theorem WP.kept {d mi pc : Nat} {ls : xLs} {st : List Value} {M : xMem} {Q : Option Value → xMem → Prop} (w : WP (d, mi, pc, ls, st, M) Q) (hl : 1 ≤ M.1.length) : WP (d, mi, pc, ls, st, M) (fun v M' => Q v M' ∧ M'.2.1 0 = M.2.1 0) := by
  obtain ⟨n, v, M', h1, h2⟩ := w
  exact ⟨n, v, M', h1, h2, (xR_kp _ _ _ _ _ _ _ _ h1 hl).1⟩
