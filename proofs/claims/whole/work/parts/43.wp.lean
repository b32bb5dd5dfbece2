/-! ===== more steps never harm; walking a run of the evaluator ===== -/
section MONO
variable {ρ : Type} {r : ρ} {st : List Value}
theorem xpI_mono {k k' : Int32 → List Value → Option ρ} (hk : ∀ x t, k x t = some r → k' x t = some r) (h : xpI st k = some r) : xpI st k' = some r := by obtain ⟨x, t, rfl, h⟩ := xpI_inv h; exact hk _ _ h
theorem xpL_mono {k k' : Int64 → List Value → Option ρ} (hk : ∀ x t, k x t = some r → k' x t = some r) (h : xpL st k = some r) : xpL st k' = some r := by obtain ⟨x, t, rfl, h⟩ := xpL_inv h; exact hk _ _ h
theorem xpII_mono {k k' : Int32 → Int32 → List Value → Option ρ} (hk : ∀ x y t, k x y t = some r → k' x y t = some r) (h : xpII st k = some r) : xpII st k' = some r := by obtain ⟨x, y, t, rfl, h⟩ := xpII_inv h; exact hk _ _ _ h
theorem xpLL_mono {k k' : Int64 → Int64 → List Value → Option ρ} (hk : ∀ x y t, k x y t = some r → k' x y t = some r) (h : xpLL st k = some r) : xpLL st k' = some r := by obtain ⟨x, y, t, rfl, h⟩ := xpLL_inv h; exact hk _ _ _ h
theorem xpLI_mono {k k' : Int64 → Int32 → List Value → Option ρ} (hk : ∀ x y t, k x y t = some r → k' x y t = some r) (h : xpLI st k = some r) : xpLI st k' = some r := by obtain ⟨x, y, t, rfl, h⟩ := xpLI_inv h; exact hk _ _ _ h
theorem xpR_mono {k k' : Nat → List Value → Option ρ} (hk : ∀ x t, k x t = some r → k' x t = some r) (h : xpR st k = some r) : xpR st k' = some r := by obtain ⟨x, t, rfl, h⟩ := xpR_inv h; exact hk _ _ h
theorem xpRI_mono {k k' : Nat → Int32 → List Value → Option ρ} (hk : ∀ x y t, k x y t = some r → k' x y t = some r) (h : xpRI st k = some r) : xpRI st k' = some r := by obtain ⟨x, y, t, rfl, h⟩ := xpRI_inv h; exact hk _ _ _ h
theorem xpIIR_mono {k k' : Nat → Int32 → Int32 → List Value → Option ρ} (hk : ∀ a i x t, k a i x t = some r → k' a i x t = some r) (h : xpIIR st k = some r) : xpIIR st k' = some r := by obtain ⟨a, i, x, t, rfl, h⟩ := xpIIR_inv h; exact hk _ _ _ _ h
theorem xpLIR_mono {k k' : Nat → Int32 → Int64 → List Value → Option ρ} (hk : ∀ a i x t, k a i x t = some r → k' a i x t = some r) (h : xpLIR st k = some r) : xpLIR st k' = some r := by obtain ⟨a, i, x, t, rfl, h⟩ := xpLIR_inv h; exact hk _ _ _ _ h
theorem xpC_mono {k k' : Int32 → Int32 → Nat → Int32 → Nat → List Value → Option ρ} (hk : ∀ n q b p a t, k n q b p a t = some r → k' n q b p a t = some r) (h : xpC st k = some r) : xpC st k' = some r := by obtain ⟨n, q, b, p, a, t, rfl, h⟩ := xpC_inv h; exact hk _ _ _ _ _ _ h
theorem xif_mono {b : Bool} {x x' : Option ρ} (hk : x = some r → x' = some r) (h : xif b x = some r) : xif b x' = some r := by
  cases b with
  | true => exact hk h
  | false => cases h
theorem xsh_mono {M : xMem} {a : Nat} {k k' : xSh → Option ρ} (hk : ∀ s, k s = some r → k' s = some r) (h : xsh M a k = some r) : xsh M a k' = some r := by
  unfold xsh at h ⊢
  cases e : M.1[a]? with
  | none => rw [e] at h; cases h
  | some s => rw [e] at h; exact hk s h
theorem xrow_mono {M : xMem} {kd a : Nat} {k k' : Nat → Option ρ} (hk : ∀ s, k s = some r → k' s = some r) (h : xrow M kd a k = some r) : xrow M kd a k' = some r := xsh_mono (fun _ => xif_mono (hk _)) h
theorem xlv_mono {ls : xLs} {i : Nat} {k k' : Value → Option ρ} (hk : ∀ v, k v = some r → k' v = some r) (h : xlv ls i k = some r) : xlv ls i k' = some r := by
  unfold xlv at h ⊢
  split at h
  · exact hk _ h
  · cases h
theorem xpN_mono : ∀ (n : Nat) (acc st : List Value) {k k' : List Value → List Value → Option ρ}, (∀ as t, k as t = some r → k' as t = some r) → xpN n acc st k = some r → xpN n acc st k' = some r := by
  intro n
  induction n with
  | zero => intro acc st k k' hk h; exact hk _ _ h
  | succ n ih =>
    intro acc st k k' hk h
    cases st with
    | nil => cases h
    | cons v t =>
      unfold xpN at h ⊢
      dsimp only at h ⊢
      cases hv : xok v with
      | false => rw [hv] at h; cases h
      | true => rw [hv, cond_true] at h; rw [cond_true]; exact ih _ _ hk h
theorem xcond_mono {b : Bool} {x x' y y' : Option ρ} (hx : x = some r → x' = some r) (hy : y = some r → y' = some r) (h : cond b x y = some r) : cond b x' y' = some r := by
  cases b with
  | true => exact hx h
  | false => exact hy h
theorem xbind_mono {α : Type} {x x' : Option α} {k k' : α → Option ρ} (hx : ∀ a, x = some a → x' = some a) (hk : ∀ a, k a = some r → k' a = some r) (h : x.bind k = some r) : x'.bind k' = some r := by
  obtain ⟨a, h1, h2⟩ := Option.bind_eq_some_iff.mp h
  rw [hx a h1]
  exact hk a h2
end MONO
theorem xsw_mono {F F' : Nat → Option xRes} {x : Int32} {dd : Nat} {r : xRes} (hF : ∀ t, F t = some r → F' t = some r) : ∀ qs, xsw F x dd qs = some r → xsw F' x dd qs = some r := by
  intro qs
  induction qs with
  | nil => intro h; exact hF _ h
  | cons q qs ih => intro h; exact xcond_mono (hF _) ih h
theorem xins_mono {F F' : xSt → Option xRes} (hF : ∀ x r, F x = some r → F' x = some r) {E : xEnt} {d mi pc : Nat} {ls : xLs} {st : List Value} {M : xMem} {r : xRes} (h : xins xDC xML xRT F F E d mi pc ls st M = some r) : xins xDC xML xRT F' F' E d mi pc ls st M = some r := by
  obtain ⟨ins, len, a, b, hh, cst, lcst⟩ := E
  cases ins
  case putfield i =>
    unfold xins at h ⊢
    dsimp only at h ⊢
    split at h
    · exact xsh_mono (fun s => xif_mono (fun h => by split at h <;> first | exact hF _ _ h | (cases h; done))) h
    · exact xsh_mono (fun s => xif_mono (fun h => by split at h <;> first | exact hF _ _ h | (cases h; done))) h
    · exact xsh_mono (fun s => xif_mono (fun h => by split at h <;> first | exact hF _ _ h | (cases h; done))) h
    · cases h
  case getfield i =>
    exact xpR_mono (fun _ _ h => xsh_mono (fun s => xif_mono (fun h => by
      split at h
      · first | exact hF _ _ h | (rename_i e; simp only [e]; exact hF _ _ h)
      · first | exact hF _ _ h | (rename_i e; simp only [e]; exact hF _ _ h)
      · first | exact hF _ _ h | (rename_i e; simp only [e]; exact hF _ _ h)
      · cases h)) h) h
  case invokevirtual i =>
    cases d with
    | zero => cases h
    | succ d' => exact xcond_mono (xpR_mono (fun _ _ => xif_mono (hF _ _))) (xcond_mono (xpRI_mono (fun _ _ _ => xif_mono (xif_mono (hF _ _)))) (xpN_mono _ _ _ (fun _ _ => xpR_mono (fun _ _ => xsh_mono (fun _ => xif_mono (xbind_mono (hF _) (fun _ => hF _ _))))))) h
  case invokespecial i =>
    cases d with
    | zero => cases h
    | succ d' => exact xcond_mono (xpR_mono (fun _ _ => xif_mono (hF _ _))) (xpN_mono _ _ _ (fun _ _ => xpR_mono (fun _ _ => xif_mono (xbind_mono (hF _) (fun _ => hF _ _))))) h
  case invokestatic i =>
    cases d with
    | zero => cases h
    | succ d' => exact xcond_mono (xpC_mono (fun _ _ _ _ _ _ => xrow_mono (fun _ => xrow_mono (fun _ => xif_mono (hF _ _))))) (xpN_mono _ _ _ (fun _ _ => xif_mono (xbind_mono (hF _) (fun _ => hF _ _)))) h
  case tableswitch => exact xpI_mono (fun _ _ => xsw_mono (fun _ => hF _ _) _) h
  case lookupswitch => exact xpI_mono (fun _ _ => xsw_mono (fun _ => hF _ _) _) h
  case ldc => exact xcond_mono (hF _ _) (hF _ _) h
  case ifCond => exact xpI_mono (fun _ _ => xcond_mono (hF _ _) (hF _ _)) h
  case if_icmp => exact xpII_mono (fun _ _ _ => xcond_mono (hF _ _) (hF _ _)) h
  case iinc => exact xlv_mono (fun v h => by cases v <;> first | exact xif_mono (hF _ _) h | (cases h; done)) h
  case dup =>
    unfold xins at h ⊢
    dsimp only at h ⊢
    split at h <;> first | exact hF _ _ h | (cases h; done)
  case dup2 =>
    unfold xins at h ⊢
    dsimp only at h ⊢
    split at h <;> first | exact hF _ _ h | (cases h; done)
  case pop =>
    unfold xins at h ⊢
    dsimp only at h ⊢
    split at h <;> first | exact hF _ _ h | (cases h; done)
  all_goals first
    | exact hF _ _ h
    | exact h
    | exact xlv_mono (fun v h => by cases v <;> first | exact hF _ _ h | (cases h; done)) h
    | exact xpI_mono (fun _ _ => hF _ _) h
    | exact xpL_mono (fun _ _ => hF _ _) h
    | exact xpII_mono (fun _ _ _ => hF _ _) h
    | exact xpLL_mono (fun _ _ _ => hF _ _) h
    | exact xpLI_mono (fun _ _ _ => hF _ _) h
    | exact xpI_mono (fun _ _ => xif_mono (hF _ _)) h
    | exact xpL_mono (fun _ _ => xif_mono (hF _ _)) h
    | exact xpR_mono (fun _ _ => xif_mono (hF _ _)) h
    | exact xpII_mono (fun _ _ _ => xif_mono (hF _ _)) h
    | exact xpLL_mono (fun _ _ _ => xif_mono (hF _ _)) h
    | exact xpR_mono (fun _ _ => xsh_mono (fun _ => xif_mono (hF _ _))) h
    | exact xpRI_mono (fun _ _ _ => xsh_mono (fun _ => xif_mono (xif_mono (hF _ _)))) h
    | exact xpIIR_mono (fun _ _ _ _ => xsh_mono (fun _ => xif_mono (xif_mono (hF _ _)))) h
    | exact xpLIR_mono (fun _ _ _ _ => xsh_mono (fun _ => xif_mono (xif_mono (hF _ _)))) h
abbrev xR : Nat → xSt → Option xRes := xrun xDC xML xRT xcode
theorem xR_s : ∀ (n : Nat) (x : xSt) (r : xRes), xR n x = some r → xR (n + 1) x = some r := by
  intro n
  induction n with
  | zero => intro x r h; cases h
  | succ n ih =>
    intro x r h
    obtain ⟨d, mi, pc, ls, st, M⟩ := x
    unfold xR xrun at h ⊢
    cases hE : xcode mi pc with
    | none => rw [hE] at h; cases h
    | some E =>
      rw [hE] at h
      dsimp only at h ⊢
      exact xins_mono ih h
theorem xR_le {n m : Nat} {x : xSt} {r : xRes} (h : n ≤ m) (hr : xR n x = some r) : xR m x = some r := by
  obtain ⟨k, rfl⟩ : ∃ k, m = n + k := ⟨m - n, by omega⟩
  clear h
  induction k with
  | zero => exact hr
  | succ k ih => exact xR_s _ _ _ ih
/-- the run ends, and Q holds of its answer and memory -/
def WP (x : xSt) (Q : Option Value → xMem → Prop) : Prop := ∃ (n : Nat) (v : Option Value) (M : xMem), xR n x = some (v, M) ∧ Q v M
section WPS
variable {x y z c : xSt} {Q Q' : Option Value → xMem → Prop} {v : Option Value} {M : xMem}
theorem WP.mono (w : WP x Q) (h : ∀ v M, Q v M → Q' v M) : WP x Q' := by obtain ⟨n, v, M, h1, h2⟩ := w; exact ⟨n, v, M, h1, h _ _ h2⟩
theorem WP.go (k : Nat) (h : ∀ n, xR (n + k) x = xR n y) (w : WP y Q) : WP x Q := by obtain ⟨n, v, M, h1, h2⟩ := w; exact ⟨n + k, v, M, (h n).trans h1, h2⟩
theorem WP.at (h : ∀ n, xR (n + 1) x = xR (n + 1) y) (w : WP y Q) : WP x Q := by obtain ⟨n, v, M, h1, h2⟩ := w; exact ⟨n + 1, v, M, (h n).trans (xR_s _ _ _ h1), h2⟩
theorem WP.ret (k : Nat) (h : ∀ n, xR (n + k) x = some (v, M)) (w : Q v M) : WP x Q := ⟨0 + k, v, M, h 0, w⟩
theorem WP.retB {b : Bool} (k : Nat) (h : ∀ n, xR (n + k) x = xif b (some (v, M))) (w : b = true ∧ Q v M) : WP x Q := ⟨0 + k, v, M, by rw [h 0, w.1]; rfl, w.2⟩
theorem WP.br {p : Prop} [Decidable p] (k : Nat) (h : ∀ n, xR (n + k) x = cond (decide p) (xR n y) (xR n z)) (w : (p → WP y Q) ∧ (¬ p → WP z Q)) : WP x Q := by
  by_cases hp : p
  · obtain ⟨n, v, M, h1, h2⟩ := w.1 hp
    exact ⟨n + k, v, M, by rw [h n, decide_eq_true hp]; exact h1, h2⟩
  · obtain ⟨n, v, M, h1, h2⟩ := w.2 hp
    exact ⟨n + k, v, M, by rw [h n, decide_eq_false hp]; exact h1, h2⟩
theorem WP.brN {p : Prop} [Decidable p] (k : Nat) (h : ∀ n, xR (n + k) x = cond (!(decide p)) (xR n y) (xR n z)) (w : (p → WP z Q) ∧ (¬ p → WP y Q)) : WP x Q := by
  by_cases hp : p
  · obtain ⟨n, v, M, h1, h2⟩ := w.1 hp
    exact ⟨n + k, v, M, by rw [h n, decide_eq_true hp]; exact h1, h2⟩
  · obtain ⟨n, v, M, h1, h2⟩ := w.2 hp
    exact ⟨n + k, v, M, by rw [h n, decide_eq_false hp]; exact h1, h2⟩
theorem WP.ck {b : Bool} (k : Nat) (h : ∀ n, xR (n + k) x = xif b (xR n y)) (w : b = true ∧ WP y Q) : WP x Q := by
  obtain ⟨n, v, M, h1, h2⟩ := w.2
  exact ⟨n + k, v, M, by rw [h n, w.1]; exact h1, h2⟩
theorem WP.ckD {p : Prop} [Decidable p] (k : Nat) (h : ∀ n, xR (n + k) x = xif (!(decide p)) (xR n y)) (w : ¬ p ∧ WP y Q) : WP x Q := by
  obtain ⟨n, v, M, h1, h2⟩ := w.2
  exact ⟨n + k, v, M, by rw [h n, decide_eq_false w.1]; exact h1, h2⟩
theorem WP.call {f : Option Value → xMem → xSt} (k : Nat) (h : ∀ n, xR (n + k) x = (xR n c).bind (fun q => xR n (f q.1 q.2))) (w : WP c (fun v M => WP (f v M) Q)) : WP x Q := by
  obtain ⟨n, v, M, h1, n2, v2, M2, h2, h3⟩ := w
  refine ⟨(n + n2) + k, v2, M2, ?_, h3⟩
  rw [h (n + n2), xR_le (by omega) h1]
  exact xR_le (by omega) h2
/-- a switch's arms -/
def xswW (f : Nat → xSt) (a : Int32) (dd : Nat) (Q : Option Value → xMem → Prop) : List (Int32 × Nat) → Prop
  | [] => WP (f dd) Q
  | q :: qs => (a = q.1 → WP (f q.2) Q) ∧ (¬ a = q.1 → xswW f a dd Q qs)
theorem WP.sw {f : Nat → xSt} {a : Int32} {dd : Nat} {qs : List (Int32 × Nat)} (k : Nat) (h : ∀ n, xR (n + k) x = xsw (fun t => xR n (f t)) a dd qs) (w : xswW f a dd Q qs) : WP x Q := by
  have g : ∀ qs, xswW f a dd Q qs → ∃ (n : Nat) (v : Option Value) (M : xMem), xsw (fun t => xR n (f t)) a dd qs = some (v, M) ∧ Q v M := by
    intro qs
    induction qs with
    | nil => intro w; exact w
    | cons q qs ih =>
      intro w
      by_cases hp : a = q.1
      · obtain ⟨n, v, M, h1, h2⟩ := w.1 hp
        exact ⟨n, v, M, by simp only [xsw, xeq, decide_eq_true hp, cond_true]; exact h1, h2⟩
      · obtain ⟨n, v, M, h1, h2⟩ := ih (w.2 hp)
        exact ⟨n, v, M, by simp only [xsw, xeq, decide_eq_false hp, cond_false]; exact h1, h2⟩
  obtain ⟨n, v, M, h1, h2⟩ := g qs w
  exact ⟨n + k, v, M, (h n).trans h1, h2⟩
end WPS
