/-! ===== the evaluator's parts taken apart ===== -/
section INV
variable {ρ : Type} {r : ρ} {st : List Value}
theorem xpI_inv {k : Int32 → List Value → Option ρ} (h : xpI st k = some r) : ∃ x t, st = .int x :: t ∧ k x t = some r := by
  unfold xpI at h
  split at h
  · exact ⟨_, _, rfl, h⟩
  · cases h
theorem xpL_inv {k : Int64 → List Value → Option ρ} (h : xpL st k = some r) : ∃ x t, st = .long x :: t ∧ k x t = some r := by
  unfold xpL at h
  split at h
  · exact ⟨_, _, rfl, h⟩
  · cases h
theorem xpII_inv {k : Int32 → Int32 → List Value → Option ρ} (h : xpII st k = some r) : ∃ x y t, st = .int y :: .int x :: t ∧ k x y t = some r := by
  unfold xpII at h
  split at h
  · exact ⟨_, _, _, rfl, h⟩
  · cases h
theorem xpLL_inv {k : Int64 → Int64 → List Value → Option ρ} (h : xpLL st k = some r) : ∃ x y t, st = .long y :: .long x :: t ∧ k x y t = some r := by
  unfold xpLL at h
  split at h
  · exact ⟨_, _, _, rfl, h⟩
  · cases h
theorem xpLI_inv {k : Int64 → Int32 → List Value → Option ρ} (h : xpLI st k = some r) : ∃ x y t, st = .int y :: .long x :: t ∧ k x y t = some r := by
  unfold xpLI at h
  split at h
  · exact ⟨_, _, _, rfl, h⟩
  · cases h
theorem xpR_inv {k : Nat → List Value → Option ρ} (h : xpR st k = some r) : ∃ x t, st = .ref x :: t ∧ k x t = some r := by
  unfold xpR at h
  split at h
  · exact ⟨_, _, rfl, h⟩
  · cases h
theorem xpRI_inv {k : Nat → Int32 → List Value → Option ρ} (h : xpRI st k = some r) : ∃ a i t, st = .int i :: .ref a :: t ∧ k a i t = some r := by
  unfold xpRI at h
  split at h
  · exact ⟨_, _, _, rfl, h⟩
  · cases h
theorem xpIIR_inv {k : Nat → Int32 → Int32 → List Value → Option ρ} (h : xpIIR st k = some r) : ∃ a i x t, st = .int x :: .int i :: .ref a :: t ∧ k a i x t = some r := by
  unfold xpIIR at h
  split at h
  · exact ⟨_, _, _, _, rfl, h⟩
  · cases h
theorem xpLIR_inv {k : Nat → Int32 → Int64 → List Value → Option ρ} (h : xpLIR st k = some r) : ∃ a i x t, st = .long x :: .int i :: .ref a :: t ∧ k a i x t = some r := by
  unfold xpLIR at h
  split at h
  · exact ⟨_, _, _, _, rfl, h⟩
  · cases h
theorem xpC_inv {k : Int32 → Int32 → Nat → Int32 → Nat → List Value → Option ρ} (h : xpC st k = some r) : ∃ n q b p a t, st = .int n :: .int q :: .ref b :: .int p :: .ref a :: t ∧ k n q b p a t = some r := by
  unfold xpC at h
  split at h
  · exact ⟨_, _, _, _, _, _, rfl, h⟩
  · cases h
theorem xif_inv {b : Bool} {x : Option ρ} (h : xif b x = some r) : b = true ∧ x = some r := by
  cases b with
  | true => exact ⟨rfl, h⟩
  | false => cases h
theorem xsh_inv {M : xMem} {a : Nat} {k : xSh → Option ρ} (h : xsh M a k = some r) : ∃ s, M.1[a]? = some s ∧ k s = some r := by
  unfold xsh at h
  split at h
  · exact ⟨_, by assumption, h⟩
  · cases h
theorem xlv_inv {ls : xLs} {i : Nat} {k : Value → Option ρ} (h : xlv ls i k = some r) : ∃ v, ls[i]? = some (some v) ∧ k v = some r := by
  unfold xlv at h
  split at h
  · exact ⟨_, by assumption, h⟩
  · cases h
theorem xpN_inv : ∀ (n : Nat) (acc st : List Value) {k : List Value → List Value → Option ρ}, xpN n acc st k = some r → ∃ as t, as.length = n ∧ st = as.reverse ++ t ∧ (∀ v ∈ as, xok v = true) ∧ k (as ++ acc) t = some r := by
  intro n
  induction n with
  | zero => intro acc st k h; exact ⟨[], st, rfl, rfl, fun v hv => (by cases hv), h⟩
  | succ n ih =>
    intro acc st k h
    unfold xpN at h
    cases st with
    | nil => cases h
    | cons v t =>
      dsimp only at h
      cases hv : xok v with
      | false => rw [hv] at h; cases h
      | true =>
        rw [hv, cond_true] at h
        obtain ⟨as, t', h1, h2, h3, h4⟩ := ih (v :: acc) t h
        refine ⟨as ++ [v], t', by simp [h1], by simp [h2], fun w hw => ?_, by simpa using h4⟩
        rcases List.mem_append.mp hw with g | g
        · exact h3 w g
        · rw [List.mem_singleton.mp g]; exact hv
end INV
theorem xblt {a b : Nat} (h : Nat.blt a b = true) : a < b := Nat.le_of_ble_eq_true h
theorem xin_vp {i : Int32} {n : Nat} (h : xin i n = true) : vp_in i n := by
  simp only [xin, Bool.not_eq_true', Bool.or_eq_false_iff, decide_eq_false_iff_not] at h
  intro q
  rcases q with q | q
  · exact h.1 q
  · have : Nat.ble n (xIx i) = true := Nat.ble_eq_true_of_le q
    rw [h.2] at this
    cases this
theorem xsm_eq {P : xPr} (st : List Value) : ((st.map (xv P)).map fun v => v.category).sum = xsm st := by
  induction st with
  | nil => rfl
  | cons v st ih =>
    simp only [List.map_cons, List.sum_cons, ih, xsm]
    cases v <;> rfl
section ROWS
variable {p : Program} {l : Launch} {e : Env} {R : Room} {s : State} {m : MethodId} {args : Array Value} {below : List Frame} {meth : Method} {c : Code} {H : Heap} {locs : List Loc} {cells slots : Nat} {Q : State → Prop}
variable {cc : ByteArray} {pc : Nat} {ls : Array Slot} {rest : List Value}
theorem x_ifc (hexec : p.tables.exec = Jvm.exec) (hb : c.code = cc) {cnd : ClassFile.Cond} {x : Int32} {off : Int} {tgt : Nat} (hdg : decode cc pc = .ok (.ifCond cnd off, 3)) (ht : (pc : Int) + off = (tgt : Int))
    (kt : xcp cnd x 0 = true → W p l e R s m args below meth c H locs cells slots Q (F0 m tgt ls rest)) (kf : xcp cnd x 0 = false → W p l e R s m args below meth c H locs cells slots Q (F0 m (pc + 3) ls rest)) : W p l e R s m args below meth c H locs cells slots Q (F0 m pc ls (.int x :: rest)) := by
  cases cnd with
  | eq => exact lv_if_eq hexec hb hdg ht (fun h => kt (by simp [xcp, xeq, h])) (fun h => kf (by simp [xcp, xeq, h]))
  | ne => exact lv_if_ne hexec hb hdg ht (fun h => kt (by simp [xcp, xeq, h])) (fun h => kf (by simpa [xcp, xeq] using h))
  | lt => exact lv_if_lt hexec hb hdg ht (fun h => kt (by simp [xcp, xlt, h])) (fun h => kf (by simp only [xcp, xlt, decide_eq_false_iff_not]; exact h))
  | ge => exact lv_if_ge hexec hb hdg ht (fun h => kt (by simp only [xcp, xlt, Bool.not_eq_true', decide_eq_false_iff_not]; exact Int32.not_lt.mpr h)) (fun h => kf (by simp only [xcp, xlt, Bool.not_eq_false', decide_eq_true_eq]; exact Int32.not_le.mp h))
  | gt => exact lv_if_gt hexec hb hdg ht (fun h => kt (by simp [xcp, xlt, h])) (fun h => kf (by simp only [xcp, xlt, decide_eq_false_iff_not]; exact h))
  | le => exact lv_if_le hexec hb hdg ht (fun h => kt (by simp only [xcp, xlt, Bool.not_eq_true', decide_eq_false_iff_not]; exact Int32.not_lt.mpr h)) (fun h => kf (by simp only [xcp, xlt, Bool.not_eq_false', decide_eq_true_eq]; exact Int32.not_le.mp h))
theorem x_icc (hexec : p.tables.exec = Jvm.exec) (hb : c.code = cc) {cnd : ClassFile.Cond} {x y : Int32} {off : Int} {tgt : Nat} (hdg : decode cc pc = .ok (.if_icmp cnd off, 3)) (ht : (pc : Int) + off = (tgt : Int))
    (kt : xcp cnd x y = true → W p l e R s m args below meth c H locs cells slots Q (F0 m tgt ls rest)) (kf : xcp cnd x y = false → W p l e R s m args below meth c H locs cells slots Q (F0 m (pc + 3) ls rest)) : W p l e R s m args below meth c H locs cells slots Q (F0 m pc ls (.int y :: .int x :: rest)) := by
  cases cnd with
  | eq => exact lv_icmp_eq hexec hb hdg ht (fun h => kt (by simp [xcp, xeq, h])) (fun h => kf (by simp [xcp, xeq, h]))
  | ne => exact lv_icmp_ne hexec hb hdg ht (fun h => kt (by simp [xcp, xeq, h])) (fun h => kf (by simpa [xcp, xeq] using h))
  | lt => exact lv_icmp_lt hexec hb hdg ht (fun h => kt (by simp [xcp, xlt, h])) (fun h => kf (by simp only [xcp, xlt, decide_eq_false_iff_not]; exact h))
  | ge => exact lv_icmp_ge hexec hb hdg ht (fun h => kt (by simp only [xcp, xlt, Bool.not_eq_true', decide_eq_false_iff_not]; exact Int32.not_lt.mpr h)) (fun h => kf (by simp only [xcp, xlt, Bool.not_eq_false', decide_eq_true_eq]; exact Int32.not_le.mp h))
  | gt => exact lv_icmp_gt hexec hb hdg ht (fun h => kt (by simp [xcp, xlt, h])) (fun h => kf (by simp only [xcp, xlt, decide_eq_false_iff_not]; exact h))
  | le => exact lv_icmp_le hexec hb hdg ht (fun h => kt (by simp only [xcp, xlt, Bool.not_eq_true', decide_eq_false_iff_not]; exact Int32.not_lt.mpr h)) (fun h => kf (by simp only [xcp, xlt, Bool.not_eq_false', decide_eq_true_eq]; exact Int32.not_le.mp h))
end ROWS
