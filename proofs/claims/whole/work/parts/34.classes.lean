/-! ===== what the classes' tables say ===== -/
def xdef (t : FieldType) (c : Nat) : Bool := match t with
  | .int => Nat.beq c 0
  | .long => Nat.beq c 1
  | .object _ => Nat.beq c 2
  | .array _ => Nat.beq c 2
  | _ => false
def xCk (ci : Nat) (q : vw_C) (ty : Nat → FieldType) : Prop := (∀ k, k < q.2.2 → parseFieldDescriptor (q.2.1 k).2.2.1 = some (ty k)) ∧ (∀ k, k < q.2.2 → xdef (ty k) ((xDC ci).getD k 9) = true) ∧ (∀ a, a < q.2.2 → ∀ b, b < q.2.2 → a ≠ b → (q.2.1 a).2.1 ≠ (q.2.1 b).2.1) ∧ (∀ w ∈ u_ws q.1 q.2.1 q.2.2, w ∈ xTS) ∧ (xDC ci).length = q.2.2
theorem xts_of {ws : List Jvm.Cond} (h : ∀ w ∈ ws, w ∈ lw_tbl) (g : ws.all xgw = true) : ∀ w ∈ ws, w ∈ xTS := fun w hw => List.mem_filter.mpr ⟨h w hw, List.all_eq_true.mp g w hw⟩
theorem xCk0 : xCk 0 (RX0, TX0, 12) tyX0 := ⟨tyX0_ok, by decide +kernel, nmX0, xts_of inX0 (by decide +kernel), rfl⟩
theorem xCi0 : (Jvm.Cond.instantiable RX0 12) ∈ xTS := xwd_mem (h := 184) (by decide +kernel)
theorem xCk1 : xCk 1 (RX1, TX1, 3) tyX1 := ⟨tyX1_ok, by decide +kernel, nmX1, xts_of inX1 (by decide +kernel), rfl⟩
theorem xCi1 : (Jvm.Cond.instantiable RX1 3) ∈ xTS := xwd_mem (h := 338) (by decide +kernel)
theorem xCk2 : xCk 2 (RX2, TX2, 7) tyX2 := ⟨tyX2_ok, by decide +kernel, nmX2, xts_of inX2 (by decide +kernel), rfl⟩
theorem xCi2 : (Jvm.Cond.instantiable RX2 7) ∈ xTS := xwd_mem (h := 388) (by decide +kernel)
theorem xCk3 : xCk 3 (RX5, TX5, 1) tyX5 := ⟨tyX5_ok, by decide +kernel, nmX5, xts_of inX5 (by decide +kernel), rfl⟩
theorem xCi3 : (Jvm.Cond.instantiable RX5 1) ∈ xTS := xwd_mem (h := 417) (by decide +kernel)
theorem xCk4 : xCk 4 (RX4, TX4, 9) tyX4 := ⟨tyX4_ok, by decide +kernel, nmX4, xts_of inX4 (by decide +kernel), rfl⟩
theorem xCi4 : (Jvm.Cond.instantiable RX4 9) ∈ xTS := xwd_mem (h := 178) (by decide +kernel)
theorem xCk5 : xCk 5 (RX5, TX5, 1) tyX5 := ⟨tyX5_ok, by decide +kernel, nmX5, xts_of inX5 (by decide +kernel), rfl⟩
theorem xCi5 : (Jvm.Cond.instantiable RX5 1) ∈ xTS := xwd_mem (h := 417) (by decide +kernel)
theorem xCk6 : xCk 6 (RX6, TX6, 10) tyX6 := ⟨tyX6_ok, by decide +kernel, nmX6, xts_of inX6 (by decide +kernel), rfl⟩
theorem xCi6 : (Jvm.Cond.instantiable RX6 10) ∈ xTS := xwd_mem (h := 211) (by decide +kernel)
theorem xCk7 : xCk 7 (RX7, TX7, 4) tyX7 := ⟨tyX7_ok, by decide +kernel, nmX7, xts_of inX7 (by decide +kernel), rfl⟩
theorem xCi7 : (Jvm.Cond.instantiable RX7 4) ∈ xTS := xwd_mem (h := 190) (by decide +kernel)
theorem xCk8 : xCk 8 (RX8, TX8, 2) tyX8 := ⟨tyX8_ok, by decide +kernel, nmX8, xts_of inX8 (by decide +kernel), rfl⟩
theorem xCi8 : (Jvm.Cond.instantiable RX8 2) ∈ xTS := xwd_mem (h := 162) (by decide +kernel)
theorem xCk9 : xCk 9 (RX9, TX9, 3) tyX9 := ⟨tyX9_ok, by decide +kernel, nmX9, xts_of inX9 (by decide +kernel), rfl⟩
theorem xCi9 : (Jvm.Cond.instantiable RX9 3) ∈ xTS := xwd_mem (h := 427) (by decide +kernel)
theorem xCk10 : xCk 10 (RX10, TX10, 10) tyX10 := ⟨tyX10_ok, by decide +kernel, nmX10, xts_of inX10 (by decide +kernel), rfl⟩
theorem xCi10 : (Jvm.Cond.instantiable RX10 10) ∈ xTS := xwd_mem (h := 330) (by decide +kernel)
theorem xCk11 : xCk 11 (RX11, TX11, 8) tyX11 := ⟨tyX11_ok, by decide +kernel, nmX11, xts_of inX11 (by decide +kernel), rfl⟩
theorem xCi11 : (Jvm.Cond.instantiable RX11 8) ∈ xTS := xwd_mem (h := 154) (by decide +kernel)
theorem xCk12 : xCk 12 (RX12, TX12, 83) tyX12 := ⟨tyX12_ok, by decide +kernel, nmX12, xts_of inX12 (by decide +kernel), rfl⟩
theorem xCi12 : (Jvm.Cond.instantiable RX12 83) ∈ xTS := xwd_mem (h := 1342) (by decide +kernel)
theorem xCL_ok (ci : Nat) (q : vw_C) (h : xCL[ci]? = some q) : ∃ ty, xCk ci q ty ∧ (Jvm.Cond.instantiable q.1 q.2.2) ∈ xTS := by
  match ci, h with
  | 0, h => cases h; exact ⟨_, xCk0, xCi0⟩
  | 1, h => cases h; exact ⟨_, xCk1, xCi1⟩
  | 2, h => cases h; exact ⟨_, xCk2, xCi2⟩
  | 3, h => cases h; exact ⟨_, xCk3, xCi3⟩
  | 4, h => cases h; exact ⟨_, xCk4, xCi4⟩
  | 5, h => cases h; exact ⟨_, xCk5, xCi5⟩
  | 6, h => cases h; exact ⟨_, xCk6, xCi6⟩
  | 7, h => cases h; exact ⟨_, xCk7, xCi7⟩
  | 8, h => cases h; exact ⟨_, xCk8, xCi8⟩
  | 9, h => cases h; exact ⟨_, xCk9, xCi9⟩
  | 10, h => cases h; exact ⟨_, xCk10, xCi10⟩
  | 11, h => cases h; exact ⟨_, xCk11, xCi11⟩
  | 12, h => cases h; exact ⟨_, xCk12, xCi12⟩
  | k + 13, h => simp [xCL] at h
