set_option maxRecDepth 1000000 in
set_option maxHeartbeats 4000000 in
theorem xw195 : xwd 1345 (.code xM195.1 xM195.2.1 xM195.2.2.1 xM195.2.2.2.1) = true := by
  have h : lw_tbl[1345]? = some (.code xM195.1 xM195.2.1 xM195.2.2.1 xM195.2.2.2.1) := rfl
  unfold xwd
  rw [decide_eq_true h, Bool.true_and]
  rfl
theorem xk195 : xmok 195 xM195 = true := by
  have e : xmh xM195 = true := by
    show (xwd 1345 (.code xM195.1 xM195.2.1 xM195.2.2.1 xM195.2.2.2.1) && xwd 145 (.initialized xM195.1.cls) && (xwd 1344 (.instanceMethod xM195.1) && decide (xM195.1.name = "<init>"))) = true
    rw [xw195]
    decide +kernel
  unfold xmok
  rw [e, Bool.and_true]
  decide +kernel
theorem xo195 : xOKm 195 := ⟨xM195, rfl, xk195, xgd_s (xgd_s (xgd_s (xgd_s (xgd_s (xgd_s xgd_0 xc195_0) xc195_1) xc195_2) xc195_3) xc195_4) xn195⟩
