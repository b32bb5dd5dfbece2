/-! ===== calls that change the state ===== -/
/-- one number of the state set anew -/
def sset (S : aS) (f k : Nat) (v : Int) : aS := fun f' k' => if f' = f ∧ k' = k then v else S f' k'
theorem Call.st {L d cx cm : Nat} {ax am : List Value} {S : aS} (S' : aS) (z : Int)
    (hc : ∀ (dr tl : Nat) (I : Nat → Nat → Int32) (J : Nat → Nat → Int64), CInv S dr tl I J → WP (d, cx, 0, xent (.ref 2 :: ax) (xML cx), [], (xSH L dr tl, I, J)) (fun v M => ∃ (r : Int32) (I1 : Nat → Nat → Int32) (J1 : Nat → Nat → Int64), v = some (.int r) ∧ r.toInt = z ∧ M = (xSH L dr tl, I1, J1) ∧ keepM I I1 J J1 ∧ CInv S' dr tl I1 J1))
    (hm : ∀ (dr tl : Nat) (I : Nat → Nat → Int32) (J : Nat → Nat → Int64), MInv S I J → WP (d, cm, 0, xent (.ref 71 :: am) (xML cm), [], (xSH L dr tl, I, J)) (fun v M => ∃ (r : Int32) (I1 : Nat → Nat → Int32) (J1 : Nat → Nat → Int64), v = some (.int r) ∧ r.toInt = z ∧ M = (xSH L dr tl, I1, J1) ∧ keepC I I1 J J1 ∧ MInv S' I1 J1)) : Call L d cx cm ax am S := by
  intro dr tl I J h1 h2
  refine WP.mono (hc dr tl I J h1) (fun v M q => ?_)
  obtain ⟨r, I1, J1, rfl, hr, rfl, hk, hi⟩ := q
  refine ⟨dr, tl, I1, J1, rfl, WP.mono (hm dr tl I1 J1 (h2.kept hk)) (fun v2 M2 q2 => ?_)⟩
  obtain ⟨r2, I2, J2, rfl, hr2, rfl, hk2, hi2⟩ := q2
  exact ⟨by rw [eq_ti.mpr (hr2.trans hr.symm)], S', I2, J2, rfl, hi.kept hk2, hi2⟩
theorem keepM_refl {I : Nat → Nat → Int32} {J : Nat → Nat → Int64} : keepM I I J J := fun _ _ => ⟨rfl, rfl⟩
theorem keepC_refl {I : Nat → Nat → Int32} {J : Nat → Nat → Int64} : keepC I I J J := fun _ _ => ⟨rfl, rfl⟩
theorem keepM.tr {I I1 I2 : Nat → Nat → Int32} {J J1 J2 : Nat → Nat → Int64} (h : keepM I I1 J J1) (h' : keepM I1 I2 J1 J2) : keepM I I2 J J2 := fun a ha => ⟨(h' a ha).1.trans (h a ha).1, (h' a ha).2.trans (h a ha).2⟩
theorem keepC.tr {I I1 I2 : Nat → Nat → Int32} {J J1 J2 : Nat → Nat → Int64} (h : keepC I I1 J J1) (h' : keepC I1 I2 J1 J2) : keepC I I2 J J2 := fun a ha => ⟨(h' a ha).1.trans (h a ha).1, (h' a ha).2.trans (h a ha).2⟩
theorem keepM_I {I : Nat → Nat → Int32} {J : Nat → Nat → Int64} {a k : Nat} {v : Int32} (h : a < 71) : keepM I (xwI I a k v) J J := fun b hb => ⟨xwI_ne (by omega), rfl⟩
theorem keepC_I {I : Nat → Nat → Int32} {J : Nat → Nat → Int64} {a k : Nat} {v : Int32} (h : 71 ≤ a) : keepC I (xwI I a k v) J J := fun b hb => ⟨xwI_ne (by omega), rfl⟩
theorem keepM_J {I : Nat → Nat → Int32} {J : Nat → Nat → Int64} {a k : Nat} {v : Int64} (h : a < 71) : keepM I I J (xwJ J a k v) := fun b hb => ⟨rfl, xwJ_ne (by omega)⟩
theorem keepC_J {I : Nat → Nat → Int32} {J : Nat → Nat → Int64} {a k : Nat} {v : Int64} (h : 71 ≤ a) : keepC I I J (xwJ J a k v) := fun b hb => ⟨rfl, xwJ_ne (by omega)⟩
section STATE2
variable {S : aS} {L d dr tl : Nat} {I : Nat → Nat → Int32} {J : Nat → Nat → Int64} {a1 a2 a3 : Int32}
theorem WF.seed {v : Int} (h : WF S) (h0 : 0 ≤ v) (h1 : v < 2147483648) : WF (sset S 0 13 v) := by
  obtain ⟨g1, g2, g3, g4, g5, g6, g7, g8, g9, g10, g11, g12, g13⟩ := h
  exact ⟨g1, g2, g3, g4, g5, g6, g7, g8, g9, g10, g11, ⟨h0, h1⟩, g13⟩
theorem CInv.seed {x : Int64} {v : Int} (h : CInv S dr tl I J) (h0 : 0 ≤ v) (h1 : v < 2147483648) (hx : x.toInt = v) : CInv (sset S 0 13 v) dr tl I (xwJ J 2 7 x) := by
  obtain ⟨g1, g2, g3, g4, g5, g6, g7, g8, g9, g10, g11, g12⟩ := h
  exact ⟨g1.seed h0 h1, g2, g3, g4, g5, g6, g7, g8, g9, g10, hx, g12⟩
theorem MInv.seed {x : Int64} {v : Int} (h : MInv S I J) (h0 : 0 ≤ v) (h1 : v < 2147483648) (hx : x.toInt = v) : MInv (sset S 0 13 v) I (xwJ J 71 67 x) := by
  obtain ⟨g1, g2, g3, g4, g5, g6, g7, g8, g9, g10⟩ := h
  exact ⟨g1.seed h0 h1, g2, g3, g4, g5, g6, g7, g8, hx, g10⟩
theorem call_seed : Call L (d + 1) 177 276 [.int a1] [.int a1] S := by
  by_cases h : a1 < 0
  · exact Call.st S 0 (fun _ _ _ _ q => w177_0 ⟨fun _ => ⟨0, _, _, rfl, rfl, rfl, keepM_refl, q⟩, fun z => absurd h z⟩) (fun _ _ _ _ q => w276_0 ⟨fun _ => ⟨0, _, _, rfl, rfl, rfl, keepC_refl, q⟩, fun z => absurd h z⟩)
  · have h0 : 0 ≤ a1.toInt := by rw [lt0] at h; omega
    exact Call.st (sset S 0 13 a1.toInt) 1 (fun _ _ _ _ q => w177_0 ⟨fun z => absurd z h, fun _ => ⟨1, _, _, rfl, rfl, rfl, keepM_J (by decide), q.seed h0 (ti_hi a1) (t64 a1)⟩⟩) (fun _ _ _ _ q => w276_0 ⟨fun z => absurd z h, fun _ => ⟨1, _, _, rfl, rfl, rfl, keepC_J (by decide), q.seed h0 (ti_hi a1) (t64 a1)⟩⟩)
theorem WF.stop {v : Int} (h : WF S) (h0 : 0 ≤ v) (h1 : v ≤ sTp S) : WF (sset S 0 0 v) := by
  obtain ⟨g1, g2, g3, g4, g5, g6, g7, g8, g9, g10, g11, g12, g13⟩ := h
  exact ⟨⟨h0, Int.le_trans h1 g1.2.1, fun j hj => g1.2.2 j (Int.lt_of_lt_of_le hj h1)⟩, g2, g3, g4, g5, g6, g7, g8, g9, g10, g11, g12, g13⟩
theorem CInv.stop {x : Int32} {v : Int} (h : CInv S dr tl I J) (h0 : 0 ≤ v) (h1 : v ≤ sTp S) (hx : x.toInt = v) : CInv (sset S 0 0 v) dr tl (xwI I 3 1 x) J := by
  obtain ⟨g1, g2, g3, g4, g5, g6, g7, g8, g9, g10, g11, g12⟩ := h
  rcases g3 with ⟨rfl, rfl⟩ | ⟨rfl, rfl⟩
  · exact ⟨g1.stop h0 h1, g2, Or.inl ⟨rfl, rfl⟩, g4, g5, g6, g7, ⟨hx, fun j hj => g8.2 j (Int.lt_of_lt_of_le hj h1)⟩, g9, g10, g11, g12⟩
  · exact ⟨g1.stop h0 h1, g2, Or.inr ⟨rfl, rfl⟩, g4, g5, g6, g7, ⟨hx, fun j hj => g8.2 j (Int.lt_of_lt_of_le hj h1)⟩, g9, g10, g11, g12⟩
theorem MInv.stop {x : Int32} {v : Int} (h : MInv S I J) (h0 : 0 ≤ v) (h1 : v ≤ sTp S) (hx : x.toInt = v) : MInv (sset S 0 0 v) (xwI I 71 1 x) J := by
  obtain ⟨g1, g2, g3, g4, g5, g6, g7, g8, g9, g10⟩ := h
  refine ⟨g1.stop h0 h1, g2, g3, g4, g5, ⟨hx, fun j hj => g6.2 j (Int.lt_of_lt_of_le hj h1)⟩, g7, g8, g9, ?_⟩
  intro a w hm k hk
  have ha : a ≠ 71 := by
    simp only [List.mem_cons, Prod.mk.injEq, List.not_mem_nil, or_false] at hm
    omega
  rw [xwI_ne ha]
  exact g10 a w hm k hk
theorem s_end (hz : (I 3 1).toInt = sTp S) {Q : Option Value → xMem → Prop} (h0 : ¬ (0 ≤ a1.toInt ∧ a1.toInt ≤ sTp S) → Q (some (.int 0)) (xSH L dr tl, I, J)) (h1 : 0 ≤ a1.toInt ∧ a1.toInt ≤ sTp S → Q (some (.int 1)) (xSH L dr tl, xwI I 3 1 a1, J)) : WP ((d + 1), 115, 0, [some (.ref 3), some (.int a1)], [], (xSH L dr tl, I, J)) Q := by
  refine w115_0 (Or.inl rfl) (brz lt0 (fun h => h0 (by omega)) (fun h => brz lt_ti (fun g => h0 ?_) (fun g => h1 ?_)))
  · rw [hz] at g; omega
  · rw [hz] at g; omega
theorem call_end : Call L (d + 2) 161 198 [.int a1] [.int a1] S := by
  by_cases h : 0 ≤ a1.toInt ∧ a1.toInt ≤ sTp S
  · refine Call.st (sset S 0 0 a1.toInt) 1 (fun dr tl I J q => w161_0 (s_end q.2.2.2.2.2.2.2.1.1 (fun z => absurd h z) (fun _ => ⟨1, _, _, rfl, rfl, rfl, 1, _, _, rfl, rfl, rfl, keepM_I (by decide), q.stop h.1 h.2 rfl⟩))) (fun dr tl I J q => w198_0 (brz lt0 (fun z => by omega) (fun _ => brz lt_ti (fun g => ?_) (fun g => ⟨1, _, _, rfl, rfl, rfl, keepC_I (by decide), q.stop h.1 h.2 rfl⟩))))
    rw [q.2.2.2.2.2.1.1] at g; omega
  · refine Call.st S 0 (fun dr tl I J q => w161_0 (s_end q.2.2.2.2.2.2.2.1.1 (fun _ => ⟨0, _, _, rfl, rfl, rfl, 0, _, _, rfl, rfl, rfl, keepM_refl, q⟩) (fun z => absurd z h))) (fun dr tl I J q => w198_0 (brz lt0 (fun z => ⟨0, _, _, rfl, rfl, rfl, keepC_refl, q⟩) (fun _ => brz lt_ti (fun g => ⟨0, _, _, rfl, rfl, rfl, keepC_refl, q⟩) (fun g => ?_))))
    rw [q.2.2.2.2.2.1.1] at g; omega
end STATE2
