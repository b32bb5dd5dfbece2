/-! ===== forge, bars: the reference's rows, the calls ===== -/
section FORGEM2
variable {S T : aS} {L d dr tl : Nat} {I I0 I1 : Nat → Nat → Int32} {J : Nat → Nat → Int64} {a1 a2 a3 a4 a5 a6 a7 a8 a9 a10 x : Int32} {r k q p m : Nat} {l n B till pace : Int} {P : Int → Prop} {Q : Option Value → xMem → Prop}
/-- until when a sign is wet, as the reference keeps it -/
noncomputable def wtE (S : aS) (l : Int) (p : Nat) : Int := if S 16 (slot l p) = 0 then 0 else if dH S l p = 2147483647 then 1000000 else dH S l p
theorem wtE_lt (hw : WF S) (hP : isP S l ((p : Nat) : Int)) (h1 : sHr S ≤ B) (h2 : B < 1000000) : B < wtE S l p ↔ B < dH S l p := by
  have db := dH_b hw hP
  have hh := hw.2.2.2.2.2.2.1.1
  unfold wtE
  by_cases z0 : S 16 (slot l p) = 0
  · have e : dH S l p = sHr S := by unfold dH; rw [if_pos z0]
    rw [if_pos z0, e]; omega
  · rw [if_neg z0]
    by_cases nv : dH S l p = 2147483647
    · rw [if_pos nv, nv]; omega
    · rw [if_neg nv]
theorem m_wetHours {R : (Nat → Nat → Int32) → (Nat → Nat → Int64) → Prop} (q : MInv S I J) (h9 : sHr S ≤ 10000) (h2 : isP S a1.toInt a2.toInt) (h3 : isP S a1.toInt a3.toInt) (le : a2.toInt ≤ a3.toInt) (K : ∀ I2 : Nat → Nat → Int32, backOf I I2 → (∀ p : Nat, a2.toInt ≤ p → (p : Int) ≤ a3.toInt → (I2 127 p).toInt = wtE S a1.toInt p) → R I2 J) : WP ((d + 4), 295, 0, [some (.ref 71), some (.int a1), some (.int a2), some (.int a3), none, none], [], (xSH L dr tl, I, J)) (fun v M => ∃ (I2 : Nat → Nat → Int32) (J2 : Nat → Nat → Int64), v = none ∧ M = (xSH L dr tl, I2, J2) ∧ R I2 J2) := by
  have b2 := isP_b q.1 h2
  have b3 := isP_b q.1 h3
  refine w295_0 (wet_init q h2 h3 le h9 (fun I1 b1 h1 => m_putsAside2 fun I3 as bk e127 => ?_) (a3.toInt + 1 - a2.toInt).toNat a2.toInt.toNat a2 I (by omega) (by omega) (by omega) backOf_refl (fun p p1 p2 => by omega))
  refine wet_loop (S := S) (I0 := I1) q.1 h9 h2 h3 le (fun I2 b h => ⟨I2, J, rfl, rfl, K I2 (b1.tr b) h⟩) 65 0 I3 rfl ((q.back b1).back bk) as (fun p p1 p2 => ?_)
  rw [e127, h1 p p1 p2, show sHr S + ((0 : Nat) : Int) = sHr S by omega]
theorem fg_places (hw : WF S) (h9 : sHr S ≤ 10000) (hl : isL S l) (h2 : 0 ≤ a2.toInt) (h3 : a3.toInt < plc S l) (le : a2.toInt ≤ a3.toInt) (h4 : 1 ≤ a4.toInt ∧ a4.toInt ≤ 64) (e8 : a8.toInt = B) (h8 : sHr S ≤ B ∧ B ≤ 20000) (e7 : a7.toInt = k) (hk : k ≤ 200) (hW : ∀ p : Nat, a2.toInt ≤ p → (p : Int) ≤ a3.toInt → (I 127 p).toInt = wtE S l p) {c : Prop} (K : ∀ v : Int32, (v = 1 ∧ c ∧ allF (fun i => B + (i : Int) / a4.toInt < dH S l (a2.toInt.toNat + i)) 0 (a3.toInt - a2.toInt + 1).toNat) ∨ (v = 0 ∧ ¬ (c ∧ allF (fun i => B + (i : Int) / a4.toInt < dH S l (a2.toInt.toNat + i)) 0 (a3.toInt - a2.toInt + 1).toNat)) → WP ((d + 4), 296, 21, [some (.ref 71), none, some (.int a2), some (.int a3), some (.int a4), some (.int a5), some (.int a6), some (.int (a7 + 1)), none, none, none], [], (xSH L dr tl, xwI I 126 k v, J)) Q) : ∀ (m j : Nat) (v i : Int32), ((j + m : Nat) : Int) = a3.toInt - a2.toInt + 1 → i.toInt = a2.toInt + j → ((v = 1 ∧ c ∧ allF (fun i => B + (i : Int) / a4.toInt < dH S l (a2.toInt.toNat + i)) 0 j) ∨ (v = 0 ∧ ¬ (c ∧ allF (fun i => B + (i : Int) / a4.toInt < dH S l (a2.toInt.toNat + i)) 0 j))) → WP ((d + 4), 296, 101, [some (.ref 71), none, some (.int a2), some (.int a3), some (.int a4), some (.int a5), some (.int a6), some (.int a7), some (.int a8), some (.int v), some (.int i)], [], (xSH L dr tl, I, J)) Q := by
  have pb := plc_le hw l
  have hh := hw.2.2.2.2.2.2.1.1
  have x7 : xIx a7 = k := by rw [xIx_ti, e7]; exact Int.toNat_natCast _
  have i7 : xin a7 201 = true := by rw [xin_iff, e7]; omega
  intro m
  induction m with
  | zero =>
    intro j v i hj hi hv
    refine w296_101 (brz lt_ti (fun _ => ⟨i7, ?_⟩) (fun z => by omega))
    rw [x7]
    have ej : (a3.toInt - a2.toInt + 1).toNat = j := by omega
    rw [ej] at K
    rcases hv with ⟨rfl, hv⟩ | ⟨rfl, hv⟩
    · rw [nar_b1]; exact K 1 (Or.inl ⟨rfl, hv⟩)
    · rw [nar_b0]; exact K 0 (Or.inr ⟨rfl, hv⟩)
  | succ m ih =>
    intro j v i hj hi hv
    have i1 : (i + 1).toInt = a2.toInt + ((j + 1 : Nat) : Int) := by rw [add1 (by omega) (by omega), hi]; omega
    have hP : isP S l ((a2.toInt.toNat + j : Nat) : Int) := plc_isP.mpr ⟨by omega, by omega⟩
    have xi : xIx i = a2.toInt.toNat + j := by rw [xIx_ti, hi]; omega
    have wv := hW (a2.toInt.toNat + j) (by omega) (by omega)
    have k1 : 0 ≤ (j : Int) / a4.toInt := Int.ediv_nonneg (by omega) (by omega)
    have k2 : (j : Int) / a4.toInt ≤ (j : Int) := Int.ediv_le_self _ (by omega)
    have ed : (a8 + (i - a2) / a4).toInt = B + (j : Int) / a4.toInt := by
      have e1 : (i - a2).toInt = j := by rw [sub_ti (by omega) (by omega)]; omega
      have e2 : ((i - a2) / a4).toInt = (j : Int) / a4.toInt := by rw [div_ti (by omega) (by omega), e1]
      rw [addn (by omega) (by omega) (by omega) (by omega), e2, e8]
    have wl := wtE_lt hw hP (B := B + (j : Int) / a4.toInt) (by omega) (by omega)
    have all_s : allF (fun i => B + (i : Int) / a4.toInt < dH S l (a2.toInt.toNat + i)) 0 (j + 1) ↔ allF (fun i => B + (i : Int) / a4.toInt < dH S l (a2.toInt.toNat + i)) 0 j ∧ B + (j : Int) / a4.toInt < dH S l (a2.toInt.toNat + j) := ⟨fun z => ⟨fun i h1 h2 => z i h1 (by omega), z j (by omega) (by omega)⟩, fun z i h1 h2 => by
      by_cases e : i = j
      · rw [e]; exact z.2
      · exact z.1 i h1 (by omega)⟩
    refine w296_101 (brz lt_ti (fun z => by omega) (fun _ => ?_))
    rcases hv with ⟨rfl, hv⟩ | ⟨rfl, hv⟩
    · refine sk (by decide) ⟨fun z => by rw [eq0] at z; omega, by rw [xin_iff, hi]; omega, ?_⟩
      rw [xi]
      refine brz lt_ti (fun y => ih (j + 1) _ _ (by omega) i1 (Or.inl ⟨rfl, hv.1, all_s.mpr ⟨hv.2, wl.mp (by omega)⟩⟩)) (fun y => ih (j + 1) _ _ (by omega) i1 (Or.inr ⟨rfl, fun z => ?_⟩))
      have := wl.mpr (all_s.mp z.2).2
      omega
    · refine hit rfl ⟨i7, ?_⟩
      rw [x7, nar_b0]
      refine K 0 (Or.inr ⟨rfl, fun z => hv ⟨z.1, fun i h1 h2 => z.2 i h1 (by omega)⟩⟩)
theorem fg_guard (hm : MB S I J) (h6 : 1 ≤ a6.toInt ∧ a6.toInt ≤ 1000) (e8 : a8.toInt = B) (h8 : 0 ≤ B ∧ B ≤ 20000) {c : Prop} (K : ∀ v : Int32, (v = 1 ∧ c ∧ freeP S B a6.toInt) ∨ (v = 0 ∧ ¬ (c ∧ freeP S B a6.toInt)) → WP ((d + 4), 296, 101, [some (.ref 71), none, some (.int a2), some (.int a3), some (.int a4), some (.int a5), some (.int a6), some (.int a7), some (.int a8), some (.int v), some (.int a2)], [], (xSH L dr tl, I, J)) Q) : ∀ (m j : Nat) (v i : Int32), ((j + m : Nat) : Int) = a6.toInt → i.toInt = B + j → ((v = 1 ∧ c ∧ allF (fun i => ¬ grd S (B + i)) 0 j) ∨ (v = 0 ∧ ¬ (c ∧ allF (fun i => ¬ grd S (B + i)) 0 j))) → WP ((d + 4), 296, 61, [some (.ref 71), none, some (.int a2), some (.int a3), some (.int a4), some (.int a5), some (.int a6), some (.int a7), some (.int a8), some (.int v), some (.int i)], [], (xSH L dr tl, I, J)) Q := by
  have e86 : (a8 + a6).toInt = B + a6.toInt := by rw [addn (by omega) (by omega) (by omega) (by omega), e8]
  intro m
  induction m with
  | zero =>
    intro j v i hj hi hv
    refine w296_61 (brz lt_ti (fun z => by omega) (fun _ => K v ?_))
    unfold freeP
    rw [show a6.toInt.toNat = j by omega]; exact hv
  | succ m ih =>
    intro j v i hj hi hv
    have i1 : (i + 1).toInt = B + ((j + 1 : Nat) : Int) := by rw [add1 (by omega) (by omega), hi]; omega
    have all_s : allF (fun i => ¬ grd S (B + i)) 0 (j + 1) ↔ allF (fun i => ¬ grd S (B + i)) 0 j ∧ ¬ grd S (B + j) := ⟨fun z => ⟨fun i h1 h2 => z i h1 (by omega), z j (by omega) (by omega)⟩, fun z i h1 h2 => by
      by_cases e : i = j
      · rw [e]; exact z.2
      · exact z.1 i h1 (by omega)⟩
    refine w296_61 (brz lt_ti (fun _ => ?_) (fun z => by omega))
    rcases hv with ⟨rfl, hv⟩ | ⟨rfl, hv⟩
    · refine sk (by decide) ((m_isGuarded hm.1 hm.2.1 (by omega)).u (fun y => br1 (ih (j + 1) _ _ (by omega) i1 (Or.inr ⟨rfl, fun z => ?_⟩))) (fun y => br0 (ih (j + 1) _ _ (by omega) i1 (Or.inl ⟨rfl, hv.1, all_s.mpr ⟨hv.2, ?_⟩⟩))))
      · rw [hi] at y; exact (all_s.mp z.2).2 y
      · rw [hi] at y; exact y
    · refine hit rfl (K 0 (Or.inr ⟨rfl, fun z => hv ⟨z.1, fun i h1 h2 => z.2 i h1 (by omega)⟩⟩))
/-- the row of hours in which a forger can begin -/
def begRow (P : Int → Prop) (s : Int) (I : Nat → Nat → Int32) (k : Nat) : Prop := ∀ j : Nat, j < k → (I 126 j = 1 ∧ P (s + j)) ∨ (I 126 j = 0 ∧ ¬ P (s + j))
theorem fg_rows (q : MInv S I0 J) (h9 : sHr S ≤ 10000) (h2 : isP S a1.toInt a2.toInt) (h3 : isP S a1.toInt a3.toInt) (le : a2.toInt ≤ a3.toInt) (h4 : 1 ≤ a4.toInt ∧ a4.toInt ≤ 64) (ht : 0 ≤ a5.toInt ∧ a5.toInt ≤ 20000) (h6 : 1 ≤ a6.toInt ∧ a6.toInt ≤ 1000) (K : ∀ I1 : Nat → Nat → Int32, backOf I0 I1 → begRow (okB S a1.toInt a2.toInt.toNat (a3.toInt - a2.toInt + 1).toNat a4.toInt a5.toInt a6.toInt) (sHr S) I1 201 → Q (some (.int a6)) (xSH L dr tl, I1, J)) : ∀ (m k : Nat) (i : Int32) (I : Nat → Nat → Int32), k + m = 201 → i.toInt = k → backOf I0 I → (∀ p : Nat, a2.toInt ≤ p → (p : Int) ≤ a3.toInt → (I 127 p).toInt = wtE S a1.toInt p) → begRow (okB S a1.toInt a2.toInt.toNat (a3.toInt - a2.toInt + 1).toNat a4.toInt a5.toInt a6.toInt) (sHr S) I k → WP ((d + 4), 296, 21, [some (.ref 71), none, some (.int a2), some (.int a3), some (.int a4), some (.int a5), some (.int a6), some (.int i), none, none, none], [], (xSH L dr tl, I, J)) Q := by
  have b2 := isP_b q.1 h2
  have b3 := isP_b q.1 h3
  have hh := q.1.2.2.2.2.2.2.1.1
  intro m
  induction m with
  | zero =>
    intro k i I hk hi hb hW hR
    have hk' : k = 201 := by omega
    subst hk'
    exact w296_21 (brz gt200 (fun _ => K I hb hR) (fun z => by omega))
  | succ m ih =>
    intro k i I hk hi hb hW hR
    have i1 : (i + 1).toInt = ((k + 1 : Nat) : Int) := by rw [add1 (by omega) (by omega), hi]; rfl
    have q1 := q.back hb
    have h55 : (I 71 55).toInt = sHr S := q1.2.2.2.1.1
    have eB : (I 71 55 + i).toInt = sHr S + k := by rw [addn (by omega) (by omega) (by omega) (by omega), h55, hi]
    have eC : ((I 71 55 + i) + a6 - 1).toInt = sHr S + k + a6.toInt - 1 := by
      have e : (I 71 55 + i + a6).toInt = sHr S + k + a6.toInt := by rw [addn (by omega) (by omega) (by omega) (by omega), eB]
      rw [sub1 (by omega), e]
    have go : ∀ v : Int32, ((v = 1 ∧ (sHr S + k + a6.toInt - 1 ≤ a5.toInt)) ∨ (v = 0 ∧ ¬ (sHr S + k + a6.toInt - 1 ≤ a5.toInt))) → WP ((d + 4), 296, 61, [some (.ref 71), none, some (.int a2), some (.int a3), some (.int a4), some (.int a5), some (.int a6), some (.int i), some (.int (I 71 55 + i)), some (.int v), some (.int (I 71 55 + i))], [], (xSH L dr tl, I, J)) Q := by
      intro v hv
      refine fg_guard q1.mb h6 eB (by omega) (c := sHr S + k + a6.toInt - 1 ≤ a5.toInt) (fun v2 hv2 => ?_) a6.toInt.toNat 0 v _ (by omega) (by rw [eB]; omega) (hv.elim (fun z => Or.inl ⟨z.1, z.2, allF_e (by omega)⟩) (fun z => Or.inr ⟨z.1, fun y => z.2 y.1⟩))
      refine fg_places q.1 h9 h2.1 b2.2.2.1 (plc_isP.mp h3).2 le h4 eB (by omega) hi (by omega) hW (c := sHr S + k + a6.toInt - 1 ≤ a5.toInt ∧ freeP S (sHr S + k) a6.toInt) (fun v3 hv3 => ?_) (a3.toInt - a2.toInt + 1).toNat 0 v2 a2 (by omega) (by omega) (hv2.elim (fun z => Or.inl ⟨z.1, z.2, allF_e (by omega)⟩) (fun z => Or.inr ⟨z.1, fun y => z.2 y.1⟩))
      refine ih (k + 1) _ _ (by omega) i1 (hb.tr (backOf_w (by decide))) ?_ (fun j hj => ?_)
      · exact hW
      · by_cases e : j = k
        · rw [e, xg]
          rcases hv3 with ⟨e3, z⟩ | ⟨e3, z⟩
          · exact Or.inl ⟨e3, z.1.1, z.1.2, z.2⟩
          · exact Or.inr ⟨e3, fun y => z ⟨⟨y.1, y.2.1⟩, y.2.2⟩⟩
        · rw [xgn e]; exact hR j (by omega)
    refine w296_21 (brz gt200 (fun z => by omega) (fun _ => brz lt_ti (fun y => go 0 (Or.inr ⟨rfl, ?_⟩)) (fun y => go 1 (Or.inl ⟨rfl, ?_⟩))))
    · omega
    · omega
theorem m_forges {R : Int32 → (Nat → Nat → Int32) → (Nat → Nat → Int64) → Prop} (q : MInv S I J) (h9 : sHr S ≤ 10000) (h2 : isP S a1.toInt a2.toInt) (h3 : isP S a1.toInt a3.toInt) (le : a2.toInt ≤ a3.toInt) (h4 : 1 ≤ a4.toInt ∧ a4.toInt ≤ 64) (ht : 0 ≤ a5.toInt ∧ a5.toInt ≤ 20000) (K : ∀ (x : Int32) (I1 : Nat → Nat → Int32), x.toInt = (a3.toInt - a2.toInt) / a4.toInt + 1 → backOf I I1 → begRow (okB S a1.toInt a2.toInt.toNat (a3.toInt - a2.toInt + 1).toNat a4.toInt a5.toInt ((a3.toInt - a2.toInt) / a4.toInt + 1)) (sHr S) I1 201 → R x I1 J) : WP ((d + 5), 296, 0, [some (.ref 71), some (.int a1), some (.int a2), some (.int a3), some (.int a4), some (.int a5), none, none, none, none, none], [], (xSH L dr tl, I, J)) (fun v M => ∃ (r : Int32) (I2 : Nat → Nat → Int32) (J2 : Nat → Nat → Int64), v = some (.int r) ∧ M = (xSH L dr tl, I2, J2) ∧ R r I2 J2) := by
  have b2 := isP_b q.1 h2
  have b3 := isP_b q.1 h3
  have k1 : 0 ≤ (a3.toInt - a2.toInt) / a4.toInt := Int.ediv_nonneg (by omega) (by omega)
  have k2 : (a3.toInt - a2.toInt) / a4.toInt ≤ a3.toInt - a2.toInt := Int.ediv_le_self _ (by omega)
  have e6 : (((a3 - a2) + a4) / a4).toInt = (a3.toInt - a2.toInt) / a4.toInt + 1 := by
    have e1 : (a3 - a2).toInt = a3.toInt - a2.toInt := sub_ti (by omega) (by omega)
    have e2 : (a3 - a2 + a4).toInt = a3.toInt - a2.toInt + a4.toInt := by rw [addn (by omega) (by omega) (by omega) (by omega), e1]
    rw [div_ti (by omega) (by omega), e2]
    have : a3.toInt - a2.toInt + a4.toInt = a3.toInt - a2.toInt + 1 * a4.toInt := by omega
    rw [this, Int.add_mul_ediv_right _ _ (by omega)]
  refine w296_0 (m_wetHours q h9 h2 h3 le fun I1 b1 hW => ⟨fun z => by rw [eq0] at z; omega, ?_⟩)
  exact fg_rows q h9 h2 h3 le h4 ht (by omega) (fun I2 bb hR => ⟨_, I2, J, rfl, rfl, K _ I2 e6 bb (by rw [e6] at hR; exact hR)⟩) 201 0 0 I1 rfl rfl b1 hW (fun j hj => by omega)
theorem m_forge_loop (q : MInv S I J) (h9 : sHr S ≤ 10000) (hR : begRow P (sHr S) I 201) (K : ∀ x : Int32, isLast P (sHr S) x.toInt 201 → Q (some (.int x)) (xSH L dr tl, I, J)) : ∀ (m k : Nat) (c i : Int32), k + m = 201 → i.toInt = k → isLast P (sHr S) c.toInt k → WP ((d + 1), 298, 35, [some (.ref 71), none, none, none, none, none, none, some (.int c), some (.int i)], [], (xSH L dr tl, I, J)) Q := by
  have hh := q.1.2.2.2.2.2.2.1.1
  have h55 : (I 71 55).toInt = sHr S := q.2.2.2.1.1
  intro m
  induction m with
  | zero =>
    intro k c i hk hi hl
    have hk' : k = 201 := by omega
    subst hk'
    exact w298_35 (brz gt200 (fun _ => K c hl) (fun z => by omega))
  | succ m ih =>
    intro k c i hk hi hl
    have i1 : (i + 1).toInt = ((k + 1 : Nat) : Int) := by rw [add1 (by omega) (by omega), hi]; rfl
    have xi : xIx i = k := by rw [xIx_ti, hi]; exact Int.toNat_natCast _
    refine w298_35 (brz gt200 (fun z => by omega) (fun _ => ⟨by rw [xin_iff, hi]; omega, ?_⟩))
    rw [xi]
    rcases hR k (by omega) with ⟨e, hP⟩ | ⟨e, hP⟩
    · rw [e]
      refine sk (by decide) (ih (k + 1) _ _ (by omega) i1 (Or.inr ?_))
      have eB : (I 71 55 + i).toInt = sHr S + k := by rw [addn (by omega) (by omega) (by omega) (by omega), h55, hi]
      rw [eB]
      exact ⟨hP, by omega, by omega, fun B z1 z2 => by omega⟩
    · rw [e]
      refine hit rfl (ih (k + 1) _ _ (by omega) i1 ?_)
      rcases hl with ⟨l1, l2⟩ | ⟨l1, l2, l3, l4⟩
      · refine Or.inl ⟨l1, fun B z1 z2 => ?_⟩
        by_cases eb : B = sHr S + k
        · rw [eb]; exact hP
        · exact l2 B z1 (by omega)
      · refine Or.inr ⟨l1, l2, by omega, fun B z1 z2 => ?_⟩
        by_cases eb : B = sHr S + k
        · rw [eb]; exact hP
        · exact l4 B z1 (by omega)
theorem m_bars_loop (hR : begRow P n I 201) (h6 : 1 ≤ a6.toInt ∧ a6.toInt ≤ 1000) (K : ∀ x : Int32, x.toInt = (barF P n a6.toInt 201).1 → Q (some (.int x)) (xSH L dr tl, I, J)) : ∀ (m k : Nat) (c b i : Int32), k + m = 201 → i.toInt = k → c.toInt = (barF P n a6.toInt k).1 → b.toInt = (barF P n a6.toInt k).2 → (-1 ≤ b.toInt ∧ b.toInt ≤ 3000) → WP ((d + 1), 299, 38, [some (.ref 71), none, none, none, none, none, some (.int a6), some (.int c), some (.int b), some (.int i)], [], (xSH L dr tl, I, J)) Q := by
  intro m
  induction m with
  | zero =>
    intro k c b i hk hi hc hb hbb
    have hk' : k = 201 := by omega
    subst hk'
    exact w299_38 (brz gt200 (fun _ => K c hc) (fun z => by omega))
  | succ m ih =>
    intro k c b i hk hi hc hb hbb
    have i1 : (i + 1).toInt = ((k + 1 : Nat) : Int) := by rw [add1 (by omega) (by omega), hi]; rfl
    have xi : xIx i = k := by rw [xIx_ti, hi]; exact Int.toNat_natCast _
    have cb := barF_b (P := P) (n := a6.toInt) (s := n) k
    refine w299_38 (brz gt200 (fun z => by omega) (fun _ => ⟨by rw [xin_iff, hi]; omega, ?_⟩))
    rw [xi]
    rcases hR k (by omega) with ⟨e, hP⟩ | ⟨e, hP⟩
    · rw [e]
      refine sk (by decide) (brz lt_ti (fun y => ?_) (fun y => ?_))
      · have yb := barF_y (P := P) (n := a6.toInt) (s := n) (k := k) ⟨hP, by omega⟩
        have eb : (i + a6 - 1).toInt = k + a6.toInt - 1 := by rw [sub1 (by rw [addn (by omega) (by omega) (by omega) (by omega)]; omega), addn (by omega) (by omega) (by omega) (by omega), hi]
        exact ih (k + 1) _ _ _ (by omega) i1 (by rw [yb, add1 (by omega) (by omega), hc]) (by rw [yb, eb]) (by omega)
      · have nb := barF_n (P := P) (n := a6.toInt) (s := n) (k := k) (fun w => by have := w.2; omega)
        exact ih (k + 1) _ _ _ (by omega) i1 (by rw [nb]; exact hc) (by rw [nb]; exact hb) hbb
    · rw [e]
      have nb := barF_n (P := P) (n := a6.toInt) (s := n) (k := k) (fun w => hP w.1)
      exact hit rfl (ih (k + 1) _ _ _ (by omega) i1 (by rw [nb]; exact hc) (by rw [nb]; exact hb) hbb)
def planP (S : aS) (l a b pace till : Int) : Prop := (isP S l a ∧ isP S l b ∧ a ≤ b) ∧ (1 ≤ pace ∧ pace ≤ 64) ∧ (sHr S ≤ till ∧ till ≤ sHr S + 200)
theorem gt64 {a : Int32} : 64 < a ↔ 64 < a.toInt := lt_ti
theorem s_canPlan (hc : CB S tl I) : PB ((d + 3), 186, 0, [some (.ref 2), some (.int a1), some (.int a2), some (.int a3), some (.int a4), some (.int a5), none], [], (xSH L dr tl, I, J)) (planP S a1.toInt a2.toInt a3.toInt a4.toInt a5.toInt) (xSH L dr tl, I, J) := by
  have hh := hc.1.2.2.2.2.2.2.1
  refine w186_0 hc.2.1 ((s_hour hc.2.2.2).u fun r1 g1 => (s_told hc.2.1).v ((s_hasSpan hc.1 hc.2.1 hc.2.2.1).u (fun sp => br1 (brz lt1 (fun z => ⟨0, rfl, Or.inr ⟨rfl, fun y => ?_⟩, rfl⟩) (fun z1 => brz gt64 (fun z => ⟨0, rfl, Or.inr ⟨rfl, fun y => ?_⟩, rfl⟩) (fun z2 => brz lt_ti (fun z => ⟨0, rfl, Or.inr ⟨rfl, fun y => ?_⟩, rfl⟩) (fun z3 => brz lt_ti (fun z => ⟨0, rfl, Or.inr ⟨rfl, fun y => ?_⟩, rfl⟩) (fun z4 => ⟨1, rfl, Or.inl ⟨rfl, sp, by omega, ?_⟩, rfl⟩)))))) (fun z => br0 ⟨0, rfl, Or.inr ⟨rfl, fun y => z y.1⟩, rfl⟩)))
  · have := y.2.1.1; omega
  · have := y.2.1.2; omega
  · have := y.2.2.1; omega
  · have := y.2.2.2
    rw [add_ti (by show _ ≤ r1.toInt + 200; omega) (by show r1.toInt + 200 < _; omega)] at z
    have z' : r1.toInt + 200 < a5.toInt := z
    omega
  · rw [add_ti (by show _ ≤ r1.toInt + 200; omega) (by show r1.toInt + 200 < _; omega)] at z4
    have z' : ¬ r1.toInt + 200 < a5.toInt := z4
    omega
theorem m_canForge (q : MInv S I J) : PB ((d + 5), 297, 0, [some (.ref 71), some (.int a1), some (.int a2), some (.int a3), some (.int a4), some (.int a5)], [], (xSH L dr tl, I, J)) (planP S a1.toInt a2.toInt a3.toInt a4.toInt a5.toInt) (xSH L dr tl, I, J) := by
  have hm := q.mb
  have hh := hm.1.2.2.2.2.2.2.1
  have h55 : (I 71 55).toInt = sHr S := q.2.2.2.1.1
  have e2 : (I 71 55 + 200).toInt = sHr S + 200 := by rw [add_ti (by show _ ≤ (I 71 55).toInt + 200; omega) (by show (I 71 55).toInt + 200 < _; omega), h55]; rfl
  refine w297_0 ((m_isSpan hm.1 hm.2.1).u (fun sp => br1 (m_isIn.u (fun y1 => br1 (m_isIn.u (fun y2 => br1 ⟨1, rfl, Or.inl ⟨rfl, sp, ?_, ?_⟩, rfl⟩) (fun y2 => br0 ⟨0, rfl, Or.inr ⟨rfl, fun z => y2 ?_⟩, rfl⟩))) (fun y1 => br0 ⟨0, rfl, Or.inr ⟨rfl, fun z => y1 ?_⟩, rfl⟩))) (fun z => br0 ⟨0, rfl, Or.inr ⟨rfl, fun y => z y.1⟩, rfl⟩))
  · rw [t64] at y1; exact y1
  · rw [t64, t64, t64, e2, h55] at y2; exact y2
  · rw [t64, t64, t64, e2, h55]; exact z.2.2
  · rw [t64]; exact z.2.1
theorem call_forge : Call L (d + 9) 184 298 [.int a1, .int a2, .int a3, .int a4, .int a5] [.int a1, .int a2, .int a3, .int a4, .int a5] S := by
  refine Call.rw fun hRW => ?_
  have h9 : sHr S ≤ 10000 := by have := hRW.1.2; omega
  by_cases h : planP S a1.toInt a2.toInt a3.toInt a4.toInt a5.toInt
  · obtain ⟨⟨h2, h3, le⟩, h4, h5⟩ := id h
    refine Call.stU S (fun v => ∃ r : Int32, v = some (.int r) ∧ isLast (okB S a1.toInt a2.toInt.toNat (a3.toInt - a2.toInt + 1).toNat a4.toInt a5.toInt ((a3.toInt - a2.toInt) / a4.toInt + 1)) (sHr S) r.toInt 201) (fun v v' g g' => ?_) (fun dr tl I J q => ?_) (fun dr tl I J q => ?_)
    · obtain ⟨r, rfl, e⟩ := g
      obtain ⟨r', rfl, e'⟩ := g'
      rw [eq_ti.mpr (isLast_u e' e)]
    · have hc := q.cb
      have hh := hc.1.2.2.2.2.2.2.1.1
      have b2 := isP_b hc.1 h2
      have b3 := isP_b hc.1 h3
      have k1 : 0 ≤ (a3.toInt - a2.toInt) / a4.toInt := Int.ediv_nonneg (by omega) (by omega)
      have k2 : (a3.toInt - a2.toInt) / a4.toInt ≤ a3.toInt - a2.toInt := Int.ediv_le_self _ (by omega)
      have e1 : (a3 - a2).toInt = a3.toInt - a2.toInt := sub_ti (by omega) (by omega)
      refine w184_0 ((s_canPlan hc).u (fun _ => br1 (w82_0 ((s_hoursFor (by omega) (by omega)).u fun r1 g1 => (s_latest hc h9 h2 h3 le h4 (by omega)).u fun r2 g2 => ?_))) (fun z => absurd h z))
      rw [e1] at g1
      have lb := lat_b (S := S) (l := a1.toInt) (p := a2.toInt.toNat) (m := (a3.toInt - a2.toInt + 1).toNat) (pace := a4.toInt) (till := a5.toInt) (n := (a3.toInt - a2.toInt) / a4.toInt + 1) hc.1 (by omega) (by omega) h4.1 (fun i hi => ⟨h3.1, by omega, by have := h3.2.2; omega⟩) (by omega)
      refine begin_loop (P := okB S a1.toInt a2.toInt.toNat (a3.toInt - a2.toInt + 1).toNat a4.toInt a5.toInt ((a3.toInt - a2.toInt) / a4.toInt + 1)) (n := r2.toInt) hc h9 (by omega) (fun B => ?_) (by omega) (fun x hx => ⟨_, _, _, rfl, rfl, ⟨x, rfl, hx⟩, I, J, rfl, keepM_refl, q⟩) (r2.toInt - sHr S + 1).toNat r2 (by omega) (by omega) (Int.le_refl _) (fun B z1 z2 z3 => ?_)
      · rw [okB_iff, g1, g2]
      · rw [okB_iff, ← g2] at z3
        have := z3.1; omega
    · have hm := q.mb
      have hh := hm.1.2.2.2.2.2.2.1.1
      refine w298_0 ((m_canForge q).u (fun _ => br1 (m_forges q h9 h2 h3 le h4 (by omega) fun x I1 ex b hR => ?_)) (fun z => absurd h z))
      exact m_forge_loop (q.back b) h9 hR (fun x hx => ⟨⟨x, rfl, hx⟩, I1, J, rfl, b.kc, q.back b⟩) 201 0 (-1) 0 rfl rfl (Or.inl ⟨rfl, fun B z1 z2 => by omega⟩)
  · refine Call.st S (-1) (fun dr tl I J q => ?_) (fun dr tl I J q => ?_)
    · exact w184_0 ((s_canPlan q.cb).u (fun z => absurd z h) (fun _ => br0 ⟨-1, I, J, rfl, rfl, rfl, keepM_refl, q⟩))
    · exact w298_0 ((m_canForge q).u (fun z => absurd z h) (fun _ => br0 ⟨-1, I, J, rfl, rfl, rfl, keepC_refl, q⟩))
theorem call_bars : Call L (d + 9) 185 299 [.int a1, .int a2, .int a3, .int a4, .int a5] [.int a1, .int a2, .int a3, .int a4, .int a5] S := by
  refine Call.rw fun hRW => ?_
  have h9 : sHr S ≤ 10000 := by have := hRW.1.2; omega
  by_cases h : planP S a1.toInt a2.toInt a3.toInt a4.toInt a5.toInt
  · obtain ⟨⟨h2, h3, le⟩, h4, h5⟩ := id h
    refine Call.st S (barF (okB S a1.toInt a2.toInt.toNat (a3.toInt - a2.toInt + 1).toNat a4.toInt a5.toInt ((a3.toInt - a2.toInt) / a4.toInt + 1)) (sHr S) ((a3.toInt - a2.toInt) / a4.toInt + 1) 201).1 (fun dr tl I J q => ?_) (fun dr tl I J q => ?_)
    · have hc := q.cb
      have hh := hc.1.2.2.2.2.2.2.1.1
      have b2 := isP_b hc.1 h2
      have b3 := isP_b hc.1 h3
      have k1 : 0 ≤ (a3.toInt - a2.toInt) / a4.toInt := Int.ediv_nonneg (by omega) (by omega)
      have k2 : (a3.toInt - a2.toInt) / a4.toInt ≤ a3.toInt - a2.toInt := Int.ediv_le_self _ (by omega)
      have e1 : (a3 - a2).toInt = a3.toInt - a2.toInt := sub_ti (by omega) (by omega)
      refine w185_0 ((s_canPlan hc).u (fun _ => br1 (w83_0 ((s_hoursFor (by omega) (by omega)).u fun r1 g1 => (s_latest hc h9 h2 h3 le h4 (by omega)).u fun r2 g2 => (s_hour hc.2.2.2).u fun r3 g3 => ?_))) (fun z => absurd h z))
      rw [e1] at g1
      have lb := lat_b (S := S) (l := a1.toInt) (p := a2.toInt.toNat) (m := (a3.toInt - a2.toInt + 1).toNat) (pace := a4.toInt) (till := a5.toInt) (n := (a3.toInt - a2.toInt) / a4.toInt + 1) hc.1 (by omega) (by omega) h4.1 (fun i hi => ⟨h3.1, by omega, by have := h3.2.2; omega⟩) (by omega)
      refine bar_loop (P := okB S a1.toInt a2.toInt.toNat (a3.toInt - a2.toInt + 1).toNat a4.toInt a5.toInt ((a3.toInt - a2.toInt) / a4.toInt + 1)) hc h9 (by omega) (fun B => ?_) (by omega) (fun x hx => ⟨x, _, _, rfl, rfl, x, I, J, rfl, ?_, rfl, keepM_refl, q⟩) 201 0 (-1) 0 r3 rfl (by omega) rfl (Or.inl ⟨rfl, rfl⟩) ⟨(by decide : (-1 : Int) ≤ -1), (by decide : (-1 : Int) ≤ 3000)⟩
      · rw [okB_iff, g1, g2]
      · rw [hx, g1]
    · have hm := q.mb
      have hh := hm.1.2.2.2.2.2.2.1.1
      have b2 := isP_b hm.1 h2
      have b3 := isP_b hm.1 h3
      have k1 : 0 ≤ (a3.toInt - a2.toInt) / a4.toInt := Int.ediv_nonneg (by omega) (by omega)
      have k2 : (a3.toInt - a2.toInt) / a4.toInt ≤ a3.toInt - a2.toInt := Int.ediv_le_self _ (by omega)
      refine w299_0 ((m_canForge q).u (fun _ => br1 (m_forges q h9 h2 h3 le h4 (by omega) fun x I1 ex b hR => ?_)) (fun z => absurd h z))
      refine m_bars_loop (n := sHr S) hR (by omega) (fun y hy => ⟨y, I1, J, rfl, ?_, rfl, b.kc, q.back b⟩) 201 0 0 (-1) 0 rfl rfl rfl rfl ⟨(by decide : (-1 : Int) ≤ -1), (by decide : (-1 : Int) ≤ 3000)⟩
      rw [hy, ex]
  · refine Call.st S (-1) (fun dr tl I J q => ?_) (fun dr tl I J q => ?_)
    · exact w185_0 ((s_canPlan q.cb).u (fun z => absurd z h) (fun _ => br0 ⟨-1, I, J, rfl, rfl, rfl, keepM_refl, q⟩))
    · exact w299_0 ((m_canForge q).u (fun z => absurd z h) (fun _ => br0 ⟨-1, I, J, rfl, rfl, rfl, keepC_refl, q⟩))
end FORGEM2
