/-! ===== hire: the reference's fewest ===== -/
section HIREM4
variable {S : aS} {L d dr tl : Nat} {I I0 I1 I2 : Nat → Nat → Int32} {J : Nat → Nat → Int64} {a1 a2 a3 a4 a5 x : Int32} {r q p m n : Nat} {l : Int} {f c c' h : Nat → Int} {A : Int} {Q : Option Value → xMem → Prop} {D D' : (Nat → Int) → Prop}
theorem lookG_n (en : sNR S = n) : ∀ m : Nat, lookG S p (n + m) = lookG S p n := by
  intro m
  induction m with
  | zero => rfl
  | succ m ih =>
    show lookG S p (n + m) + (if lkB S p (n + m) = true then 2 ^ (n + m) else 0) = _
    rw [if_neg (fun z => by have := (lkB_t.mp z).1.2; rw [en] at this; omega), ih]
    exact Nat.add_zero _
theorem lookG_4 (en : sNR S = n) (hn : n ≤ 4) : lookG S p 4 = lookG S p n := by
  have := lookG_n (p := p) en (4 - n)
  rw [show n + (4 - n) = 4 by omega] at this
  exact this
theorem pw16 (hn : n ≤ 4) : 1 ≤ 2 ^ n ∧ 2 ^ n ≤ 16 := by
  have nn : n = 0 ∨ n = 1 ∨ n = 2 ∨ n = 3 ∨ n = 4 := by omega
  rcases nn with rfl | rfl | rfl | rfl | rfl <;> decide
theorem askF_z (en : sNR S = n) (hn : n ≤ 4) : ∀ (m g : Nat), 2 ^ n ≤ g → askF S l p m g = 0 := by
  intro m
  induction m with
  | zero => intro g _; rfl
  | succ m ih =>
    intro g hg
    have lt := lookG_lt (S := S) (p := p + m) n
    rw [← lookG_4 en hn] at lt
    show updF (askF S l p m) (lookG S (p + m) 4) _ g = 0
    rw [updF_n (by omega)]
    exact ih g hg
theorem full_fok (hw : WF S) (en : sNR S = n) (hn : n ≤ 4) {N : Nat} (hP : ∀ i : Nat, i < N → isP S l ((p + i : Nat) : Int)) : fOK (fullF S l p N) n ∧ ∀ r : Nat, r < n → fullF S l p N (16 + r) = S 8 r := by
  have b := askF_b hw N hP
  have hN := hw.2.2.2.1
  refine ⟨⟨fun g hg => ?_, fun g hg h16 => ?_, fun r hr => ?_⟩, fun r hr => ?_⟩
  · have e : fullF S l p N g = askF S l p N g := if_pos hg
    rw [e]; exact b g
  · have e : fullF S l p N g = askF S l p N g := if_pos h16
    rw [e]; exact askF_z en hn N g hg
  · unfold fullF
    rw [if_neg (by omega), show 16 + r - 16 = r by omega]
    split
    · rename_i z
      have := hN.2.2 r z
      omega
    · omega
  · unfold fullF
    rw [if_neg (by omega), show 16 + r - 16 = r by omega, if_pos (by rw [en]; omega)]
theorem skip_loop (hm : MB S I J) (en : sNR S = n) (hn : n ≤ 4) (e4 : a4.toInt = p) (K : WP ((d + 4), 287, 39, [some (.ref 71), some (.int a1), none, some (.int a3), some (.int a4), some (.int (Int32.ofNat (2 ^ n - 1 - lookG S p n))), some (.int (Int32.ofNat n))], [], (xSH L dr tl, I, J)) Q) : ∀ m k : Nat, k + m = n → WP ((d + 4), 287, 39, [some (.ref 71), some (.int a1), none, some (.int a3), some (.int a4), some (.int (Int32.ofNat (2 ^ k - 1 - lookG S p k))), some (.int (Int32.ofNat k))], [], (xSH L dr tl, I, J)) Q := by
  intro m
  induction m with
  | zero => intro k hk; rw [show k = n by omega]; exact K
  | succ m ih =>
    intro k hk
    have lg := lookG_lt (S := S) (p := p) k
    have ek : (Int32.ofNat k).toInt = k := ofN16 k (by omega)
    have i1 : Int32.ofNat k + 1 = Int32.ofNat (k + 1) := eq_ti.mpr (by rw [add1 (by omega) (by omega), ek, ofN16 (k + 1) (by omega)]; rfl)
    have es : lookG S p (k + 1) = lookG S p k + (if lkB S p k = true then 2 ^ k else 0) := rfl
    have pw : 2 ^ (k + 1) = 2 ^ k + 2 ^ k := by rw [Nat.pow_succ]; omega
    have hr : isRd S (Int32.ofNat k).toInt := by rw [ek]; exact ⟨by omega, by rw [en]; omega⟩
    refine w287_39 ((m_people hm.2.1).u fun r1 h1 => hit (lt_ti.mpr (by rw [ek, h1, en]; omega)) ((m_isSkipped hm.1 hm.2.1 hr (by omega)).u (fun y => br1 ?_) (fun y => br0 ?_)))
    · rw [ek, e4] at y
      rw [i1, or_g k (by omega) _ (by omega)]
      rw [if_neg (fun z => y (lkB_t.mp z))] at es
      rw [show 2 ^ k - 1 - lookG S p k + 2 ^ k = 2 ^ (k + 1) - 1 - lookG S p (k + 1) by omega]
      exact ih (k + 1) (by omega)
    · rw [ek, e4] at y
      rw [i1]
      rw [if_pos (lkB_t.mpr (Classical.not_not.mp y))] at es
      rw [show 2 ^ k - 1 - lookG S p k = 2 ^ (k + 1) - 1 - lookG S p (k + 1) by omega]
      exact ih (k + 1) (by omega)
theorem NB_up (hn : n ≤ 4) {g : Nat} (hg : g < 2 ^ n) {v : Int} {w : Int32} (hv : w.toInt = v) (nb : NB f n I) : NB (updF f g v) n (xwI I 119 (2 ^ n - 1 - g) w) := by
  intro j hj
  have pw := pw16 hn
  by_cases e : j = 2 ^ n - 1 - g
  · rw [e, xg, if_pos (by omega), show 2 ^ n - 1 - (2 ^ n - 1 - g) = g by omega, updF_s]; exact hv
  · rw [xgn e, nb j hj]
    by_cases z : j < 2 ^ n
    · rw [if_pos z, if_pos z, updF_n (by omega)]
    · rw [if_neg z, if_neg z]
theorem places_loop (q : MInv S I J) (en : sNR S = n) (hn : n ≤ 4) (h2 : 0 ≤ a2.toInt) (h3 : a3.toInt < plc S a1.toInt) {N : Nat} (eN : (N : Int) = a3.toInt - a2.toInt + 1) (K : ∀ I1 : Nat → Nat → Int32, frN I I1 → NB (askF S a1.toInt a2.toInt.toNat N) n I1 → WP ((d + 4), 287, 131, [some (.ref 71), none, none, none, some (.int 0), some (.int 0), none], [], (xSH L dr tl, I1, J)) Q) : ∀ (m k : Nat) (i : Int32) (I1 : Nat → Nat → Int32), k + m = N → i.toInt = a2.toInt + k → frN I I1 → NB (askF S a1.toInt a2.toInt.toNat k) n I1 → WP ((d + 4), 287, 27, [some (.ref 71), some (.int a1), none, some (.int a3), some (.int i), none, none], [], (xSH L dr tl, I1, J)) Q := by
  have pw := pw16 hn
  have hw := q.mb.1
  have pb := plc_le hw a1.toInt
  intro m
  induction m with
  | zero =>
    intro k i I1 hk hi fr1 nb
    have e : N = k := by omega
    subst e
    exact w287_27 (hit (lt_ti.mpr (by omega)) (K I1 fr1 nb))
  | succ m ih =>
    intro k i I1 hk hi fr1 nb
    have q1 := q.frn fr1
    have hm := q1.mb
    have i1 : (i + 1).toInt = a2.toInt + ((k + 1 : Nat) : Int) := by rw [add1 (by omega) (by omega), hi]; omega
    have hP : isP S a1.toInt i.toInt := plc_isP.mpr ⟨by omega, by omega⟩
    have hi' : i.toInt = ((a2.toInt.toNat + k : Nat) : Int) := by omega
    obtain ⟨s1, s2, s3⟩ := slot_m hm.1 hP
    have lt := lookG_lt (S := S) (p := a2.toInt.toNat + k) n
    have l4 := lookG_4 (p := a2.toInt.toNat + k) en hn
    have ej : (Int32.ofNat (2 ^ n - 1 - lookG S (a2.toInt.toNat + k) n)).toInt = ((2 ^ n - 1 - lookG S (a2.toInt.toNat + k) n : Nat) : Int) := ofN16 _ (by omega)
    have xj : xIx (Int32.ofNat (2 ^ n - 1 - lookG S (a2.toInt.toNat + k) n)) = 2 ^ n - 1 - lookG S (a2.toInt.toNat + k) n := by rw [xIx_ti, ej]; exact Int.toNat_natCast _
    have hj : xin (Int32.ofNat (2 ^ n - 1 - lookG S (a2.toInt.toNat + k) n)) 16 = true := by rw [xin_iff, ej]; omega
    have e16 : (I1 111 (slot a1.toInt i.toInt)).toInt = S 16 (slot a1.toInt i.toInt) := (hm.2.2.2.1 _ _ hP).2.1
    have ea : (I1 119 (2 ^ n - 1 - lookG S (a2.toInt.toNat + k) n)).toInt = askF S a1.toInt a2.toInt.toNat k (lookG S (a2.toInt.toNat + k) n) := by
      rw [nb _ (by omega), if_pos (by omega)]
      congr 1
      omega
    have en2 : (Int32.ofNat n).toInt = n := ofN16 n (by omega)
    have nx : ∀ w : Int32, w.toInt = max (askF S a1.toInt a2.toInt.toNat k (lookG S (a2.toInt.toNat + k) n)) (S 16 (slot a1.toInt i.toInt)) → NB (askF S a1.toInt a2.toInt.toNat (k + 1)) n (xwI I1 119 (2 ^ n - 1 - lookG S (a2.toInt.toNat + k) n) w) := by
      intro w hw'
      have e : askF S a1.toInt a2.toInt.toNat (k + 1) = updF (askF S a1.toInt a2.toInt.toNat k) (lookG S (a2.toInt.toNat + k) 4) (max (askF S a1.toInt a2.toInt.toNat k (lookG S (a2.toInt.toNat + k) 4)) (S 16 (slot a1.toInt (a2.toInt.toNat + k : Nat)))) := rfl
      rw [e, l4, ← hi']
      exact NB_up hn lt hw' nb
    refine w287_27 (sk (fun z => by rw [lt_ti] at z; omega) (skip_loop hm en hn hi' ?_ n 0 (by omega)))
    refine w287_39 ((m_people hm.2.1).u fun r1 h1 => sk (fun z => by rw [lt_ti, en2, h1, en] at z; omega) ⟨s3, hj, ?_⟩)
    rw [s2, xj]
    refine brz lt_ti (fun y => ⟨hj, ih (k + 1) _ _ (by omega) i1 (fr1.tr (frN_w (by decide))) (nx _ ?_)⟩) (fun y => ⟨hj, hj, ih (k + 1) _ _ (by omega) i1 (fr1.tr (frN_w (by decide))) (nx _ ?_)⟩)
    · rw [e16]; rw [ea, e16] at y; omega
    · rw [ea]; rw [ea, e16] at y; omega
theorem most131 (K : ∀ v : Int32, v.toInt = maxI (fun j => (I 119 j).toInt) 16 → WP ((d + 4), 287, 173, [some (.ref 71), none, none, none, some (.int v), some (.int 0), none], [], (xSH L dr tl, I, J)) Q) : ∀ (m k : Nat) (v i : Int32), k + m = 16 → i.toInt = k → v.toInt = maxI (fun j => (I 119 j).toInt) k → WP ((d + 4), 287, 131, [some (.ref 71), none, none, none, some (.int v), some (.int i), none], [], (xSH L dr tl, I, J)) Q := by
  intro m
  induction m with
  | zero =>
    intro k v i hk hi hv
    have e : k = 16 := by omega
    subst e
    exact w287_131 (sk (fun z => by rw [lt_ti] at z; have : (16 : Int32).toInt = 16 := rfl; omega) (K v hv))
  | succ m ih =>
    intro k v i hk hi hv
    have i1 : (i + 1).toInt = ((k + 1 : Nat) : Int) := by rw [add1 (by omega) (by omega), hi]; rfl
    have xi : xIx i = k := by rw [xIx_ti, hi]; exact Int.toNat_natCast _
    have hx : xin i 16 = true := by rw [xin_iff, hi]; omega
    have e : maxI (fun j => (I 119 j).toInt) (k + 1) = max (maxI (fun j => (I 119 j).toInt) k) (I 119 k).toInt := rfl
    refine w287_131 (hit (lt_ti.mpr (by rw [hi]; show (k : Int) < 16; omega)) ⟨hx, ?_⟩)
    rw [xi]
    exact brz lt_ti (fun y => ⟨hx, ih (k + 1) _ _ (by omega) i1 (by omega)⟩) (fun y => ih (k + 1) _ _ (by omega) i1 (by omega))
theorem zero173 (K : ∀ I1 : Nat → Nat → Int32, frN I I1 → I1 119 = I 119 → (∀ r : Nat, r < 4 → I1 121 r = 0) → WP ((d + 4), 287, 173, [some (.ref 71), none, none, none, some (.int a4), some (.int 4), none], [], (xSH L dr tl, I1, J)) Q) : ∀ (m k : Nat) (i : Int32) (I1 : Nat → Nat → Int32), k + m = 4 → i.toInt = k → frN I I1 → I1 119 = I 119 → (∀ r : Nat, r < k → I1 121 r = 0) → WP ((d + 4), 287, 173, [some (.ref 71), none, none, none, some (.int a4), some (.int i), none], [], (xSH L dr tl, I1, J)) Q := by
  intro m
  induction m with
  | zero =>
    intro k i I1 hk hi fr1 e1 hz
    have e : i = 4 := eq_ti.mpr (by rw [hi]; show (k : Int) = 4; omega)
    rw [e]
    exact K I1 fr1 e1 (fun r hr => hz r (by omega))
  | succ m ih =>
    intro k i I1 hk hi fr1 e1 hz
    have i1 : (i + 1).toInt = ((k + 1 : Nat) : Int) := by rw [add1 (by omega) (by omega), hi]; rfl
    have xi : xIx i = k := by rw [xIx_ti, hi]; exact Int.toNat_natCast _
    refine w287_173 (hit (lt4.mpr (by omega)) ⟨by rw [xin_iff, hi]; omega, ih (k + 1) _ _ (by omega) i1 (fr1.tr (frN_w (by decide))) (by rw [xwI_ne (by decide)]; exact e1) (fun r hr => ?_)⟩)
    rw [xi]
    by_cases e : r = k
    · rw [e, xg]
    · rw [xgn e]; exact hz r (by omega)
theorem zero14 (K : ∀ I1 : Nat → Nat → Int32, frN I I1 → I1 119 = I 119 → I1 71 71 = I 71 71 → (∀ r : Nat, r < 4 → I1 120 r = 0) → WP ((d + 3), 286, 34, [some (.ref 71), some (.int a1), some (.int a2), some (.int 1), none, none], [], (xSH L dr tl, I1, J)) Q) : ∀ (m k : Nat) (i : Int32) (I1 : Nat → Nat → Int32), k + m = 4 → i.toInt = k → frN I I1 → I1 119 = I 119 → I1 71 71 = I 71 71 → (∀ r : Nat, r < k → I1 120 r = 0) → WP ((d + 3), 286, 14, [some (.ref 71), some (.int a1), some (.int a2), some (.int i), none, none], [], (xSH L dr tl, I1, J)) Q := by
  intro m
  induction m with
  | zero =>
    intro k i I1 hk hi fr1 e1 e7 hz
    exact w286_14 (sk (fun z => by rw [lt4] at z; omega) (K I1 fr1 e1 e7 (fun r hr => hz r (by omega))))
  | succ m ih =>
    intro k i I1 hk hi fr1 e1 e7 hz
    have i1 : (i + 1).toInt = ((k + 1 : Nat) : Int) := by rw [add1 (by omega) (by omega), hi]; rfl
    have xi : xIx i = k := by rw [xIx_ti, hi]; exact Int.toNat_natCast _
    refine w286_14 (hit (lt4.mpr (by omega)) ⟨by rw [xin_iff, hi]; omega, ih (k + 1) _ _ (by omega) i1 (fr1.tr (frN_w (by decide))) (by rw [xwI_ne (by decide)]; exact e1) (by rw [xwI_ne (by decide)]; exact e7) (fun r hr => ?_)⟩)
    rw [xi]
    by_cases e : r = k
    · rw [e, xg]
    · rw [xgn e]; exact hz r (by omega)
theorem cur_first (h1 : 1 ≤ n) (hn : n ≤ 4) (hz : ∀ r : Nat, r < 4 → hI4 I r = 0) (hc : memA n A c') : ¬ ltC c' (curC I n A) := by
  have z0 := hz 0 (by decide)
  have z1 := hz 1 (by decide)
  have z2 := hz 2 (by decide)
  have ht : hTot c' = c' 0 + c' 1 + c' 2 + c' 3 := rfl
  obtain ⟨v1, v2, v3, v4⟩ := cur_v (I := I) (A := A) h1 hn
  obtain ⟨m0, m1, m2, m3, m4, m5, m6, m7⟩ := hc
  unfold ltC
  have nn : n = 1 ∨ n = 2 ∨ n = 3 ∨ n = 4 := by omega
  rcases nn with rfl | rfl | rfl | rfl
  · obtain ⟨w0, w1, w2, w3, w4⟩ := v1 rfl
    have := m5 (by decide)
    have := m6 (by decide)
    have := m7 (by decide)
    clear v1 v2 v3 v4 m5 m6 m7
    omega
  · obtain ⟨w0, w1, w2, w3, w4⟩ := v2 rfl
    have := m5 (by decide)
    have := m6 (by decide)
    clear v1 v2 v3 v4 m5 m6 m7
    omega
  · obtain ⟨w0, w1, w2, w3, w4⟩ := v3 rfl
    have := m5 (by decide)
    clear v1 v2 v3 v4 m5 m6 m7
    omega
  · obtain ⟨w0, w1, w2, w3, w4⟩ := v4 rfl
    clear v1 v2 v3 v4 m5 m6 m7
    omega
theorem sum_z (hz : ∀ r : Nat, r < n → h r = 0) : ∀ k : Nat, k ≤ n → sumI h k = 0 := by
  intro k
  induction k with
  | zero => intro _; rfl
  | succ k ih =>
    intro hk
    show sumI h k + h k = 0
    rw [ih (by omega), hz k (by omega)]; rfl
theorem m_isParted {R : Int32 → (Nat → Nat → Int32) → (Nat → Nat → Int64) → Prop} (q : MInv S I J) (en : sNR S = n) (h1 : 1 ≤ n) (hn : n ≤ 4) (hf : fOK f n) (hp : ∀ r : Nat, r < n → f (16 + r) = S 8 r) (e1 : a1.toInt = A) (hA : 0 ≤ A ∧ A ≤ 1000) (nb : NB f n I) (K : ∀ I2 : Nat → Nat → Int32, frN I I2 → NB f n I2 → partI f n A (fun _ => True) I2 → ((I2 71 71).toInt = -1 → R 0 I2 J) ∧ (¬ (I2 71 71).toInt = -1 → R 1 I2 J)) : WP ((d + 3), 286, 0, [some (.ref 71), some (.int a1), none, none, none, none], [], (xSH L dr tl, I, J)) (fun v M => ∃ (r : Int32) (I2 : Nat → Nat → Int32) (J2 : Nat → Nat → Int64), v = some (.int r) ∧ M = (xSH L dr tl, I2, J2) ∧ R r I2 J2) := by
  have q0 : MInv S (xwI I 71 71 (-1)) J := q.frn frN_p
  have em1 : (-1 : Int32).toInt = -1 := rfl
  refine w286_0 ((m_people q0.mb.2.1).u fun r1 g1 => zero14 (I := xwI I 71 71 (-1)) (fun I1 fr1 e119 e71 hz => ?_) 4 0 0 _ rfl rfl frN_refl rfl rfl (fun r hr => by omega))
  have e2 : (r1 - 1).toInt = (n : Int) - 1 := by rw [sub1 (by omega), g1, en]
  have hz' : ∀ r : Nat, r < 4 → hI4 I1 r = 0 := fun r hr => by unfold hI4; rw [hz r hr]; rfl
  have e7 : (I1 71 71).toInt = -1 := by rw [e71, xg]; rfl
  have nb1 : NB f n I1 := NB_fr nb (by rw [e119, xwI_ne (by decide)])
  refine part_loop (I0 := I) q en h1 hn hf hp e1 hA e2 (fun I2 f2 nb2 pi2 => ?_) _ _ _ I1 rfl rfl rfl ⟨fun i hi => by rw [hz' i (by omega)]; exact Int.le_refl _, ?_, fun i _ hi => hz' i hi⟩ (frN_p.tr fr1) nb1 (Or.inl ⟨e7, fun c' hc' _ => cur_first h1 hn hz' hc'⟩)
  · have kk := K I2 f2 nb2 pi2
    exact w286_34 (hit rfl (brz eqm (fun y => ⟨0, I2, J, rfl, rfl, kk.1 y⟩) (fun y => ⟨1, I2, J, rfl, rfl, kk.2 y⟩)))
  · rw [sum_z (n := n - 1) (fun r hr => hz' r (by omega)) _ (Nat.le_refl _)]; exact hA.1
theorem trunc (hf : fOK f n) (h1 : 1 ≤ n) (hn : n ≤ 4) (hc : hFeas f c) (hA : hTot c = A) (least : ∀ c' : Nat → Int, hFeas f c' → A ≤ hTot c') : memA n A c := by
  have ht : hTot c = c 0 + c 1 + c 2 + c 3 := rfl
  have fz := hf.2.1
  obtain ⟨⟨p0, p1, p2, p3⟩, g0, g1, g2, g3, g4, g5, g6, g7, g8, g9, g10, g11, g12, g13, g14, g15⟩ := hF16.mp hc
  refine ⟨p0, p1, p2, p3, hA, ?_⟩
  rw [ht] at hA
  have nn : n = 1 ∨ n = 2 ∨ n = 3 ∨ n = 4 := by omega
  rcases nn with rfl | rfl | rfl | rfl
  · have l := least (mkC (c 0) 0 0 0) (hF16.mpr ?_)
    · have : hTot (mkC (c 0) 0 0 0) = c 0 + 0 + 0 + 0 := rfl
      rw [this] at l
      exact ⟨fun _ => by omega, fun _ => by omega, fun _ => by omega⟩
    · have e0 : mkC (c 0) 0 0 0 0 = c 0 := rfl
      have e1 : mkC (c 0) 0 0 0 1 = 0 := rfl
      have e2 : mkC (c 0) 0 0 0 2 = 0 := rfl
      have e3 : mkC (c 0) 0 0 0 3 = 0 := rfl
      rw [e0, e1, e2, e3, fz 2 (by decide) (by decide), fz 3 (by decide) (by decide), fz 4 (by decide) (by decide), fz 5 (by decide) (by decide), fz 6 (by decide) (by decide), fz 7 (by decide) (by decide), fz 8 (by decide) (by decide), fz 9 (by decide) (by decide), fz 10 (by decide) (by decide), fz 11 (by decide) (by decide), fz 12 (by decide) (by decide), fz 13 (by decide) (by decide), fz 14 (by decide) (by decide), fz 15 (by decide) (by decide)]
      omega
  · have l := least (mkC (c 0) (c 1) 0 0) (hF16.mpr ?_)
    · have : hTot (mkC (c 0) (c 1) 0 0) = c 0 + c 1 + 0 + 0 := rfl
      rw [this] at l
      exact ⟨fun _ => by omega, fun _ => by omega, fun z => by omega⟩
    · have e0 : mkC (c 0) (c 1) 0 0 0 = c 0 := rfl
      have e1 : mkC (c 0) (c 1) 0 0 1 = c 1 := rfl
      have e2 : mkC (c 0) (c 1) 0 0 2 = 0 := rfl
      have e3 : mkC (c 0) (c 1) 0 0 3 = 0 := rfl
      rw [e0, e1, e2, e3, fz 4 (by decide) (by decide), fz 5 (by decide) (by decide), fz 6 (by decide) (by decide), fz 7 (by decide) (by decide), fz 8 (by decide) (by decide), fz 9 (by decide) (by decide), fz 10 (by decide) (by decide), fz 11 (by decide) (by decide), fz 12 (by decide) (by decide), fz 13 (by decide) (by decide), fz 14 (by decide) (by decide), fz 15 (by decide) (by decide)]
      omega
  · have l := least (mkC (c 0) (c 1) (c 2) 0) (hF16.mpr ?_)
    · have : hTot (mkC (c 0) (c 1) (c 2) 0) = c 0 + c 1 + c 2 + 0 := rfl
      rw [this] at l
      exact ⟨fun _ => by omega, fun z => by omega, fun z => by omega⟩
    · have e0 : mkC (c 0) (c 1) (c 2) 0 0 = c 0 := rfl
      have e1 : mkC (c 0) (c 1) (c 2) 0 1 = c 1 := rfl
      have e2 : mkC (c 0) (c 1) (c 2) 0 2 = c 2 := rfl
      have e3 : mkC (c 0) (c 1) (c 2) 0 3 = 0 := rfl
      rw [e0, e1, e2, e3, fz 8 (by decide) (by decide), fz 9 (by decide) (by decide), fz 10 (by decide) (by decide), fz 11 (by decide) (by decide), fz 12 (by decide) (by decide), fz 13 (by decide) (by decide), fz 14 (by decide) (by decide), fz 15 (by decide) (by decide)]
      omega
  · exact ⟨fun z => by omega, fun z => by omega, fun z => by omega⟩
/-- the search over so many and more -/
theorem fewest_loop (en : sNR S = n) (h1 : 1 ≤ n) (hn : n ≤ 4) (hf : fOK f n) (hp : ∀ r : Nat, r < n → f (16 + r) = S 8 r) (f0 : f 0 ≤ 0) (K : ∀ (I2 : Nat → Nat → Int32) (v : Int32), frN I I2 → hBest f (bI4 I2) → (I2 71 71).toInt = hPay f (bI4 I2) → v.toInt = hTot (bI4 I2) → Q (some (.int v)) (xSH L dr tl, I2, J)) : ∀ (m : Nat) (v : Int32) (I1 : Nat → Nat → Int32), 397 - v.toInt < m → 0 ≤ v.toInt → MInv S I1 J → frN I I1 → NB f n I1 → (∀ c' : Nat → Int, hFeas f c' → v.toInt ≤ hTot c') → WP ((d + 4), 287, 227, [some (.ref 71), none, none, none, none, some (.int v), none], [], (xSH L dr tl, I1, J)) Q := by
  have all : hFeas f (mkC 99 99 99 99) := by
    have b := hf.1
    rw [hF16]
    have e0 : mkC 99 99 99 99 0 = 99 := rfl
    have e1 : mkC 99 99 99 99 1 = 99 := rfl
    have e2 : mkC 99 99 99 99 2 = 99 := rfl
    have e3 : mkC 99 99 99 99 3 = 99 := rfl
    rw [e0, e1, e2, e3]
    have b1 := b 1 (by decide)
    have b2 := b 2 (by decide)
    have b3 := b 3 (by decide)
    have b4 := b 4 (by decide)
    have b5 := b 5 (by decide)
    have b6 := b 6 (by decide)
    have b7 := b 7 (by decide)
    have b8 := b 8 (by decide)
    have b9 := b 9 (by decide)
    have b10 := b 10 (by decide)
    have b11 := b 11 (by decide)
    have b12 := b 12 (by decide)
    have b13 := b 13 (by decide)
    have b14 := b 14 (by decide)
    have b15 := b 15 (by decide)
    exact ⟨⟨by omega, by omega, by omega, by omega⟩, f0, by omega, by omega, by omega, by omega, by omega, by omega, by omega, by omega, by omega, by omega, by omega, by omega, by omega, by omega, by omega⟩
  intro m
  induction m with
  | zero =>
    intro v I1 hm h0 q1 fr1 nb inv
    have := inv _ all
    have e : hTot (mkC 99 99 99 99) = 396 := rfl
    omega
  | succ m ih =>
    intro v I1 hm h0 q1 fr1 nb inv
    have up := inv _ all
    have e : hTot (mkC 99 99 99 99) = 396 := rfl
    rw [e] at up
    refine w287_227 (m_isParted (A := v.toInt) q1 en h1 hn hf hp rfl ⟨h0, by omega⟩ nb (fun I2 f2 nb2 pi2 => ⟨fun y => br0 ?_, fun y => br1 ?_⟩))
    · have v1 : (v + 1).toInt = v.toInt + 1 := add1 (by omega) (by omega)
      generalize v + 1 = v' at v1 ⊢
      refine ih v' I2 (by omega) (by omega) (q1.frn f2) (fr1.tr f2) nb2 (fun c' hc' => ?_)
      have g := inv c' hc'
      by_cases z : hTot c' = v.toInt
      · exfalso
        rcases pi2 with ⟨_, pi2⟩ | pi2
        · exact pi2 c' (trunc hf h1 hn hc' z inv) hc' trivial
        · have := pi2.1; omega
      · omega
    · rcases pi2 with pi2 | ⟨g1, g2, g3, _, g5, g6⟩
      · exact absurd pi2.1 y
      · have gt := g2.2.2.2.2.1
        refine K I2 v (fr1.tr f2) ⟨g3, fun c' hc' => ?_⟩ g5 gt.symm
        have g := inv c' hc'
        by_cases z : hTot c' = v.toInt
        · exact Or.inr ⟨by omega, g6 c' (trunc hf h1 hn hc' z inv) hc' trivial⟩
        · left; omega
end HIREM4
