/-! ===== book: the class's statements, one by one ===== -/
/-- a method of the class reads a statement -/
def CT (L dr tl : Nat) (t : Tp) (mt : Nat) (ls : xLs) (f : Bk → Lx → RX St) (D : Nat) : Prop :=
  ∀ (s : Lx) (b : Bk) (I : Nat → Nat → Int32) (J : Nat → Nat → Int64) (R : (Nat → Nat → Int32) → (Nat → Nat → Int64) → Prop), TP t I → PG dr t s b.2 I → DB b.1 dr I → WB b → (∀ I1 : Nat → Nat → Int32, frD dr I I1 → SPo dr t (f b s) I1 → R I1 J) → WP (D, mt, 0, ls, [], (xSH L dr tl, I, J)) (fun v M => ∃ (I2 : Nat → Nat → Int32) (J2 : Nat → Nat → Int64), v = none ∧ M = (xSH L dr tl, I2, J2) ∧ R I2 J2)
section STMD
variable {t : Tp} {L d dr tl : Nat} {I I0 I1 I2 : Nat → Nat → Int32} {J : Nat → Nat → Int64} {a0 a1 a2 a3 a4 a5 a6 : Int32} {s s2 : Lx} {k l v v1 v2 v3 lo hi : Int} {R : (Nat → Nat → Int32) → (Nat → Nat → Int64) → Prop} {c : List Int} {x : RX Lx} {B : aS} {b : Bk} {P : Prop} {q r N M w s0 : Nat}
theorem chS_ok {n : Nat} {s s2 : Lx} (h : chS t n s = .ok s2) : s2 = s ∧ kd t s = 2 ∧ ps t s ≤ qq t s + n := by
  unfold chS at h
  split at h
  · cases h
  · split at h
    · cases h
    · cases h
      exact ⟨rfl, by omega, by omega⟩
theorem chN_ok {s s2 : Lx} (h : chN t s = .ok s2) : s2 = s ∧ kd t s = 2 ∧ ps t s ≤ qq t s + 6 ∧ ow t s = -1 := by
  unfold chN at h
  split at h
  · cases h
  · rename_i z
    obtain ⟨h1, h2, h3⟩ := chS_ok h
    exact ⟨h1, h2, h3, by omega⟩
theorem chW_ok {s s2 : Lx} (h : chW t B s = .ok s2) : s2 = s ∧ kd t s = 2 ∧ ps t s ≤ qq t s + 6 ∧ ow t s = -1 ∧ fdK t B s = -1 ∧ fdR t B s = -1 := by
  obtain ⟨s3, h1, h2⟩ := bnd_ok h
  obtain ⟨rfl, e2, e3, e4⟩ := chN_ok h1
  unfold nwN at h2
  split at h2
  · cases h2
  · cases h2
    exact ⟨rfl, e2, e3, e4, by omega, by omega⟩
theorem opn_ok {s s1 : Lx} (h : opn t P s = .ok s1) : s1 = adv t s ∧ ¬ P := by
  unfold opn at h
  by_cases z : P
  · rw [if_pos z] at h; cases h
  · rw [if_neg z] at h; cases h; exact ⟨rfl, z⟩
theorem owF_ok {s s1 : Lx} (h : owF t k s = .ok s1) : s1 = adv t s ∧ ow t s = k := by
  unfold owF at h
  split at h
  · rename_i z; cases h; exact ⟨rfl, z⟩
  · cases h
/-- a name's place in the text is kept while the text is read on -/
theorem c_addInk {N : Nat} (hd : dr = 8 ∨ dr = 31) (tp : TP t I) (w0 : WB (B, c)) (db : DB B dr I) (hN : (N : Int) = sNI B) (lt : N < 6) (e2 : a2.toInt = q) (e3 : a3.toInt = r) (hqr : q ≤ r) (hr : r ≤ t.2) (hl : r - q ≤ 6) (e4 : a4.toInt = v) (K : ∀ I1 : Nat → Nat → Int32, frD dr I I1 → I1 7 = I 7 → I1 (dr + 13) = I (dr + 13) → I1 (dr + 14) = I (dr + 14) → DB (bInk t B q r v) dr I1 → R I1 J) : WP ((d + 3), 3, 0, [some (.ref dr), some (.ref 3), some (.int a2), some (.int a3), some (.int a4)], [], (xSH L dr tl, I, J)) (fun v M => ∃ (I2 : Nat → Nat → Int32) (J2 : Nat → Nat → Int64), v = none ∧ M = (xSH L dr tl, I2, J2) ∧ R I2 J2) := by
  have h3 : (I (dr + 1) 3).toInt = N := by rw [hN]; exact db.2.1.1
  refine w3_0 hd (Or.inl rfl) ((s_full (sk1 hd) h3).u (fun y => by omega) (fun _ => br0 ((s_sizeN (sk1 hd) h3).u fun r3 g3 => ⟨by rw [xin_iff, g3]; omega, ?_⟩)))
  have xi : xIx r3 = N := by rw [xIx_ti, g3]; exact Int.toNat_natCast _
  rw [xi]
  have f1 : ∀ a : Nat, a ≠ dr + 17 → xwI I (dr + 17) N a4 a = I a := fun a h => xwI_ne h
  have tp1 : TP t (xwI I (dr + 17) N a4) := by
    unfold TP at *
    rw [f1 3 (by omega), f1 4 (by omega)]; exact tp
  refine s_addS (N := N) tp1 (sk1 hd) (by rw [f1 (dr + 1) (by omega)]; exact db.1.1) (by rw [f1 (dr + 1) (by omega)]; exact h3) lt e2 e3 hqr hr hl fun I1 o1 p1 p2 p3 p4 p5 p6 => ⟨I1, J, rfl, rfl, K I1 ?_ ?_ ?_ ?_ ?_⟩
  · refine ⟨fun a g1 g2 => by rw [o1 a (by omega) (by omega) (by omega), f1 a (by omega)], fun j g => by rw [o1 7 (by omega) (by omega) (by omega), f1 7 (by omega)], by rw [p1 0 (by decide), f1 (dr + 1) (by omega)], ?_, ?_, ?_, ?_⟩
    · rw [o1 (dr + 4) (by omega) (by omega) (by omega), f1 (dr + 4) (by omega)]
    · rw [o1 (dr + 7) (by omega) (by omega) (by omega), f1 (dr + 7) (by omega)]
    · rw [o1 (dr + 10) (by omega) (by omega) (by omega), f1 (dr + 10) (by omega)]
    · rw [o1 (dr + 15) (by omega) (by omega) (by omega), f1 (dr + 15) (by omega)]
  · rw [o1 7 (by omega) (by omega) (by omega), f1 7 (by omega)]
  · rw [o1 (dr + 13) (by omega) (by omega) (by omega), f1 (dr + 13) (by omega)]
  · rw [o1 (dr + 14) (by omega) (by omega) (by omega), f1 (dr + 14) (by omega)]
  · refine db.ink hd w0 hqr hN ⟨fun j hj => by rw [p1 j hj, f1 (dr + 1) (by omega)], p2, fun j hj => by rw [p3 j hj, f1 (dr + 1 + 2) (by omega)], p4, fun j hj => by rw [p5 j hj, f1 (dr + 1 + 1) (by omega)], p6⟩ ?_ (fun j hj => ?_) (fun a g0 g1 g2 g3 g4 => ?_)
    · rw [o1 (dr + 17) (by omega) (by omega) (by omega), xg]; exact e4
    · rw [o1 (dr + 17) (by omega) (by omega) (by omega), xgn hj]
    · rw [o1 a g1 g2 g3, f1 a g4]
theorem c_addLeaf {N : Nat} (hd : dr = 8 ∨ dr = 31) (tp : TP t I) (w0 : WB (B, c)) (db : DB B dr I) (hN : (N : Int) = sNL B) (lt : N < 8) (e2 : a2.toInt = q) (e3 : a3.toInt = r) (hqr : q ≤ r) (hr : r ≤ t.2) (hl : r - q ≤ 64) (e4 : a4.toInt = v) (K : ∀ I1 : Nat → Nat → Int32, frD dr I I1 → I1 7 = I 7 → I1 (dr + 13) = I (dr + 13) → I1 (dr + 14) = I (dr + 14) → DB (bLeaf t B q r v) dr I1 → R I1 J) : WP ((d + 3), 4, 0, [some (.ref dr), some (.ref 3), some (.int a2), some (.int a3), some (.int a4)], [], (xSH L dr tl, I, J)) (fun v M => ∃ (I2 : Nat → Nat → Int32) (J2 : Nat → Nat → Int64), v = none ∧ M = (xSH L dr tl, I2, J2) ∧ R I2 J2) := by
  have h3 : (I (dr + 4) 3).toInt = N := by rw [hN]; exact db.2.1.2.1
  refine w4_0 hd (Or.inl rfl) ((s_full (sk4 hd) h3).u (fun y => by omega) (fun _ => br0 ((s_sizeN (sk4 hd) h3).u fun r3 g3 => ⟨by rw [xin_iff, g3]; omega, ?_⟩)))
  have xi : xIx r3 = N := by rw [xIx_ti, g3]; exact Int.toNat_natCast _
  rw [xi]
  have f1 : ∀ a : Nat, a ≠ dr + 18 → xwI I (dr + 18) N a4 a = I a := fun a h => xwI_ne h
  have tp1 : TP t (xwI I (dr + 18) N a4) := by
    unfold TP at *
    rw [f1 3 (by omega), f1 4 (by omega)]; exact tp
  refine s_addS (N := N) tp1 (sk4 hd) (by rw [f1 (dr + 4) (by omega)]; exact db.1.2.1) (by rw [f1 (dr + 4) (by omega)]; exact h3) lt e2 e3 hqr hr hl fun I1 o1 p1 p2 p3 p4 p5 p6 => ⟨I1, J, rfl, rfl, K I1 ?_ ?_ ?_ ?_ ?_⟩
  · refine ⟨fun a g1 g2 => by rw [o1 a (by omega) (by omega) (by omega), f1 a (by omega)], fun j g => by rw [o1 7 (by omega) (by omega) (by omega), f1 7 (by omega)], ?_, by rw [p1 0 (by decide), f1 (dr + 4) (by omega)], ?_, ?_, ?_⟩
    · rw [o1 (dr + 1) (by omega) (by omega) (by omega), f1 (dr + 1) (by omega)]
    · rw [o1 (dr + 7) (by omega) (by omega) (by omega), f1 (dr + 7) (by omega)]
    · rw [o1 (dr + 10) (by omega) (by omega) (by omega), f1 (dr + 10) (by omega)]
    · rw [o1 (dr + 15) (by omega) (by omega) (by omega), f1 (dr + 15) (by omega)]
  · rw [o1 7 (by omega) (by omega) (by omega), f1 7 (by omega)]
  · rw [o1 (dr + 13) (by omega) (by omega) (by omega), f1 (dr + 13) (by omega)]
  · rw [o1 (dr + 14) (by omega) (by omega) (by omega), f1 (dr + 14) (by omega)]
  · refine db.leaf hd w0 hqr hN ⟨fun j hj => by rw [p1 j hj, f1 (dr + 4) (by omega)], p2, fun j hj => by rw [p3 j hj, f1 (dr + 4 + 2) (by omega)], p4, fun j hj => by rw [p5 j hj, f1 (dr + 4 + 1) (by omega)], p6⟩ ?_ (fun j hj => ?_) (fun a g0 g1 g2 g3 g4 => ?_)
    · rw [o1 (dr + 18) (by omega) (by omega) (by omega), xg]; exact e4
    · rw [o1 (dr + 18) (by omega) (by omega) (by omega), xgn hj]
    · rw [o1 a g1 g2 g3, f1 a g4]
theorem c_addWord {N : Nat} (hd : dr = 8 ∨ dr = 31) (tp : TP t I) (w0 : WB (B, c)) (db : DB B dr I) (hN : (N : Int) = sNW B) (lt : N < 16) (e2 : a2.toInt = q) (e3 : a3.toInt = r) (hqr : q ≤ r) (hr : r ≤ t.2) (hl : r - q ≤ 12) (K : ∀ I1 : Nat → Nat → Int32, frD dr I I1 → I1 7 = I 7 → I1 (dr + 13) = I (dr + 13) → I1 (dr + 14) = I (dr + 14) → DB (bWd t B q r) dr I1 → R I1 J) : WP ((d + 2), 106, 0, [some (.ref (dr + 10)), some (.ref 3), some (.int a2), some (.int a3), none], [], (xSH L dr tl, I, J)) (fun v M => ∃ (I2 : Nat → Nat → Int32) (J2 : Nat → Nat → Int64), v = none ∧ M = (xSH L dr tl, I2, J2) ∧ R I2 J2) := by
  have h3 : (I (dr + 10) 3).toInt = N := by rw [hN]; exact db.2.1.2.2.2.1
  refine s_addS (N := N) tp (sk10 hd) db.1.2.2.2 h3 lt e2 e3 hqr hr hl fun I1 o1 p1 p2 p3 p4 p5 p6 => K I1 ?_ ?_ ?_ ?_ ?_
  · refine ⟨fun a g1 g2 => o1 a (by omega) (by omega) (by omega), fun j g => by rw [o1 7 (by omega) (by omega) (by omega)], ?_, ?_, ?_, p1 0 (by decide), ?_⟩
    · rw [o1 (dr + 1) (by omega) (by omega) (by omega)]
    · rw [o1 (dr + 4) (by omega) (by omega) (by omega)]
    · rw [o1 (dr + 7) (by omega) (by omega) (by omega)]
    · rw [o1 (dr + 15) (by omega) (by omega) (by omega)]
  · exact o1 7 (by omega) (by omega) (by omega)
  · exact o1 (dr + 13) (by omega) (by omega) (by omega)
  · exact o1 (dr + 14) (by omega) (by omega) (by omega)
  · exact db.word hd w0 hqr hN ⟨p1, p2, p3, p4, p5, p6⟩ (fun a g0 g1 g2 g3 => o1 a g1 g2 g3)
theorem c_addRd {N : Nat} (hd : dr = 8 ∨ dr = 31) (tp : TP t I) (w0 : WB (B, c)) (db : DB B dr I) (hN : (N : Int) = sNR B) (lt : N < 4) (e2 : a2.toInt = q) (e3 : a3.toInt = r) (hqr : q ≤ r) (hr : r ≤ t.2) (hl : r - q ≤ 6) (e4 : a4.toInt = v1) (e5 : a5.toInt = v2) (e6 : a6.toInt = v3) (K : ∀ I1 : Nat → Nat → Int32, frD dr I I1 → I1 7 = I 7 → I1 (dr + 13) = I (dr + 13) → I1 (dr + 14) = I (dr + 14) → DB (bRd t B q r v1 v2 v3) dr I1 → R I1 J) : WP ((d + 3), 5, 0, [some (.ref dr), some (.ref 3), some (.int a2), some (.int a3), some (.int a4), some (.int a5), some (.int a6)], [], (xSH L dr tl, I, J)) (fun v M => ∃ (I2 : Nat → Nat → Int32) (J2 : Nat → Nat → Int64), v = none ∧ M = (xSH L dr tl, I2, J2) ∧ R I2 J2) := by
  have h3 : (I (dr + 7) 3).toInt = N := by rw [hN]; exact db.2.1.2.2.1
  have xi : ∀ z : Int32, z.toInt = N → xIx z = N := fun z g => by rw [xIx_ti, g]; exact Int.toNat_natCast _
  refine w5_0 hd (Or.inl rfl) ((s_full (sk7 hd) h3).u (fun y => by omega) (fun _ => br0 ((s_sizeN (sk7 hd) h3).u fun r3 g3 => ⟨by rw [xin_iff, g3]; omega, ?_⟩)))
  rw [xi r3 g3]
  refine (s_sizeN (N := N) (sk7 hd) (by rw [xwI_ne (by omega)]; exact h3)).u fun r4 g4 => ⟨by rw [xin_iff, g4]; omega, ?_⟩
  rw [xi r4 g4]
  refine (s_sizeN (N := N) (sk7 hd) (by rw [xwI_ne (by omega), xwI_ne (by omega)]; exact h3)).u fun r5 g5 => ⟨by rw [xin_iff, g5]; omega, ?_⟩
  rw [xi r5 g5]
  have f1 : ∀ a : Nat, a ≠ dr + 19 → a ≠ dr + 20 → a ≠ dr + 21 → xwI (xwI (xwI I (dr + 19) N a4) (dr + 20) N a5) (dr + 21) N a6 a = I a := fun a h1 h2 h3 => by rw [xwI_ne h3, xwI_ne h2, xwI_ne h1]
  generalize hI : xwI (xwI (xwI I (dr + 19) N a4) (dr + 20) N a5) (dr + 21) N a6 = I' at f1
  have tp1 : TP t I' := by
    unfold TP at *
    rw [f1 3 (by omega) (by omega) (by omega), f1 4 (by omega) (by omega) (by omega)]; exact tp
  refine s_addS (N := N) tp1 (sk7 hd) (by rw [f1 (dr + 7) (by omega) (by omega) (by omega)]; exact db.1.2.2.1) (by rw [f1 (dr + 7) (by omega) (by omega) (by omega)]; exact h3) lt e2 e3 hqr hr hl fun I1 o1 p1 p2 p3 p4 p5 p6 => ⟨I1, J, rfl, rfl, K I1 ?_ ?_ ?_ ?_ ?_⟩
  · refine ⟨fun a g1 g2 => by rw [o1 a (by omega) (by omega) (by omega), f1 a (by omega) (by omega) (by omega)], fun j g => by rw [o1 7 (by omega) (by omega) (by omega), f1 7 (by omega) (by omega) (by omega)], ?_, ?_, by rw [p1 0 (by decide), f1 (dr + 7) (by omega) (by omega) (by omega)], ?_, ?_⟩
    · rw [o1 (dr + 1) (by omega) (by omega) (by omega), f1 (dr + 1) (by omega) (by omega) (by omega)]
    · rw [o1 (dr + 4) (by omega) (by omega) (by omega), f1 (dr + 4) (by omega) (by omega) (by omega)]
    · rw [o1 (dr + 10) (by omega) (by omega) (by omega), f1 (dr + 10) (by omega) (by omega) (by omega)]
    · rw [o1 (dr + 15) (by omega) (by omega) (by omega), f1 (dr + 15) (by omega) (by omega) (by omega)]
  · rw [o1 7 (by omega) (by omega) (by omega), f1 7 (by omega) (by omega) (by omega)]
  · rw [o1 (dr + 13) (by omega) (by omega) (by omega), f1 (dr + 13) (by omega) (by omega) (by omega)]
  · rw [o1 (dr + 14) (by omega) (by omega) (by omega), f1 (dr + 14) (by omega) (by omega) (by omega)]
  · have q19 : I1 (dr + 19) = I' (dr + 19) := o1 (dr + 19) (by omega) (by omega) (by omega)
    have q20 : I1 (dr + 20) = I' (dr + 20) := o1 (dr + 20) (by omega) (by omega) (by omega)
    have q21 : I1 (dr + 21) = I' (dr + 21) := o1 (dr + 21) (by omega) (by omega) (by omega)
    refine db.rdr hd w0 hqr hN ⟨fun j hj => by rw [p1 j hj, f1 (dr + 7) (by omega) (by omega) (by omega)], p2, fun j hj => by rw [p3 j hj, f1 (dr + 7 + 2) (by omega) (by omega) (by omega)], p4, fun j hj => by rw [p5 j hj, f1 (dr + 7 + 1) (by omega) (by omega) (by omega)], p6⟩ ?_ ?_ ?_ (fun j hj => ?_) (fun a g0 g1 g2 g3 g4 => ?_)
    · rw [q19, ← hI, xwI_ne (by omega), xwI_ne (by omega), xg]; exact e4
    · rw [q20, ← hI, xwI_ne (by omega), xg]; exact e5
    · rw [q21, ← hI, xg]; exact e6
    · rw [q19, q20, q21, ← hI]
      refine ⟨?_, ?_, ?_⟩
      · rw [xwI_ne (by omega), xwI_ne (by omega), xgn hj]
      · rw [xwI_ne (by omega), xgn hj, xwI_ne (by omega)]
      · rw [xgn hj, xwI_ne (by omega), xwI_ne (by omega)]
    · rw [o1 a g1 g2 g3, f1 a (by omega) (by omega) (by omega)]
theorem c_inkS (hd : dr = 8 ∨ dr = 31) : CT L dr tl t 51 [some (.ref 7), none, none, none] (inkF t) (d + 8) := by
  intro s b I J R tp h db w K
  have n6 : (sNI b.1).toNat ≤ 6 ∧ ((sNI b.1).toNat : Int) = sNI b.1 := by have := w.1.1; have := w.1.2.1; omega
  refine w51_0 hd (s_opn (s_full (sk1 hd) (by rw [n6.2]; exact db.2.1.1)) hd tp h fun I2 f2 g2 => ?_)
  have tp2 := tp.fq hd f2
  refine x_chW hd tp2 w (db.f hd f2) g2 fun I3 f3 g3 => ?_
  have tp3 := tp2.fq hd f3
  refine x_adv hd tp3 g3 fun I4 f4 g4 => ?_
  have tp4 := tp3.fq hd f4
  refine x_own (k := 1) hd tp4 g4 rfl (by decide) fun I5 f5 g5 => ?_
  have tp5 := tp4.fq hd f5
  refine x_num (lo := 1) (hi := 20) hd tp5 g5 rfl (fun _ _ => rfl) fun r6 I6 f6 g6 => ?_
  have tp6 := tp5.fq hd f6
  have F := (((f2.tr f3).tr f4).tr f5).tr f6
  have H : (∃ e : Int × Int, PH dr t e.1 e.2 I6 ∧ inkF t b s = .error e) ∨ ∃ (s2 : Lx) (y : Lx × Int), PG dr t s2 b.2 I3 ∧ ps t s2 ≤ qq t s2 + 6 ∧ (sNI b.1).toNat < 6 ∧ PG dr t y.1 b.2 I6 ∧ r6.toInt = y.2 ∧ inkF t b s = .ok (y.1, bInk t b.1 (qq t s2) (ps t s2) y.2, b.2) := by
    cases h2 : opn t (6 ≤ (sNI b.1).toNat) s with
    | error e => rw [h2] at g6; exact Or.inl ⟨e, g6, by unfold inkF; rw [h2]; rfl⟩
    | ok s1 =>
      rw [h2] at g6 g3
      have E0 : inkF t b s = bnd (chW t b.1 s1) fun s2 => bnd (owF t 1 (adv t s2)) fun s4 => bnd (numF t 1 20 s4) fun y => .ok (y.1, bInk t b.1 (qq t s2) (ps t s2) y.2, b.2) := by unfold inkF; rw [h2]; rfl
      have g6a : PGN dr t (bnd (bnd (bnd (chW t b.1 s1) fun s => .ok (adv t s)) (owF t 1)) (numF t 1 20)) b.2 r6 I6 := g6
      have g3a : PGM dr t (chW t b.1 s1) b.2 I3 := g3
      have o1 := (opn_ok h2).2
      cases h3 : chW t b.1 s1 with
      | error e => rw [h3] at g6a E0; exact Or.inl ⟨e, g6a, E0⟩
      | ok s2 =>
        rw [h3] at g6a E0 g3a
        have g3b : PG dr t s2 b.2 I3 := g3a
        have g6b : PGN dr t (bnd (owF t 1 (adv t s2)) (numF t 1 20)) b.2 r6 I6 := g6a
        have E1 : inkF t b s = bnd (owF t 1 (adv t s2)) fun s4 => bnd (numF t 1 20 s4) fun y => .ok (y.1, bInk t b.1 (qq t s2) (ps t s2) y.2, b.2) := E0
        obtain ⟨e2', k2, l2, -, -, -⟩ := chW_ok h3
        cases h4 : owF t 1 (adv t s2) with
        | error e => rw [h4] at g6b E1; exact Or.inl ⟨e, g6b, E1⟩
        | ok s4 =>
          rw [h4] at g6b E1
          have g6c : PGN dr t (numF t 1 20 s4) b.2 r6 I6 := g6b
          have E2 : inkF t b s = bnd (numF t 1 20 s4) fun y => .ok (y.1, bInk t b.1 (qq t s2) (ps t s2) y.2, b.2) := E1
          cases h5 : numF t 1 20 s4 with
          | error e => rw [h5] at g6c E2; exact Or.inl ⟨e, g6c, E2⟩
          | ok y =>
            rw [h5] at g6c E2
            exact Or.inr ⟨s2, y, g3b, by rw [e2']; exact l2, by omega, g6c.1, g6c.2, E2⟩
  rcases H with ⟨e, g, E⟩ | ⟨s2, y, g3b, l2, lt, g8, g9, E⟩
  · exact sk (no_flt g) ⟨I6, J, rfl, rfl, K I6 (F.toD hd) (by rw [E]; exact g)⟩
  · have hle := ps_le (t := t) (s := s2) g3b.1.1
    have hpn := ps_n (t := t) (s := s2) g3b.1.1
    refine hit g8.f0 (c_addInk hd tp6 w (db.f hd F) n6.2 lt g3b.1.2.1 g3b.1.2.2.1 hle hpn (by omega) g9 fun I7 f7 y1 y2 y3 d7 => ⟨I7, J, rfl, rfl, K I7 ((F.toD hd).tr f7) ?_⟩)
    rw [E]
    exact ⟨g8.fd y1 (by rw [y2]) y3, d7⟩
theorem c_leafS (hd : dr = 8 ∨ dr = 31) : CT L dr tl t 52 [some (.ref 7), none, none, none] (leafF t) (d + 8) := by
  intro s b I J R tp h db w K
  have n6 : (sNI b.1).toNat ≤ 6 ∧ ((sNI b.1).toNat : Int) = sNI b.1 := by have := w.1.1; have := w.1.2.1; omega
  have n8 : (sNL b.1).toNat ≤ 8 ∧ ((sNL b.1).toNat : Int) = sNL b.1 := by have := w.2.1.1; have := w.2.1.2.1; omega
  refine w52_0 hd (s_opn (s_full (sk4 hd) (by rw [n8.2]; exact db.2.1.2.1)) hd tp h fun I2 f2 g2 => ?_)
  have tp2 := tp.fq hd f2
  refine x_chS (n := 64) hd tp2 g2 rfl (by decide) fun I3 f3 g3 => ?_
  have tp3 := tp2.fq hd f3
  refine x_adv hd tp3 g3 fun I4 f4 g4 => ?_
  have tp4 := tp3.fq hd f4
  refine x_own (k := 0) hd tp4 g4 rfl (by decide) fun I5 f5 g5 => ?_
  have tp5 := tp4.fq hd f5
  refine x_chN hd tp5 g5 fun I6 f6 g6 => ?_
  have tp6 := tp5.fq hd f6
  have F := (((f2.tr f3).tr f4).tr f5).tr f6
  have db6 := db.f hd F
  refine (s_find tp6 (sk1 hd) (db6.spK w) n6.1 (g6.p3 tp6)).u fun r7 e7 => ?_
  have H : (∃ e : Int × Int, PH dr t e.1 e.2 I6 ∧ leafF t b s = .error e) ∨ ∃ (s2 s5 : Lx), PG dr t s2 b.2 I3 ∧ ps t s2 ≤ qq t s2 + 64 ∧ (sNL b.1).toNat < 8 ∧ PG dr t s5 b.2 I6 ∧ leafF t b s = lfI t b s2 s5 := by
    cases h2 : opn t (8 ≤ (sNL b.1).toNat) s with
    | error e => rw [h2] at g6; exact Or.inl ⟨e, g6, by unfold leafF; rw [h2]; rfl⟩
    | ok s1 =>
      rw [h2] at g6 g3
      have g6a : PGM dr t (bnd (bnd (bnd (chS t 64 s1) fun s => .ok (adv t s)) (owF t 0)) (chN t)) b.2 I6 := g6
      have g3a : PGM dr t (chS t 64 s1) b.2 I3 := g3
      have E0 : leafF t b s = bnd (chS t 64 s1) fun s2 => bnd (owF t 0 (adv t s2)) fun s4 => bnd (chN t s4) fun s5 => lfI t b s2 s5 := by unfold leafF; rw [h2]; rfl
      have o1 := (opn_ok h2).2
      cases h3 : chS t 64 s1 with
      | error e => rw [h3] at g6a E0; exact Or.inl ⟨e, g6a, E0⟩
      | ok s2 =>
        rw [h3] at g3a g6a E0
        have g3b : PG dr t s2 b.2 I3 := g3a
        obtain ⟨e2', k2, l2⟩ := chS_ok h3
        have g6b : PGM dr t (bnd (owF t 0 (adv t s2)) (chN t)) b.2 I6 := g6a
        have E1 : leafF t b s = bnd (owF t 0 (adv t s2)) fun s4 => bnd (chN t s4) fun s5 => lfI t b s2 s5 := E0
        cases h4 : owF t 0 (adv t s2) with
        | error e => rw [h4] at g6b E1; exact Or.inl ⟨e, g6b, E1⟩
        | ok s4 =>
          rw [h4] at g6b E1
          have g6c : PGM dr t (chN t s4) b.2 I6 := g6b
          have E2 : leafF t b s = bnd (chN t s4) fun s5 => lfI t b s2 s5 := E1
          cases h5 : chN t s4 with
          | error e => rw [h5] at g6c E2; exact Or.inl ⟨e, g6c, E2⟩
          | ok s5 =>
            rw [h5] at g6c E2
            exact Or.inr ⟨s2, s5, g3b, by rw [e2']; exact l2, by omega, g6c, E2⟩
  rcases H with ⟨e, g, E⟩ | ⟨s2, s5, g3b, l2, lt, g7, E3⟩
  · exact brz eqm (fun _ => g_failF hd tp6 g fun I12 f12 g12 => g_advF hd (tp6.fq hd f12) g12 fun I13 f13 g13 => sk (no_flt g13) ⟨I13, J, rfl, rfl, K I13 (((F.tr f12).tr f13).toD hd) (by rw [E]; exact g13)⟩) (fun _ => g_advF hd tp6 g fun I13 f13 g13 => sk (no_flt g13) ⟨I13, J, rfl, rfl, K I13 ((F.tr f13).toD hd) (by rw [E]; exact g13)⟩)
  · rw [g7.1.2.1, g7.1.2.2.1] at e7
    have e7' : r7.toInt = fdK t b.1 s5 := e7
    unfold lfI at E3
    have hle := ps_le (t := t) (s := s2) g3b.1.1
    have hpn := ps_n (t := t) (s := s2) g3b.1.1
    refine brz eqm (fun y => ?_) (fun y => ?_)
    · rw [if_pos (e7'.symm.trans y)] at E3
      exact g_fail (k := 3) hd tp6 g7 rfl (by decide) g7.1.2.1 fun I12 f12 g12 => g_advF hd (tp6.fq hd f12) g12 fun I13 f13 g13 => sk (no_flt g13) ⟨I13, J, rfl, rfl, K I13 (((F.tr f12).tr f13).toD hd) (by rw [E3]; exact g13)⟩
    · rw [if_neg (fun z => y (e7'.trans z))] at E3
      refine g_adv hd tp6 g7 fun I9 f9 g9 => hit g9.f0 (c_addLeaf hd (tp6.fq hd f9) w (db6.f hd f9) n8.2 lt g3b.1.2.1 g3b.1.2.2.1 hle hpn (by omega) e7' fun I7 f7 y1 y2 y3 d7 => ⟨I7, J, rfl, rfl, K I7 (((F.tr f9).toD hd).tr f7) ?_⟩)
      rw [E3]
      exact ⟨g9.fd y1 (by rw [y2]) y3, d7⟩
theorem c_wordS (hd : dr = 8 ∨ dr = 31) : CT L dr tl t 55 [some (.ref 7)] (wordF t) (d + 8) := by
  intro s b I J R tp h db w K
  have n8 : (sNW b.1).toNat ≤ 16 ∧ ((sNW b.1).toNat : Int) = sNW b.1 := by have := w.2.2.2.1.1; have := w.2.2.2.1.2.1; omega
  refine w55_0 hd (s_opn (s_full (sk10 hd) (by rw [n8.2]; exact db.2.1.2.2.2.1)) hd tp h fun I2 f2 g2 => ?_)
  have tp2 := tp.fq hd f2
  refine x_chS (n := 12) hd tp2 g2 rfl (by decide) fun I3 f3 g3 => ?_
  have tp3 := tp2.fq hd f3
  have F := f2.tr f3
  have db3 := db.f hd F
  refine (s_find tp3 (sk10 hd) (db3.spW w) n8.1 (g3.p3 tp3)).u fun r7 e7 => ?_
  have H : (∃ e : Int × Int, PH dr t e.1 e.2 I3 ∧ wordF t b s = .error e) ∨ ∃ (s2 : Lx), PG dr t s2 b.2 I3 ∧ ps t s2 ≤ qq t s2 + 12 ∧ (sNW b.1).toNat < 16 ∧ wordF t b s = wdN t b s2 := by
    cases h2 : opn t (16 ≤ (sNW b.1).toNat) s with
    | error e => rw [h2] at g3; exact Or.inl ⟨e, g3, by unfold wordF; rw [h2]; rfl⟩
    | ok s1 =>
      rw [h2] at g3
      have g3a : PGM dr t (chS t 12 s1) b.2 I3 := g3
      have E0 : wordF t b s = bnd (chS t 12 s1) fun s2 => wdN t b s2 := by unfold wordF; rw [h2]; rfl
      have o1 := (opn_ok h2).2
      cases h3 : chS t 12 s1 with
      | error e => rw [h3] at g3a E0; exact Or.inl ⟨e, g3a, E0⟩
      | ok s2 =>
        rw [h3] at g3a E0
        obtain ⟨e2', k2, l2⟩ := chS_ok h3
        exact Or.inr ⟨s2, g3a, by rw [e2']; exact l2, by omega, E0⟩
  rcases H with ⟨e, g, E⟩ | ⟨s2, g7, l2, lt, E3⟩
  · exact brz eqm (fun _ => sk (no_flt g) (g_advF hd tp3 g fun I13 f13 g13 => ⟨I13, J, rfl, rfl, K I13 ((F.tr f13).toD hd) (by rw [E]; exact g13)⟩)) (fun _ => g_failF hd tp3 g fun I12 f12 g12 => sk (no_flt g12) (g_advF hd (tp3.fq hd f12) g12 fun I13 f13 g13 => ⟨I13, J, rfl, rfl, K I13 (((F.tr f12).tr f13).toD hd) (by rw [E]; exact g13)⟩))
  · rw [g7.1.2.1, g7.1.2.2.1] at e7
    have e7' : r7.toInt = fdW t b.1 s2 := e7
    unfold wdN at E3
    have hle := ps_le (t := t) (s := s2) g7.1.1
    have hpn := ps_n (t := t) (s := s2) g7.1.1
    refine brz eqm (fun y => hit g7.f0 ?_) (fun y => ?_)
    · rw [if_neg (fun z => z (e7'.symm.trans y))] at E3
      refine c_addWord hd tp3 w db3 n8.2 lt g7.1.2.1 g7.1.2.2.1 hle hpn (by omega) fun I7 f7 y1 y2 y3 d7 => ?_
      refine g_adv hd (tp3.fd hd f7) (g7.fd y1 (by rw [y2]) y3) fun I9 f9 g9 => ⟨I9, J, rfl, rfl, K I9 (((F.toD hd).tr f7).tr (f9.toD hd)) ?_⟩
      rw [E3]
      exact ⟨g9, d7.f hd f9⟩
    · have y' : fdW t b.1 s2 ≠ -1 := fun z => y (e7'.trans z)
      rw [if_pos y'] at E3
      exact g_fail (k := 3) hd tp3 g7 rfl (by decide) g7.1.2.1 fun I12 f12 g12 => sk (no_flt g12) (g_advF hd (tp3.fq hd f12) g12 fun I13 f13 g13 => ⟨I13, J, rfl, rfl, K I13 (((F.tr f12).tr f13).toD hd) (by rw [E3]; exact g13)⟩)
theorem c_guardS (hd : dr = 8 ∨ dr = 31) : CT L dr tl t 56 [some (.ref 7), none, none] (guardF t) (d + 8) := by
  intro s b I J R tp h db w K
  refine w56_0 hd (w57_0 (hit rfl (g_adv hd tp h fun I1 f1 g1 => ⟨I1, J, rfl, rfl, ?_⟩)))
  have tp1 := tp.fq hd f1
  refine x_num (x := .ok (adv t s)) (lo := 1) (hi := 99) hd tp1 g1 rfl (fun _ _ => rfl) fun r2 I2 f2 g2 => ?_
  have tp2 := tp1.fq hd f2
  have g2' : PGN dr t (numF t 1 99 (adv t s)) b.2 r2 I2 := g2
  have set : ∀ (I3 : Nat → Nat → Int32) (r3 : Int32) (a : Nat), a ≠ dr → xwI (xwI I3 dr 10 r2) dr 11 r3 a = I3 a := fun I3 r3 a h => by rw [xwI_ne h, xwI_ne h]
  have frd : ∀ (I3 : Nat → Nat → Int32) (r3 : Int32), frD dr I3 (xwI (xwI I3 dr 10 r2) dr 11 r3) := fun I3 r3 => ⟨fun a _ g => set I3 r3 a (by omega), fun j _ => by rw [set I3 r3 7 (by omega)], by rw [set I3 r3 (dr + 1) (by omega)], by rw [set I3 r3 (dr + 4) (by omega)], by rw [set I3 r3 (dr + 7) (by omega)], by rw [set I3 r3 (dr + 10) (by omega)], by rw [set I3 r3 (dr + 15) (by omega)]⟩
  have phs : ∀ (I3 : Nat → Nat → Int32) (r3 : Int32) (e : Int × Int), PH dr t e.1 e.2 I3 → PH dr t e.1 e.2 (xwI (xwI I3 dr 10 r2) dr 11 r3) := by
    intro I3 r3 e g
    unfold PH PF at *
    rw [set I3 r3 7 (by omega), set I3 r3 (dr + 13) (by omega)]; exact g
  cases h2 : numF t 1 99 (adv t s) with
  | error e =>
    rw [h2] at g2'
    refine x_num (x := .error e) (c := b.2) (lo := 0) (hi := 0) hd tp2 g2' rfl (fun s z => by cases z) fun r3 I3 f3 g3 => w6_0 hd ⟨_, J, rfl, rfl, _, J, rfl, rfl, K _ ((((f1.tr f2).tr f3).toD hd).tr (frd I3 r3)) ?_⟩
    have E : guardF t b s = .error e := by unfold guardF; rw [h2]; rfl
    rw [E]
    exact phs I3 r3 e g3
  | ok y =>
    rw [h2] at g2'
    obtain ⟨g4, g5⟩ : PG dr t y.1 b.2 I2 ∧ r2.toInt = y.2 := g2'
    have nb := numF_ok (s' := y.1) (v := y.2) (adv_n h.1.1) h2
    refine x_num (x := .ok y.1) (c := b.2) (lo := 0) (hi := y.2 - 1) hd tp2 g4 rfl (fun _ _ => by rw [sub1 (by omega), g5]) fun r3 I3 f3 g3 => w6_0 hd ⟨_, J, rfl, rfl, _, J, rfl, rfl, K _ ((((f1.tr f2).tr f3).toD hd).tr (frd I3 r3)) ?_⟩
    have g3' : PGN dr t (numF t 0 (y.2 - 1) y.1) b.2 r3 I3 := g3
    have E : guardF t b s = bnd (numF t 0 (y.2 - 1) y.1) fun z => .ok (z.1, bGuard b.1 y.2 z.2, b.2) := by unfold guardF; rw [h2]; rfl
    cases h3 : numF t 0 (y.2 - 1) y.1 with
    | error e =>
      rw [h3] at g3' E
      rw [E]
      exact phs I3 r3 e g3'
    | ok z =>
      rw [h3] at g3' E
      obtain ⟨g6, g7⟩ : PG dr t z.1 b.2 I3 ∧ r3.toInt = z.2 := g3'
      rw [E]
      refine ⟨g6.fd (set I3 r3 7 (by omega)) (by rw [set I3 r3 (dr + 13) (by omega)]) (set I3 r3 (dr + 14) (by omega)), ?_⟩
      have d3 := db.f hd ((f1.tr f2).tr f3)
      obtain ⟨d1, d2, d3, d4, d5, d6, d7⟩ := d3
      have st := set I3 r3
      unfold DB CIo at *
      rw [st (dr + 1) (by omega), st (dr + 2) (by omega), st (dr + 3) (by omega), st (dr + 4) (by omega), st (dr + 5) (by omega), st (dr + 6) (by omega), st (dr + 7) (by omega), st (dr + 8) (by omega), st (dr + 9) (by omega), st (dr + 10) (by omega), st (dr + 11) (by omega), st (dr + 12) (by omega), st (dr + 13) (by omega), st (dr + 15) (by omega), st (dr + 17) (by omega), st (dr + 18) (by omega), st (dr + 19) (by omega), st (dr + 20) (by omega), st (dr + 21) (by omega)]
      refine ⟨d1, ⟨d2.1, d2.2.1, d2.2.2.1, d2.2.2.2.1, ?_, fun _ => ?_⟩, d3, d4, d5, d6, d7⟩
      · rw [xgn (by decide), xg]; exact g5
      · rw [xg]; exact g7
end STMD
