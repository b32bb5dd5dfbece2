/-! ===== book: the class's statements ===== -/
section STMC
variable {t : Tp} {L d dr tl : Nat} {I I0 I1 I2 : Nat → Nat → Int32} {J : Nat → Nat → Int64} {a0 a1 a2 a3 a4 a5 a6 : Int32} {s : Lx} {k l v v1 v2 v3 lo hi : Int} {R : (Nat → Nat → Int32) → (Nat → Nat → Int64) → Prop} {c : List Int} {x : RX Lx} {B : aS} {b : Bk} {P : Prop} {q r N M w s0 : Nat}
theorem s_sizeN (sk0 : SK s0 w M) (h3 : (I s0 3).toInt = N) : PI ((d + 1), 104, 0, [some (.ref s0)], [], (xSH L dr tl, I, J)) N (xSH L dr tl, I, J) := w104_0 sk0.1 ⟨_, rfl, h3, rfl⟩
theorem x_cm {mt : Nat} {ls : xLs} {f : Lx → RL} {D : Nat} (cm : CM L dr tl t mt ls f D) (tp : TP t I) (h : PGM dr t x c I) (K : ∀ I1 : Nat → Nat → Int32, frQ dr I I1 → PGE dr t (bnd x f) c I1 → R I1 J) : WP (D, mt, 0, ls, [], (xSH L dr tl, I, J)) (fun v M => ∃ (I2 : Nat → Nat → Int32) (J2 : Nat → Nat → Int64), v = none ∧ M = (xSH L dr tl, I2, J2) ∧ R I2 J2) := by
  cases x with
  | ok s => exact cm.1 s c I J R tp h K
  | error e => exact cm.2 e.1 e.2 I J R tp h K
theorem PS.fd (h : PS t s I) (e : I1 7 = I 7) : PS t s I1 := by unfold PS at *; rw [e]; exact h
theorem CC.fd (h : CC dr c I) (e1 : I1 (dr + 13) 3 = I (dr + 13) 3) (e2 : I1 (dr + 14) = I (dr + 14)) : CC dr c I1 := by unfold CC at *; rw [e1, e2]; exact h
theorem PG.fd (h : PG dr t s c I) (e : I1 7 = I 7) (e1 : I1 (dr + 13) 3 = I (dr + 13) 3) (e2 : I1 (dr + 14) = I (dr + 14)) : PG dr t s c I1 := ⟨h.1.fd e, h.2.1.fd e1 e2, h.2.2⟩
theorem no_flt (g : PH dr t k l I) : ¬ (I 7 6) = 0 := fun z => g.1.1 (by rw [← g.1.2.2.2.2.1]; exact eq0.mp z)
theorem PG.f0 (g : PG dr t s c I) : (I 7 6) = 0 := eq0.mpr g.1.2.2.2.2.2.1
/-- what the rows of a draft are when a name has come -/
def rowsTo (s0 w N : Nat) (t : Tp) (q r : Nat) (I I1 : Nat → Nat → Int32) : Prop := (∀ j : Nat, j ≠ 3 → I1 s0 j = I s0 j) ∧ (I1 s0 3).toInt = ((N + 1 : Nat) : Int) ∧ (∀ j : Nat, j ≠ N → I1 (s0 + 2) j = I (s0 + 2) j) ∧ (I1 (s0 + 2) N).toInt = (r : Int) - q ∧ (∀ j : Nat, j < N * w → I1 (s0 + 1) j = I (s0 + 1) j) ∧ ∀ k : Nat, k < r - q → (I1 (s0 + 1) (N * w + k)).toInt = t.1 (q + k) - 96
theorem sput_o {S : aS} {f o k : Nat} {g : Nat → Int} (h : k < o) : sput S f o g f k = S f k := by unfold sput; rw [if_neg (by omega)]
theorem sput_i {S : aS} {f o k : Nat} {g : Nat → Int} : sput S f o g f (o + k) = g k := by unfold sput; rw [if_pos (by omega), Nat.add_sub_cancel_left]
theorem DB.ink (hd : dr = 8 ∨ dr = 31) (db : DB B dr I) (w0 : WB (B, c)) (hqr : q ≤ r) (hN : (N : Int) = sNI B) (ro : rowsTo (dr + 1) 6 N t q r I I1) (e17 : (I1 (dr + 17) N).toInt = v) (o17 : ∀ j : Nat, j ≠ N → I1 (dr + 17) j = I (dr + 17) j) (o : ∀ a : Nat, dr ≤ a → a ≠ dr + 1 → a ≠ dr + 2 → a ≠ dr + 3 → a ≠ dr + 17 → I1 a = I a) : DB (bInk t B q r v) dr I1 := by
  obtain ⟨r1, r2, r3, r4, r5, r6⟩ := ro
  have tn : (sNI B).toNat = N := by omega
  obtain ⟨d1, d2, d3, d4, d5, d6, d7⟩ := db
  refine ⟨⟨by rw [r1 0 (by decide)]; exact d1.1, by rw [o (dr + 4) (by omega) (by omega) (by omega) (by omega) (by omega)]; exact d1.2.1, by rw [o (dr + 7) (by omega) (by omega) (by omega) (by omega) (by omega)]; exact d1.2.2.1, by rw [o (dr + 10) (by omega) (by omega) (by omega) (by omega) (by omega)]; exact d1.2.2.2⟩, ⟨?_, ?_, ?_, ?_, ?_, ?_⟩, fun i hi => ?_, fun i hi => ?_, fun i hi => ?_, fun i hi => ?_, ?_⟩
  · rw [r2]; show _ = sNI B + 1; omega
  · rw [o (dr + 4) (by omega) (by omega) (by omega) (by omega) (by omega)]; exact d2.2.1
  · rw [o (dr + 7) (by omega) (by omega) (by omega) (by omega) (by omega)]; exact d2.2.2.1
  · rw [o (dr + 10) (by omega) (by omega) (by omega) (by omega) (by omega)]; exact d2.2.2.2.1
  · rw [o dr (by omega) (by omega) (by omega) (by omega) (by omega)]; exact d2.2.2.2.2.1
  · rw [o dr (by omega) (by omega) (by omega) (by omega) (by omega)]; exact d2.2.2.2.2.2
  · have hi' : (i : Int) < sNI B + 1 := hi
    by_cases e : i = N
    · subst e
      have b2 : bInk t B q r v 2 i = v := by
        show sset _ 2 (sNI B).toNat v 2 i = v
        rw [tn]; exact sg
      have b3 : bInk t B q r v 3 i = (r : Int) - q := by
        show sset _ 3 (sNI B).toNat ((r : Int) - q) 3 i = _
        rw [tn]; exact sg
      rw [b2, b3]
      refine ⟨e17, r4, fun k hk => ?_⟩
      have b4 : bInk t B q r v 4 (6 * i + k) = t.1 (q + k) - 96 := by
        show sput B 4 (6 * (sNI B).toNat) (ltr t q) 4 (6 * i + k) = _
        rw [tn]; exact sput_i
      rw [b4, Nat.mul_comm 6 i]
      exact r6 k (by omega)
    · have lt : (i : Int) < sNI B := by omega
      have b2 : bInk t B q r v 2 i = B 2 i := by
        show sset _ 2 (sNI B).toNat v 2 i = _
        rw [tn]; exact sgn e
      have b3 : bInk t B q r v 3 i = B 3 i := by
        show sset _ 3 (sNI B).toNat ((r : Int) - q) 3 i = _
        rw [tn]; exact sgn e
      have w3 : B 3 i ≤ 6 := (w0.1.2.2 i lt).2.2.2.1
      rw [b2, b3, o17 i e]
      refine ⟨(d3 i lt).1, by have z := (d3 i lt).2.1; rw [← r3 i e] at z; exact z, fun k hk => ?_⟩
      have b4 : bInk t B q r v 4 (6 * i + k) = B 4 (6 * i + k) := by
        show sput B 4 (6 * (sNI B).toNat) (ltr t q) 4 (6 * i + k) = _
        rw [tn]; exact sput_o (by omega)
      rw [b4]
      have z := (d3 i lt).2.2 k hk
      rw [← r5 (6 * i + k) (by omega)] at z
      exact z
  · rw [o (dr + 18) (by omega) (by omega) (by omega) (by omega) (by omega), o (dr + 6) (by omega) (by omega) (by omega) (by omega) (by omega), o (dr + 5) (by omega) (by omega) (by omega) (by omega) (by omega)]
    exact d4 i hi
  · rw [o (dr + 19) (by omega) (by omega) (by omega) (by omega) (by omega), o (dr + 20) (by omega) (by omega) (by omega) (by omega) (by omega), o (dr + 21) (by omega) (by omega) (by omega) (by omega) (by omega), o (dr + 9) (by omega) (by omega) (by omega) (by omega) (by omega), o (dr + 8) (by omega) (by omega) (by omega) (by omega) (by omega)]
    exact d5 i hi
  · rw [o (dr + 12) (by omega) (by omega) (by omega) (by omega) (by omega), o (dr + 11) (by omega) (by omega) (by omega) (by omega) (by omega)]
    exact d6 i hi
  · rw [o (dr + 13) (by omega) (by omega) (by omega) (by omega) (by omega), o (dr + 15) (by omega) (by omega) (by omega) (by omega) (by omega)]
    exact d7
theorem DB.leaf (hd : dr = 8 ∨ dr = 31) (db : DB B dr I) (w0 : WB (B, c)) (hqr : q ≤ r) (hN : (N : Int) = sNL B) (ro : rowsTo (dr + 4) 64 N t q r I I1) (e17 : (I1 (dr + 18) N).toInt = v) (o17 : ∀ j : Nat, j ≠ N → I1 (dr + 18) j = I (dr + 18) j) (o : ∀ a : Nat, dr ≤ a → a ≠ dr + 4 → a ≠ dr + 5 → a ≠ dr + 6 → a ≠ dr + 18 → I1 a = I a) : DB (bLeaf t B q r v) dr I1 := by
  obtain ⟨r1, r2, r3, r4, r5, r6⟩ := ro
  have tn : (sNL B).toNat = N := by omega
  obtain ⟨d1, d2, d3, d4, d5, d6, d7⟩ := db
  refine ⟨⟨by rw [o (dr + 1) (by omega) (by omega) (by omega) (by omega) (by omega)]; exact d1.1, by rw [r1 0 (by decide)]; exact d1.2.1, by rw [o (dr + 7) (by omega) (by omega) (by omega) (by omega) (by omega)]; exact d1.2.2.1, by rw [o (dr + 10) (by omega) (by omega) (by omega) (by omega) (by omega)]; exact d1.2.2.2⟩, ⟨?_, ?_, ?_, ?_, ?_, ?_⟩, fun i hi => ?_, fun i hi => ?_, fun i hi => ?_, fun i hi => ?_, ?_⟩
  · rw [o (dr + 1) (by omega) (by omega) (by omega) (by omega) (by omega)]; exact d2.1
  · rw [r2]; show _ = sNL B + 1; omega
  · rw [o (dr + 7) (by omega) (by omega) (by omega) (by omega) (by omega)]; exact d2.2.2.1
  · rw [o (dr + 10) (by omega) (by omega) (by omega) (by omega) (by omega)]; exact d2.2.2.2.1
  · rw [o dr (by omega) (by omega) (by omega) (by omega) (by omega)]; exact d2.2.2.2.2.1
  · rw [o dr (by omega) (by omega) (by omega) (by omega) (by omega)]; exact d2.2.2.2.2.2
  · rw [o (dr + 17) (by omega) (by omega) (by omega) (by omega) (by omega), o (dr + 3) (by omega) (by omega) (by omega) (by omega) (by omega), o (dr + 2) (by omega) (by omega) (by omega) (by omega) (by omega)]
    exact d3 i hi
  · have hi' : (i : Int) < sNL B + 1 := hi
    by_cases e : i = N
    · subst e
      have b2 : bLeaf t B q r v 26 i = v := by
        show sset _ 26 (sNL B).toNat v 26 i = v
        rw [tn]; exact sg
      have b3 : bLeaf t B q r v 5 i = (r : Int) - q := by
        show sset _ 5 (sNL B).toNat ((r : Int) - q) 5 i = _
        rw [tn]; exact sg
      rw [b2, b3]
      refine ⟨e17, r4, fun k hk => ?_⟩
      have b4 : bLeaf t B q r v 25 (64 * i + k) = t.1 (q + k) - 96 := by
        show sput B 25 (64 * (sNL B).toNat) (ltr t q) 25 (64 * i + k) = _
        rw [tn]; exact sput_i
      rw [b4, Nat.mul_comm 64 i]
      exact r6 k (by omega)
    · have lt : (i : Int) < sNL B := by omega
      have b2 : bLeaf t B q r v 26 i = B 26 i := by
        show sset _ 26 (sNL B).toNat v 26 i = _
        rw [tn]; exact sgn e
      have b3 : bLeaf t B q r v 5 i = B 5 i := by
        show sset _ 5 (sNL B).toNat ((r : Int) - q) 5 i = _
        rw [tn]; exact sgn e
      have w3 : B 5 i ≤ 64 := (w0.2.1.2.2 i lt).2.1
      rw [b2, b3, o17 i e]
      refine ⟨(d4 i lt).1, by have z := (d4 i lt).2.1; rw [← r3 i e] at z; exact z, fun k hk => ?_⟩
      have b4 : bLeaf t B q r v 25 (64 * i + k) = B 25 (64 * i + k) := by
        show sput B 25 (64 * (sNL B).toNat) (ltr t q) 25 (64 * i + k) = _
        rw [tn]; exact sput_o (by omega)
      rw [b4]
      have z := (d4 i lt).2.2 k hk
      rw [← r5 (64 * i + k) (by omega)] at z
      exact z
  · rw [o (dr + 19) (by omega) (by omega) (by omega) (by omega) (by omega), o (dr + 20) (by omega) (by omega) (by omega) (by omega) (by omega), o (dr + 21) (by omega) (by omega) (by omega) (by omega) (by omega), o (dr + 9) (by omega) (by omega) (by omega) (by omega) (by omega), o (dr + 8) (by omega) (by omega) (by omega) (by omega) (by omega)]
    exact d5 i hi
  · rw [o (dr + 12) (by omega) (by omega) (by omega) (by omega) (by omega), o (dr + 11) (by omega) (by omega) (by omega) (by omega) (by omega)]
    exact d6 i hi
  · rw [o (dr + 13) (by omega) (by omega) (by omega) (by omega) (by omega), o (dr + 15) (by omega) (by omega) (by omega) (by omega) (by omega)]
    exact d7
theorem DB.word (hd : dr = 8 ∨ dr = 31) (db : DB B dr I) (w0 : WB (B, c)) (hqr : q ≤ r) (hN : (N : Int) = sNW B) (ro : rowsTo (dr + 10) 12 N t q r I I1) (o : ∀ a : Nat, dr ≤ a → a ≠ dr + 10 → a ≠ dr + 11 → a ≠ dr + 12 → I1 a = I a) : DB (bWd t B q r) dr I1 := by
  obtain ⟨r1, r2, r3, r4, r5, r6⟩ := ro
  have tn : (sNW B).toNat = N := by omega
  obtain ⟨d1, d2, d3, d4, d5, d6, d7⟩ := db
  refine ⟨⟨by rw [o (dr + 1) (by omega) (by omega) (by omega) (by omega)]; exact d1.1, by rw [o (dr + 4) (by omega) (by omega) (by omega) (by omega)]; exact d1.2.1, by rw [o (dr + 7) (by omega) (by omega) (by omega) (by omega)]; exact d1.2.2.1, by rw [r1 0 (by decide)]; exact d1.2.2.2⟩, ⟨?_, ?_, ?_, ?_, ?_, ?_⟩, fun i hi => ?_, fun i hi => ?_, fun i hi => ?_, fun i hi => ?_, ?_⟩
  · rw [o (dr + 1) (by omega) (by omega) (by omega) (by omega)]; exact d2.1
  · rw [o (dr + 4) (by omega) (by omega) (by omega) (by omega)]; exact d2.2.1
  · rw [o (dr + 7) (by omega) (by omega) (by omega) (by omega)]; exact d2.2.2.1
  · rw [r2]; show _ = sNW B + 1; omega
  · rw [o dr (by omega) (by omega) (by omega) (by omega)]; exact d2.2.2.2.2.1
  · rw [o dr (by omega) (by omega) (by omega) (by omega)]; exact d2.2.2.2.2.2
  · rw [o (dr + 17) (by omega) (by omega) (by omega) (by omega), o (dr + 3) (by omega) (by omega) (by omega) (by omega), o (dr + 2) (by omega) (by omega) (by omega) (by omega)]
    exact d3 i hi
  · rw [o (dr + 18) (by omega) (by omega) (by omega) (by omega), o (dr + 6) (by omega) (by omega) (by omega) (by omega), o (dr + 5) (by omega) (by omega) (by omega) (by omega)]
    exact d4 i hi
  · rw [o (dr + 19) (by omega) (by omega) (by omega) (by omega), o (dr + 20) (by omega) (by omega) (by omega) (by omega), o (dr + 21) (by omega) (by omega) (by omega) (by omega), o (dr + 9) (by omega) (by omega) (by omega) (by omega), o (dr + 8) (by omega) (by omega) (by omega) (by omega)]
    exact d5 i hi
  · have hi' : (i : Int) < sNW B + 1 := hi
    by_cases e : i = N
    · subst e
      have b3 : bWd t B q r 11 i = (r : Int) - q := by
        show sset _ 11 (sNW B).toNat ((r : Int) - q) 11 i = _
        rw [tn]; exact sg
      rw [b3]
      refine ⟨r4, fun k hk => ?_⟩
      have b4 : bWd t B q r 12 (12 * i + k) = t.1 (q + k) - 96 := by
        show sput B 12 (12 * (sNW B).toNat) (ltr t q) 12 (12 * i + k) = _
        rw [tn]; exact sput_i
      rw [b4, Nat.mul_comm 12 i]
      exact r6 k (by omega)
    · have lt : (i : Int) < sNW B := by omega
      have b3 : bWd t B q r 11 i = B 11 i := by
        show sset _ 11 (sNW B).toNat ((r : Int) - q) 11 i = _
        rw [tn]; exact sgn e
      have w3 : B 11 i ≤ 12 := (w0.2.2.2.1.2.2 i lt).2.1
      rw [b3]
      refine ⟨by have z := (d6 i lt).1; rw [← r3 i e] at z; exact z, fun k hk => ?_⟩
      have b4 : bWd t B q r 12 (12 * i + k) = B 12 (12 * i + k) := by
        show sput B 12 (12 * (sNW B).toNat) (ltr t q) 12 (12 * i + k) = _
        rw [tn]; exact sput_o (by omega)
      rw [b4]
      have z := (d6 i lt).2 k hk
      rw [← r5 (12 * i + k) (by omega)] at z
      exact z
  · rw [o (dr + 13) (by omega) (by omega) (by omega) (by omega), o (dr + 15) (by omega) (by omega) (by omega) (by omega)]
    exact d7
theorem DB.rdr (hd : dr = 8 ∨ dr = 31) (db : DB B dr I) (w0 : WB (B, c)) (hqr : q ≤ r) (hN : (N : Int) = sNR B) (ro : rowsTo (dr + 7) 6 N t q r I I1) (e19 : (I1 (dr + 19) N).toInt = v1) (e20 : (I1 (dr + 20) N).toInt = v2) (e21 : (I1 (dr + 21) N).toInt = v3) (o17 : ∀ j : Nat, j ≠ N → I1 (dr + 19) j = I (dr + 19) j ∧ I1 (dr + 20) j = I (dr + 20) j ∧ I1 (dr + 21) j = I (dr + 21) j) (o : ∀ a : Nat, dr ≤ a → a ≠ dr + 7 → a ≠ dr + 8 → a ≠ dr + 9 → a < dr + 19 → I1 a = I a) : DB (bRd t B q r v1 v2 v3) dr I1 := by
  obtain ⟨r1, r2, r3, r4, r5, r6⟩ := ro
  have tn : (sNR B).toNat = N := by omega
  obtain ⟨d1, d2, d3, d4, d5, d6, d7⟩ := db
  refine ⟨⟨by rw [o (dr + 1) (by omega) (by omega) (by omega) (by omega) (by omega)]; exact d1.1, by rw [o (dr + 4) (by omega) (by omega) (by omega) (by omega) (by omega)]; exact d1.2.1, by rw [r1 0 (by decide)]; exact d1.2.2.1, by rw [o (dr + 10) (by omega) (by omega) (by omega) (by omega) (by omega)]; exact d1.2.2.2⟩, ⟨?_, ?_, ?_, ?_, ?_, ?_⟩, fun i hi => ?_, fun i hi => ?_, fun i hi => ?_, fun i hi => ?_, ?_⟩
  · rw [o (dr + 1) (by omega) (by omega) (by omega) (by omega) (by omega)]; exact d2.1
  · rw [o (dr + 4) (by omega) (by omega) (by omega) (by omega) (by omega)]; exact d2.2.1
  · rw [r2]; show _ = sNR B + 1; omega
  · rw [o (dr + 10) (by omega) (by omega) (by omega) (by omega) (by omega)]; exact d2.2.2.2.1
  · rw [o dr (by omega) (by omega) (by omega) (by omega) (by omega)]; exact d2.2.2.2.2.1
  · rw [o dr (by omega) (by omega) (by omega) (by omega) (by omega)]; exact d2.2.2.2.2.2
  · rw [o (dr + 17) (by omega) (by omega) (by omega) (by omega) (by omega), o (dr + 3) (by omega) (by omega) (by omega) (by omega) (by omega), o (dr + 2) (by omega) (by omega) (by omega) (by omega) (by omega)]
    exact d3 i hi
  · rw [o (dr + 18) (by omega) (by omega) (by omega) (by omega) (by omega), o (dr + 6) (by omega) (by omega) (by omega) (by omega) (by omega), o (dr + 5) (by omega) (by omega) (by omega) (by omega) (by omega)]
    exact d4 i hi
  · have hi' : (i : Int) < sNR B + 1 := hi
    by_cases e : i = N
    · subst e
      have b6 : bRd t B q r v1 v2 v3 6 i = v1 := by
        show sset _ 6 (sNR B).toNat v1 6 i = v1
        rw [tn]; exact sg
      have b7 : bRd t B q r v1 v2 v3 7 i = v2 := by
        show sset _ 7 (sNR B).toNat v2 7 i = v2
        rw [tn]; exact sg
      have b8 : bRd t B q r v1 v2 v3 8 i = v3 := by
        show sset _ 8 (sNR B).toNat v3 8 i = v3
        rw [tn]; exact sg
      have b9 : bRd t B q r v1 v2 v3 9 i = (r : Int) - q := by
        show sset _ 9 (sNR B).toNat ((r : Int) - q) 9 i = _
        rw [tn]; exact sg
      rw [b6, b7, b8, b9]
      refine ⟨e19, e20, e21, r4, fun k hk => ?_⟩
      have b4 : bRd t B q r v1 v2 v3 10 (6 * i + k) = t.1 (q + k) - 96 := by
        show sput B 10 (6 * (sNR B).toNat) (ltr t q) 10 (6 * i + k) = _
        rw [tn]; exact sput_i
      rw [b4, Nat.mul_comm 6 i]
      exact r6 k (by omega)
    · have lt : (i : Int) < sNR B := by omega
      have b6 : bRd t B q r v1 v2 v3 6 i = B 6 i := by
        show sset _ 6 (sNR B).toNat v1 6 i = _
        rw [tn]; exact sgn e
      have b7 : bRd t B q r v1 v2 v3 7 i = B 7 i := by
        show sset _ 7 (sNR B).toNat v2 7 i = _
        rw [tn]; exact sgn e
      have b8 : bRd t B q r v1 v2 v3 8 i = B 8 i := by
        show sset _ 8 (sNR B).toNat v3 8 i = _
        rw [tn]; exact sgn e
      have b9 : bRd t B q r v1 v2 v3 9 i = B 9 i := by
        show sset _ 9 (sNR B).toNat ((r : Int) - q) 9 i = _
        rw [tn]; exact sgn e
      have w3 : B 9 i ≤ 6 := (w0.2.2.1.2.2 i lt).2.2.2.2.2.2.2.2.1
      obtain ⟨z1, z2, z3⟩ := o17 i e
      obtain ⟨y1, y2, y3, y4, y5⟩ := d5 i lt
      rw [b6, b7, b8, b9, z1, z2, z3]
      refine ⟨y1, y2, y3, by rw [← r3 i e] at y4; exact y4, fun k hk => ?_⟩
      have b4 : bRd t B q r v1 v2 v3 10 (6 * i + k) = B 10 (6 * i + k) := by
        show sput B 10 (6 * (sNR B).toNat) (ltr t q) 10 (6 * i + k) = _
        rw [tn]; exact sput_o (by omega)
      rw [b4]
      have z := y5 k hk
      rw [← r5 (6 * i + k) (by omega)] at z
      exact z
  · rw [o (dr + 12) (by omega) (by omega) (by omega) (by omega) (by omega), o (dr + 11) (by omega) (by omega) (by omega) (by omega) (by omega)]
    exact d6 i hi
  · rw [o (dr + 13) (by omega) (by omega) (by omega) (by omega) (by omega), o (dr + 15) (by omega) (by omega) (by omega) (by omega) (by omega)]
    exact d7
end STMC
