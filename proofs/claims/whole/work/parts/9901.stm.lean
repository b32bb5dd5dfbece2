/-! ===== book: what a text tells, statement by statement ===== -/
abbrev Bk : Type := aS × List Int
abbrev St : Type := Lx × Bk
noncomputable def opn (t : Tp) (full : Prop) (s : Lx) : RX Lx := @ite _ full (Classical.propDecidable _) (.error (5, (qq t s : Int))) (.ok (adv t s))
def chS (t : Tp) (most : Nat) (s : Lx) : RX Lx := if kd t s ≠ 2 then .error (1, (qq t s : Int)) else if qq t s + most < ps t s then .error (1, ((qq t s + most : Nat) : Int)) else .ok s
noncomputable def chN (t : Tp) (s : Lx) : RX Lx := if ow t s ≠ -1 then .error (1, (qq t s : Int)) else chS t 6 s
noncomputable def fdK (t : Tp) (B : aS) (s : Lx) : Int := fdI t (qq t s : Int) (ps t s : Int) (B 3) (fun i k => B 4 (6 * i + k)) (sNI B).toNat 0
noncomputable def fdR (t : Tp) (B : aS) (s : Lx) : Int := fdI t (qq t s : Int) (ps t s : Int) (B 9) (fun i k => B 10 (6 * i + k)) (sNR B).toNat 0
noncomputable def fdW (t : Tp) (B : aS) (s : Lx) : Int := fdI t (qq t s : Int) (ps t s : Int) (B 11) (fun i k => B 12 (12 * i + k)) (sNW B).toNat 0
noncomputable def nwN (t : Tp) (B : aS) (s : Lx) : RX Lx := if fdK t B s ≠ -1 ∨ fdR t B s ≠ -1 then .error (3, (qq t s : Int)) else .ok s
noncomputable def chW (t : Tp) (B : aS) (s : Lx) : RX Lx := bnd (chN t s) (nwN t B)
def sput (S : aS) (f o : Nat) (g : Nat → Int) : aS := fun f' k => if f' = f ∧ o ≤ k then g (k - o) else S f' k
def ltr (t : Tp) (q : Nat) : Nat → Int := fun k => t.1 (q + k) - 96
def bInk (t : Tp) (B : aS) (q r : Nat) (v : Int) : aS := sset (sset (sset (sput B 4 (6 * (sNI B).toNat) (ltr t q)) 3 (sNI B).toNat ((r : Int) - q)) 2 (sNI B).toNat v) 0 1 (sNI B + 1)
def bLeaf (t : Tp) (B : aS) (q r : Nat) (v : Int) : aS := sset (sset (sset (sput B 25 (64 * (sNL B).toNat) (ltr t q)) 5 (sNL B).toNat ((r : Int) - q)) 26 (sNL B).toNat v) 0 2 (sNL B + 1)
def bRd (t : Tp) (B : aS) (q r : Nat) (v1 v2 v3 : Int) : aS := sset (sset (sset (sset (sset (sput B 10 (6 * (sNR B).toNat) (ltr t q)) 9 (sNR B).toNat ((r : Int) - q)) 6 (sNR B).toNat v1) 7 (sNR B).toNat v2) 8 (sNR B).toNat v3) 0 3 (sNR B + 1)
def bWd (t : Tp) (B : aS) (q r : Nat) : aS := sset (sset (sput B 12 (12 * (sNW B).toNat) (ltr t q)) 11 (sNW B).toNat ((r : Int) - q)) 0 5 (sNW B + 1)
def bRule (B : aS) (c y1 y2 : List Int) : aS := sset (sset (sset (sput B 14 0 (fun k => (c ++ y1 ++ y2).getD k 0)) 13 (2 * (sNU B).toNat + 1) ((c ++ y1).length : Int)) 13 (2 * (sNU B).toNat + 2) ((c ++ y1 ++ y2).length : Int)) 0 4 (sNU B + 1)
def bGuard (B : aS) (e f : Int) : aS := sset (sset B 0 6 e) 0 7 f
noncomputable def inkF (t : Tp) (b : Bk) (s : Lx) : RX St := bnd (opn t (6 ≤ (sNI b.1).toNat) s) fun s1 => bnd (chW t b.1 s1) fun s2 => bnd (owF t 1 (adv t s2)) fun s4 => bnd (numF t 1 20 s4) fun y => .ok (y.1, bInk t b.1 (qq t s2) (ps t s2) y.2, b.2)
noncomputable def lfI (t : Tp) (b : Bk) (s2 s5 : Lx) : RX St := if fdK t b.1 s5 = -1 then .error (3, (qq t s5 : Int)) else .ok (adv t s5, bLeaf t b.1 (qq t s2) (ps t s2) (fdK t b.1 s5), b.2)
noncomputable def leafF (t : Tp) (b : Bk) (s : Lx) : RX St := bnd (opn t (8 ≤ (sNL b.1).toNat) s) fun s1 => bnd (chS t 64 s1) fun s2 => bnd (owF t 0 (adv t s2)) fun s4 => bnd (chN t s4) fun s5 => lfI t b s2 s5
def skF (t : Tp) (s7 : Lx) (y : Lx × Int) : RX Lx := if y.2 = 1 then .error (2, (qq t s7 : Int)) else .ok y.1
noncomputable def readF (t : Tp) (b : Bk) (s : Lx) : RX St := bnd (opn t (4 ≤ (sNR b.1).toNat) s) fun s1 => bnd (chW t b.1 s1) fun s2 => bnd (owF t 4 (adv t s2)) fun s4 => bnd (numF t 1 64 s4) fun y6 => bnd (owF t 5 y6.1) fun s7 => bnd (numF t 0 9 s7) fun y8 => bnd (skF t s7 y8) fun s9 => bnd (owF t 6 s9) fun s10 => bnd (numF t 0 99 s10) fun y => .ok (y.1, bRd t b.1 (qq t s2) (ps t s2) y6.2 y8.2 y.2, b.2)
noncomputable def ruleF (t : Tp) (b : Bk) (s : Lx) : RX St := bnd (opn t (8 ≤ (sNU b.1).toNat) s) fun s1 => bnd (sumO t 6 s1) fun x => bnd (owF t 7 x.1) fun s4 => bnd (testF t (factO t 6) s4) fun y => .ok (y.1, bRule b.1 b.2 x.2 y.2, b.2 ++ x.2 ++ y.2)
noncomputable def wdN (t : Tp) (b : Bk) (s2 : Lx) : RX St := if fdW t b.1 s2 ≠ -1 then .error (3, (qq t s2 : Int)) else .ok (adv t s2, bWd t b.1 (qq t s2) (ps t s2), b.2)
noncomputable def wordF (t : Tp) (b : Bk) (s : Lx) : RX St := bnd (opn t (16 ≤ (sNW b.1).toNat) s) fun s1 => bnd (chS t 12 s1) fun s2 => wdN t b s2
noncomputable def guardF (t : Tp) (b : Bk) (s : Lx) : RX St := bnd (numF t 1 99 (adv t s)) fun y => bnd (numF t 0 (y.2 - 1) y.1) fun z => .ok (z.1, bGuard b.1 y.2 z.2, b.2)
noncomputable def stmF (t : Tp) (b : Bk) (s : Lx) : RX St := if ow t s = 0 then inkF t b s else if ow t s = 2 then leafF t b s else if ow t s = 3 then readF t b s else if ow t s = 1 then ruleF t b s else if ow t s = 8 then wordF t b s else if ow t s = 9 then guardF t b s else .error (1, (qq t s : Int))
noncomputable def bookF (t : Tp) : Nat → Lx → Bk → Int → RX (Bk × Int)
  | 0, s, b, n => if kd t s = 0 then .ok (b, n) else .error (5, (qq t s : Int))
  | m + 1, s, b, n => if kd t s = 0 then .ok (b, n) else bnd (stmF t b s) fun x => bnd (mkF t 59 x.1) fun s' => bookF t m s' x.2 (n + 1)
/-- what is so of every draft -/
def WB (b : Bk) : Prop :=
  (0 ≤ sNI b.1 ∧ sNI b.1 ≤ 6 ∧ ∀ i : Nat, (i : Int) < sNI b.1 → 1 ≤ b.1 2 i ∧ b.1 2 i ≤ 20 ∧ 1 ≤ b.1 3 i ∧ b.1 3 i ≤ 6 ∧ ∀ k : Nat, (k : Int) < b.1 3 i → 1 ≤ b.1 4 (6 * i + k) ∧ b.1 4 (6 * i + k) ≤ 26) ∧
  (0 ≤ sNL b.1 ∧ sNL b.1 ≤ 8 ∧ ∀ l : Nat, (l : Int) < sNL b.1 → 1 ≤ b.1 5 l ∧ b.1 5 l ≤ 64 ∧ (0 ≤ b.1 26 l ∧ b.1 26 l < sNI b.1) ∧ ∀ k : Nat, (k : Int) < b.1 5 l → 1 ≤ b.1 25 (64 * l + k) ∧ b.1 25 (64 * l + k) ≤ 26) ∧
  (0 ≤ sNR b.1 ∧ sNR b.1 ≤ 4 ∧ ∀ r : Nat, (r : Int) < sNR b.1 → 1 ≤ b.1 6 r ∧ b.1 6 r ≤ 64 ∧ 0 ≤ b.1 7 r ∧ b.1 7 r ≤ 9 ∧ b.1 7 r ≠ 1 ∧ 0 ≤ b.1 8 r ∧ b.1 8 r ≤ 99 ∧ 1 ≤ b.1 9 r ∧ b.1 9 r ≤ 6 ∧ ∀ k : Nat, (k : Int) < b.1 9 r → 1 ≤ b.1 10 (6 * r + k) ∧ b.1 10 (6 * r + k) ≤ 26) ∧
  (0 ≤ sNW b.1 ∧ sNW b.1 ≤ 16 ∧ ∀ w : Nat, (w : Int) < sNW b.1 → 1 ≤ b.1 11 w ∧ b.1 11 w ≤ 12 ∧ ∀ k : Nat, (k : Int) < b.1 11 w → 1 ≤ b.1 12 (12 * w + k) ∧ b.1 12 (12 * w + k) ≤ 26) ∧
  (0 ≤ sGE b.1 ∧ sGE b.1 ≤ 99 ∧ (0 < sGE b.1 → 0 ≤ sGF b.1 ∧ sGF b.1 < sGE b.1)) ∧
  ((0 ≤ sNU b.1 ∧ sNU b.1 ≤ 8) ∧ b.1 13 0 = 0 ∧ b.1 13 (2 * (sNU b.1).toNat) = b.2.length ∧ b.2.length ≤ 1600 ∧ (∀ j : Nat, j < b.2.length → b.1 14 j = b.2.getD j 0) ∧
    ∀ u : Nat, (u : Int) < sNU b.1 → 0 ≤ b.1 13 (2 * u) ∧ b.1 13 (2 * u) ≤ b.1 13 (2 * u + 1) ∧ b.1 13 (2 * u + 1) ≤ b.1 13 (2 * u + 2) ∧ b.1 13 (2 * u + 2) ≤ b.2.length ∧
      tyRun (b.1 14) (b.1 13 (2 * u)).toNat (b.1 13 (2 * u + 1) - b.1 13 (2 * u)).toNat [] = some [false] ∧ tyRun (b.1 14) (b.1 13 (2 * u + 1)).toNat (b.1 13 (2 * u + 2) - b.1 13 (2 * u + 1)).toNat [] = some [true])
/-- the class's draft -/
def DB (B : aS) (dr : Nat) (I : Nat → Nat → Int32) : Prop := CIo dr I ∧
  ((I (dr + 1) 3).toInt = sNI B ∧ (I (dr + 4) 3).toInt = sNL B ∧ (I (dr + 7) 3).toInt = sNR B ∧ (I (dr + 10) 3).toInt = sNW B ∧ (I dr 10).toInt = sGE B ∧ (0 < sGE B → (I dr 11).toInt = sGF B)) ∧
  (∀ i : Nat, (i : Int) < sNI B → (I (dr + 17) i).toInt = B 2 i ∧ (I (dr + 3) i).toInt = B 3 i ∧ ∀ k : Nat, (k : Int) < B 3 i → (I (dr + 2) (6 * i + k)).toInt = B 4 (6 * i + k)) ∧
  (∀ l : Nat, (l : Int) < sNL B → (I (dr + 18) l).toInt = B 26 l ∧ (I (dr + 6) l).toInt = B 5 l ∧ ∀ k : Nat, (k : Int) < B 5 l → (I (dr + 5) (64 * l + k)).toInt = B 25 (64 * l + k)) ∧
  (∀ r : Nat, (r : Int) < sNR B → (I (dr + 19) r).toInt = B 6 r ∧ (I (dr + 20) r).toInt = B 7 r ∧ (I (dr + 21) r).toInt = B 8 r ∧ (I (dr + 9) r).toInt = B 9 r ∧ ∀ k : Nat, (k : Int) < B 9 r → (I (dr + 8) (6 * r + k)).toInt = B 10 (6 * r + k)) ∧
  (∀ w : Nat, (w : Int) < sNW B → (I (dr + 12) w).toInt = B 11 w ∧ ∀ k : Nat, (k : Int) < B 11 w → (I (dr + 11) (12 * w + k)).toInt = B 12 (12 * w + k)) ∧
  ((I (dr + 13) 4).toInt = 2 * sNU B ∧ ∀ j : Nat, (j : Int) ≤ 2 * sNU B → (I (dr + 15) j).toInt = B 13 j)
def frD (dr : Nat) (I I1 : Nat → Nat → Int32) : Prop := (∀ a : Nat, a ≠ 7 → (a < dr ∨ dr + 21 < a) → I1 a = I a) ∧ (∀ j : Nat, j < 2 ∨ 7 < j → I1 7 j = I 7 j) ∧ I1 (dr + 1) 0 = I (dr + 1) 0 ∧ I1 (dr + 4) 0 = I (dr + 4) 0 ∧ I1 (dr + 7) 0 = I (dr + 7) 0 ∧ I1 (dr + 10) 0 = I (dr + 10) 0 ∧ I1 (dr + 15) 0 = I (dr + 15) 0
/-- behind a statement -/
def SPo (dr : Nat) (t : Tp) (x : RX St) (I : Nat → Nat → Int32) : Prop := match x with
  | .ok y => PG dr t y.1 y.2.2 I ∧ DB y.2.1 dr I
  | .error e => PH dr t e.1 e.2 I
section STM
variable {t : Tp} {L d dr tl : Nat} {I I0 I1 : Nat → Nat → Int32} {J : Nat → Nat → Int64} {a0 a1 a2 a3 a4 : Int32} {s : Lx} {k l v lo hi : Int} {R : (Nat → Nat → Int32) → (Nat → Nat → Int64) → Prop} {c : List Int} {x : RX Lx} {B : aS} {b : Bk} {P : Prop}
theorem bnd_a {α β γ : Type} {x : RX α} {f : α → RX β} {g : β → RX γ} : bnd (bnd x f) g = bnd x fun a => bnd (f a) g := by cases x <;> rfl
theorem frD_refl : frD dr I I := ⟨fun _ _ _ => rfl, fun _ _ => rfl, rfl, rfl, rfl, rfl, rfl⟩
theorem frD.tr {I2 : Nat → Nat → Int32} (h : frD dr I I1) (h' : frD dr I1 I2) : frD dr I I2 := ⟨fun a g1 g2 => (h'.1 a g1 g2).trans (h.1 a g1 g2), fun j g => (h'.2.1 j g).trans (h.2.1 j g), h'.2.2.1.trans h.2.2.1, h'.2.2.2.1.trans h.2.2.2.1, h'.2.2.2.2.1.trans h.2.2.2.2.1, h'.2.2.2.2.2.1.trans h.2.2.2.2.2.1, h'.2.2.2.2.2.2.trans h.2.2.2.2.2.2⟩
theorem frQ.toD (hd : dr = 8 ∨ dr = 31) (h : frQ dr I I1) : frD dr I I1 := ⟨fun a g1 g2 => h.1 a g1 (by omega) (by omega), h.2.1, by rw [h.1 (dr + 1) (by omega) (by omega) (by omega)], by rw [h.1 (dr + 4) (by omega) (by omega) (by omega)], by rw [h.1 (dr + 7) (by omega) (by omega) (by omega)], by rw [h.1 (dr + 10) (by omega) (by omega) (by omega)], by rw [h.1 (dr + 15) (by omega) (by omega) (by omega)]⟩
theorem TP.fd (hd : dr = 8 ∨ dr = 31) (h : TP t I) (e : frD dr I I1) : TP t I1 := by
  unfold TP at *
  rw [e.1 3 (by decide) (by omega), e.1 4 (by decide) (by omega)]; exact h
theorem DB.f (hd : dr = 8 ∨ dr = 31) (h : DB B dr I) (e : frQ dr I I1) : DB B dr I1 := by
  have o : ∀ a : Nat, dr ≤ a → a ≠ dr + 13 → a ≠ dr + 14 → I1 a = I a := fun a g1 g2 g3 => e.1 a (by omega) g2 g3
  unfold DB CIo at *
  rw [e.2.2 4 (by decide), o (dr + 1) (by omega) (by omega) (by omega), o (dr + 2) (by omega) (by omega) (by omega), o (dr + 3) (by omega) (by omega) (by omega), o (dr + 4) (by omega) (by omega) (by omega), o (dr + 5) (by omega) (by omega) (by omega), o (dr + 6) (by omega) (by omega) (by omega), o (dr + 7) (by omega) (by omega) (by omega), o (dr + 8) (by omega) (by omega) (by omega), o (dr + 9) (by omega) (by omega) (by omega), o (dr + 10) (by omega) (by omega) (by omega), o (dr + 11) (by omega) (by omega) (by omega), o (dr + 12) (by omega) (by omega) (by omega), o (dr + 15) (by omega) (by omega) (by omega), o (dr + 17) (by omega) (by omega) (by omega), o (dr + 18) (by omega) (by omega) (by omega), o (dr + 19) (by omega) (by omega) (by omega), o (dr + 20) (by omega) (by omega) (by omega), o (dr + 21) (by omega) (by omega) (by omega), o dr (by omega) (by omega) (by omega)]
  exact h
theorem DB.spK (h : DB B dr I) (w : WB (B, c)) : SP (dr + 1) 6 (sNI B).toNat (B 3) (fun i k => B 4 (6 * i + k)) I := by
  have w1 := w.1
  refine ⟨h.1.1, by rw [h.2.1.1]; exact (Int.toNat_of_nonneg w1.1).symm, fun i hi => ?_⟩
  have hi' : (i : Int) < sNI B := by have := w1.1; omega
  have w2 := w1.2.2 i hi'
  have q := h.2.2.1 i hi'
  refine ⟨⟨by have := w2.2.2.1; show 0 ≤ B 3 i; have h3 : 1 ≤ B 3 i := w2.2.2.1; omega, w2.2.2.2.1⟩, q.2.1, fun k hk => ?_⟩
  rw [Nat.mul_comm i 6]
  exact q.2.2 k hk
theorem DB.spR (h : DB B dr I) (w : WB (B, c)) : SP (dr + 7) 6 (sNR B).toNat (B 9) (fun i k => B 10 (6 * i + k)) I := by
  have w1 := w.2.2.1
  refine ⟨h.1.2.2.1, by rw [h.2.1.2.2.1]; exact (Int.toNat_of_nonneg w1.1).symm, fun i hi => ?_⟩
  have hi' : (i : Int) < sNR B := by have := w1.1; omega
  have w2 := w1.2.2 i hi'
  have q := h.2.2.2.2.1 i hi'
  refine ⟨⟨by have h3 : 1 ≤ B 9 i := w2.2.2.2.2.2.2.2.1; omega, w2.2.2.2.2.2.2.2.2.1⟩, q.2.2.2.1, fun k hk => ?_⟩
  rw [Nat.mul_comm i 6]
  exact q.2.2.2.2 k hk
theorem DB.spW (h : DB B dr I) (w : WB (B, c)) : SP (dr + 10) 12 (sNW B).toNat (B 11) (fun i k => B 12 (12 * i + k)) I := by
  have w1 := w.2.2.2.1
  refine ⟨h.1.2.2.2, by rw [h.2.1.2.2.2.1]; exact (Int.toNat_of_nonneg w1.1).symm, fun i hi => ?_⟩
  have hi' : (i : Int) < sNW B := by have := w1.1; omega
  have w2 := w1.2.2 i hi'
  have q := h.2.2.2.2.2.1 i hi'
  refine ⟨⟨by have h3 : 1 ≤ B 11 i := w2.1; omega, w2.2.1⟩, q.1, fun k hk => ?_⟩
  rw [Nat.mul_comm i 12]
  exact q.2 k hk
theorem PGM.p3 (tp : TP t I) (h : PGM dr t x c I) : 0 ≤ (I 7 3).toInt ∧ (I 7 3).toInt ≤ 1600 := by
  have n := tp.1.1
  cases x with
  | ok s =>
    have h' : PG dr t s c I := h
    have := ps_n h'.1.1
    have e := h'.1.2.2.1
    omega
  | error z =>
    have h' : PH dr t z.1 z.2 I := h
    have e := h'.1.2.1
    omega
theorem x_adv (hd : dr = 8 ∨ dr = 31) (tp : TP t I) (h : PGM dr t x c I) (K : ∀ I1 : Nat → Nat → Int32, frQ dr I I1 → PGM dr t (bnd x fun s => .ok (adv t s)) c I1 → R I1 J) : WP ((d + 5), 74, 0, [some (.ref 7), none, none], [], (xSH L dr tl, I, J)) (fun v M => ∃ (I2 : Nat → Nat → Int32) (J2 : Nat → Nat → Int64), v = none ∧ M = (xSH L dr tl, I2, J2) ∧ R I2 J2) := by
  cases x with
  | ok s => exact g_adv (c := c) hd tp h K
  | error e => exact g_advF hd tp h K
theorem x_own (hd : dr = 8 ∨ dr = 31) (tp : TP t I) (h : PGM dr t x c I) (hk : a1.toInt = k) (h0 : 0 ≤ k) (K : ∀ I1 : Nat → Nat → Int32, frQ dr I I1 → PGM dr t (bnd x (owF t k)) c I1 → R I1 J) : WP ((d + 6), 62, 0, [some (.ref 7), some (.int a1)], [], (xSH L dr tl, I, J)) (fun v M => ∃ (I2 : Nat → Nat → Int32) (J2 : Nat → Nat → Int64), v = none ∧ M = (xSH L dr tl, I2, J2) ∧ R I2 J2) := by
  cases x with
  | ok s => exact g_takeOwn (c := c) (s := s) hd tp h hk K
  | error e => exact g_takeOwnF hd tp h (by rw [hk]; exact h0) K
theorem x_mark (hd : dr = 8 ∨ dr = 31) (tp : TP t I) (h : PGM dr t x c I) (hk : a1.toInt = k) (K : ∀ I1 : Nat → Nat → Int32, frQ dr I I1 → PGM dr t (bnd x (mkF t k)) c I1 → R I1 J) : WP ((d + 6), 63, 0, [some (.ref 7), some (.int a1)], [], (xSH L dr tl, I, J)) (fun v M => ∃ (I2 : Nat → Nat → Int32) (J2 : Nat → Nat → Int64), v = none ∧ M = (xSH L dr tl, I2, J2) ∧ R I2 J2) := by
  cases x with
  | ok s => exact g_takeMark (c := c) (s := s) hd tp h hk K
  | error e => exact g_takeMarkF hd tp h K
theorem x_num {R : Int32 → (Nat → Nat → Int32) → (Nat → Nat → Int64) → Prop} (hd : dr = 8 ∨ dr = 31) (tp : TP t I) (h : PGM dr t x c I) (hl : a1.toInt = lo) (hh : ∀ s : Lx, x = .ok s → a2.toInt = hi) (K : ∀ (r : Int32) (I1 : Nat → Nat → Int32), frQ dr I I1 → PGN dr t (bnd x (numF t lo hi)) c r I1 → R r I1 J) : WP ((d + 6), 61, 0, [some (.ref 7), some (.int a1), some (.int a2), none, none], [], (xSH L dr tl, I, J)) (fun v M => ∃ (r : Int32) (I2 : Nat → Nat → Int32) (J2 : Nat → Nat → Int64), v = some (.int r) ∧ M = (xSH L dr tl, I2, J2) ∧ R r I2 J2) := by
  cases x with
  | ok s => exact g_number (c := c) (s := s) hd tp h hl (hh s rfl) K
  | error e =>
    have h' : PH dr t e.1 e.2 I := h
    have t3 : (3 : Int32).toInt = 3 := rfl
    refine w61_0 (sk (fun z => ?_) (g_failF hd tp h' fun I1 f1 g1 => sk (fun z => g1.1.1 (by rw [← g1.1.2.2.2.2.1]; exact eq0.mp z)) ⟨0, I1, J, rfl, rfl, K 0 I1 f1 g1⟩))
    rw [eq_ti, h'.1.2.2.1] at z
    exact absurd z (by decide)
theorem s_opn {y : xSt} (hf : PB y P (xSH L dr tl, I, J)) (hd : dr = 8 ∨ dr = 31) (tp : TP t I) (h : PG dr t s c I) (K : ∀ I1 : Nat → Nat → Int32, frQ dr I I1 → PGM dr t (opn t P s) c I1 → R I1 J) : WP y (fun v M => ∃ (r1 : Int32) (I1 : Nat → Nat → Int32) (J1 : Nat → Nat → Int64), v = some (.int r1) ∧ M = (xSH L dr tl, I1, J1) ∧ WP ((d + 6), 57, 0, [some (.ref 7), some (.int r1)], [], (xSH L dr tl, I1, J1)) (fun v M => ∃ (I2 : Nat → Nat → Int32) (J2 : Nat → Nat → Int64), v = none ∧ M = (xSH L dr tl, I2, J2) ∧ R I2 J2)) := by
  refine hf.u (fun y => w57_0 (sk (by decide) (g_fail (k := 5) hd tp h rfl (by decide) h.1.2.1 fun I1 f1 g1 => g_advF hd (tp.fq hd f1) g1 fun I2 f2 g2 => ⟨I2, J, rfl, rfl, K I2 (f1.tr f2) ?_⟩))) (fun y => w57_0 (hit rfl (g_adv hd tp h fun I1 f1 g1 => ⟨I1, J, rfl, rfl, K I1 f1 ?_⟩)))
  · have e : opn t P s = .error (5, (qq t s : Int)) := if_pos y
    rw [e]; exact g2
  · have e : opn t P s = .ok (adv t s) := if_neg y
    rw [e]; exact g1
theorem x_chS {n : Nat} (hd : dr = 8 ∨ dr = 31) (tp : TP t I) (h : PGM dr t x c I) (ha : a1.toInt = n) (hn : n ≤ 64) (K : ∀ I1 : Nat → Nat → Int32, frQ dr I I1 → PGM dr t (bnd x (chS t n)) c I1 → R I1 J) : WP ((d + 3), 60, 0, [some (.ref 7), some (.int a1)], [], (xSH L dr tl, I, J)) (fun v M => ∃ (I2 : Nat → Nat → Int32) (J2 : Nat → Nat → Int64), v = none ∧ M = (xSH L dr tl, I2, J2) ∧ R I2 J2) := by
  have t2 : (2 : Int32).toInt = 2 := rfl
  have n1600 := tp.1.1
  cases x with
  | error e =>
    have h' : PH dr t e.1 e.2 I := h
    refine w60_0 (sk (fun z => ?_) (g_failF hd tp h' fun I1 f1 g1 => ⟨I1, J, rfl, rfl, K I1 f1 g1⟩))
    rw [eq_ti, h'.1.2.2.1] at z
    exact absurd z (by decide)
  | ok s =>
    have h' : PG dr t s c I := h
    have hq := h'.1.2.1
    have hp := h'.1.2.2.1
    have hk := h'.1.2.2.2.1
    have hle := ps_le (t := t) (s := s) h'.1.1
    have hpn := ps_n (t := t) (s := s) h'.1.1
    have sb : (I 7 3 - I 7 2).toInt = ps t s - qq t s := by rw [sub_ti (by omega) (by omega), hq, hp]
    have E : bnd (.ok s) (chS t n) = chS t n s := rfl
    rw [E] at K
    unfold chS at K
    refine w60_0 (brz eq_ti (fun y => brz lt_ti (fun z => ?_) (fun z => ⟨I, J, rfl, rfl, K I frQ_refl ?_⟩)) (fun y => g_fail (k := 1) hd tp h' rfl (by decide) hq fun I1 f1 g1 => ⟨I1, J, rfl, rfl, K I1 f1 ?_⟩))
    · have k2 : kd t s = 2 := hk.symm.trans y
      refine g_fail (k := 1) (l := ((qq t s + n : Nat) : Int)) hd tp h' rfl (by decide) (by rw [addn (by omega) (by omega) (by omega) (by omega), hq, ha]; omega) fun I1 f1 g1 => ⟨I1, J, rfl, rfl, K I1 f1 ?_⟩
      rw [if_neg (fun u => u k2), if_pos (by rw [sb] at z; omega)]
      exact g1
    · have k2 : kd t s = 2 := hk.symm.trans y
      rw [if_neg (fun u => u k2), if_neg (by rw [sb] at z; omega)]
      exact h'
    · have y' : kd t s ≠ 2 := fun u => y (hk.trans u)
      rw [if_pos y']
      exact g1
theorem x_chN (hd : dr = 8 ∨ dr = 31) (tp : TP t I) (h : PGM dr t x c I) (K : ∀ I1 : Nat → Nat → Int32, frQ dr I I1 → PGM dr t (bnd x (chN t)) c I1 → R I1 J) : WP ((d + 4), 59, 0, [some (.ref 7)], [], (xSH L dr tl, I, J)) (fun v M => ∃ (I2 : Nat → Nat → Int32) (J2 : Nat → Nat → Int64), v = none ∧ M = (xSH L dr tl, I2, J2) ∧ R I2 J2) := by
  cases x with
  | error e =>
    have h' : PH dr t e.1 e.2 I := h
    exact w59_0 (hit (eqm.mpr h'.1.2.2.2.1) (x_chS (x := .error e) (c := c) (n := 6) hd tp h rfl (by decide) fun I1 f1 g1 => ⟨I1, J, rfl, rfl, K I1 f1 g1⟩))
  | ok s =>
    have h' : PG dr t s c I := h
    have E : bnd (.ok s) (chN t) = chN t s := rfl
    rw [E] at K
    unfold chN at K
    refine w59_0 (brz eqm (fun y => x_chS (x := .ok s) (c := c) (n := 6) hd tp h rfl (by decide) fun I1 f1 g1 => ⟨I1, J, rfl, rfl, K I1 f1 ?_⟩) (fun y => g_fail (k := 1) hd tp h' rfl (by decide) h'.1.2.1 fun I1 f1 g1 => x_chS (x := .error (1, (qq t s : Int))) (c := c) (n := 6) hd (tp.fq hd f1) g1 rfl (by decide) fun I2 f2 g2 => ⟨I2, J, rfl, rfl, K I2 (f1.tr f2) ?_⟩))
    · rw [if_neg (fun u => u (h'.1.2.2.2.2.1.symm.trans y))]
      exact g1
    · rw [if_pos (fun u => y (h'.1.2.2.2.2.1.trans u))]
      exact g2
theorem x_chW (hd : dr = 8 ∨ dr = 31) (tp : TP t I) (w : WB (B, c)) (db : DB B dr I) (h : PGM dr t x c I) (K : ∀ I1 : Nat → Nat → Int32, frQ dr I I1 → PGM dr t (bnd x (chW t B)) c I1 → R I1 J) : WP ((d + 5), 58, 0, [some (.ref 7)], [], (xSH L dr tl, I, J)) (fun v M => ∃ (I2 : Nat → Nat → Int32) (J2 : Nat → Nat → Int64), v = none ∧ M = (xSH L dr tl, I2, J2) ∧ R I2 J2) := by
  have n6 : (sNI B).toNat ≤ 6 := by have := w.1.2.1; have : sNI B ≤ 6 := this; omega
  have n4 : (sNR B).toNat ≤ 4 := by have := w.2.2.1.2.1; have : sNR B ≤ 4 := this; omega
  have E : bnd x (chW t B) = bnd (bnd x (chN t)) (nwN t B) := bnd_a.symm
  rw [E] at K
  refine w58_0 hd (x_chN hd tp h fun I1 f1 g1 => (s_find (tp.fq hd f1) (sk1 hd) ((db.f hd f1).spK w) n6 (g1.p3 (tp.fq hd f1))).u fun r2 e2 => ?_)
  have tp1 := tp.fq hd f1
  have db1 := db.f hd f1
  cases hy : bnd x (chN t) with
  | error e =>
    rw [hy] at g1 K
    have g1' : PH dr t e.1 e.2 I1 := g1
    refine brz eqm (fun y => (s_find tp1 (sk7 hd) (db1.spR w) n4 (g1.p3 tp1)).u fun r5 e5 => brz eqm (fun _ => ⟨I1, J, rfl, rfl, K I1 f1 g1⟩) (fun _ => g_failF hd tp1 g1' fun I2 f2 g2 => ⟨I2, J, rfl, rfl, K I2 (f1.tr f2) g2⟩)) (fun y => g_failF hd tp1 g1' fun I2 f2 g2 => ⟨I2, J, rfl, rfl, K I2 (f1.tr f2) g2⟩)
  | ok s2 =>
    rw [hy] at g1 K
    have g1' : PG dr t s2 c I1 := g1
    have EE : bnd (.ok s2) (nwN t B) = nwN t B s2 := rfl
    rw [EE] at K
    unfold nwN at K
    rw [g1'.1.2.1, g1'.1.2.2.1] at e2
    have e2 : r2.toInt = fdK t B s2 := e2
    refine brz eqm (fun y => (s_find tp1 (sk7 hd) (db1.spR w) n4 (g1.p3 tp1)).u fun r5 e5 => ?_) (fun y => g_fail (k := 3) hd tp1 g1' rfl (by decide) g1'.1.2.1 fun I2 f2 g2 => ⟨I2, J, rfl, rfl, K I2 (f1.tr f2) ?_⟩)
    · rw [g1'.1.2.1, g1'.1.2.2.1] at e5
      have e5 : r5.toInt = fdR t B s2 := e5
      refine brz eqm (fun z => ⟨I1, J, rfl, rfl, K I1 f1 ?_⟩) (fun z => g_fail (k := 3) hd tp1 g1' rfl (by decide) g1'.1.2.1 fun I2 f2 g2 => ⟨I2, J, rfl, rfl, K I2 (f1.tr f2) ?_⟩)
      · rw [if_neg (fun u => ?_)]
        · exact g1
        · rcases u with u | u
          · exact u (e2.symm.trans y)
          · exact u (e5.symm.trans z)
      · rw [if_pos (Or.inr (fun u => z (e5.trans u)))]
        exact g2
    · rw [if_pos (Or.inl (fun u => y (e2.trans u)))]
      exact g2
end STM
