/-! least and greatest bit; a player's lines; who is on stage -/
theorem z_bit1 {x p y1 y2 : Int32} (e1 : y1 = x >>> (p &&& 31)) (e2 : y2 = y1 &&& 1) (h0 : 0 ≤ p.toInt) (h1 : p.toInt < 32) : (y2.toInt = 1 ∧ bt x p.toInt.toNat = true) ∨ (y2.toInt = 0 ∧ bt x p.toInt.toNat = false) := by
  have h := z_bitAt (x := x) h0 h1
  rw [← e1, ← e2] at h
  cases hb : bt x p.toInt.toNat
  · rw [hb] at h
    exact Or.inr ⟨by simpa using h, rfl⟩
  · rw [hb] at h
    exact Or.inl ⟨by simpa using h, rfl⟩
def zLst (x : Int32) (r : Int) : Prop := (r = -9 ∧ ∀ j : Nat, j < 12 → bt x j = false) ∨ (0 ≤ r ∧ r < 12 ∧ bt x r.toNat = true ∧ ∀ j : Nat, (j : Int) < r → bt x j = false)
def zGst (x : Int32) (r : Int) : Prop := (r = -9 ∧ ∀ j : Nat, j < 12 → bt x j = false) ∨ (0 ≤ r ∧ r < 12 ∧ bt x r.toNat = true ∧ ∀ j : Nat, r < (j : Int) → j < 12 → bt x j = false)
theorem z_lsS {x k k2 y1 y2 : Int32} (h : ∀ j : Nat, (j : Int) < k.toInt → bt x j = false) (e1 : y1 = x >>> (k &&& 31)) (e2 : y2 = y1 &&& 1) (hy : y2.toInt ≠ 1) (k0 : 0 ≤ k.toInt) (k1 : k.toInt < 32) (hk : k2.toInt = k.toInt + 1) : ∀ j : Nat, (j : Int) < k2.toInt → bt x j = false := fun j hj => by
  by_cases c : (j : Int) = k.toInt
  · rw [show j = k.toInt.toNat by omega]
    rcases z_bit1 e1 e2 k0 k1 with ⟨a, -⟩ | ⟨-, a⟩
    · exact absurd a hy
    · exact a
  · exact h j (by omega)
theorem z_lsT {x k y1 y2 : Int32} (h : ∀ j : Nat, (j : Int) < k.toInt → bt x j = false) (e1 : y1 = x >>> (k &&& 31)) (e2 : y2 = y1 &&& 1) (hy : y2.toInt = 1) (k0 : 0 ≤ k.toInt) (k1 : k.toInt < 12) : zLst x k.toInt := by
  rcases z_bit1 e1 e2 k0 (by omega) with ⟨-, a⟩ | ⟨a, -⟩
  · exact Or.inr ⟨k0, k1, a, h⟩
  · omega
theorem z_lsN {x k r : Int32} (h : ∀ j : Nat, (j : Int) < k.toInt → bt x j = false) (hk : 12 ≤ k.toInt) (hr : r.toInt = -9) : zLst x r.toInt := Or.inl ⟨hr, fun j hj => h j (by omega)⟩
theorem z_gsS {x k k2 y1 y2 : Int32} (h : ∀ j : Nat, k.toInt < (j : Int) → j < 12 → bt x j = false) (e1 : y1 = x >>> (k &&& 31)) (e2 : y2 = y1 &&& 1) (hy : y2.toInt ≠ 1) (k0 : 0 ≤ k.toInt) (k1 : k.toInt < 32) (hk : k2.toInt = k.toInt - 1) : ∀ j : Nat, k2.toInt < (j : Int) → j < 12 → bt x j = false := fun j hj hj2 => by
  by_cases c : (j : Int) = k.toInt
  · rw [show j = k.toInt.toNat by omega]
    rcases z_bit1 e1 e2 k0 k1 with ⟨a, -⟩ | ⟨-, a⟩
    · exact absurd a hy
    · exact a
  · exact h j (by omega) hj2
theorem z_gsT {x k y1 y2 : Int32} (h : ∀ j : Nat, k.toInt < (j : Int) → j < 12 → bt x j = false) (e1 : y1 = x >>> (k &&& 31)) (e2 : y2 = y1 &&& 1) (hy : y2.toInt = 1) (k0 : 0 ≤ k.toInt) (k1 : k.toInt < 12) : zGst x k.toInt := by
  rcases z_bit1 e1 e2 k0 (by omega) with ⟨-, a⟩ | ⟨a, -⟩
  · exact Or.inr ⟨k0, k1, a, h⟩
  · omega
theorem z_gsN {x k r : Int32} (h : ∀ j : Nat, k.toInt < (j : Int) → j < 12 → bt x j = false) (hk : k.toInt < 0) (hr : r.toInt = -9) : zGst x r.toInt := Or.inl ⟨hr, fun j hj => h j (by omega) hj⟩
def zOwL (L : Int) (wh : Nat → Int32) (p : Int) (x : Int32) : Prop := zB12 x ∧ ∀ l : Nat, l < 12 → bt x l = decide ((l : Int) < L ∧ (wh l).toInt = p)
theorem z_owU {L p : Int} {wh : Nat → Int32} {x y : Int32} (hx : zOwL L wh p x) (hy : zOwL L wh p y) : x = y := z_b12E hx.1 hy.1 (fun i hi => by rw [hx.2 i hi, hy.2 i hi])
theorem z_ow0 {L p : Int} {wh : Nat → Int32} (h : L = 0) : zOwL L wh p 0 := ⟨z_b12Z, fun l _ => by rw [b_0]; exact (decide_eq_false (by omega)).symm⟩
theorem z_owS {p : Int} {wh : Nat → Int32} {x k k2 y w : Int32} (h : zOwL k.toInt wh p x) (k0 : 0 ≤ k.toInt) (k1 : k.toInt < 12) (hk : k2.toInt = k.toInt + 1) (gw : w.toInt = (wh k.toNatClampNeg).toInt) (s : (w.toInt = p ∧ ∃ b : Int32, b = (1 : Int32) <<< (k &&& 31) ∧ y = x ||| b) ∨ (w.toInt ≠ p ∧ y = x ||| 0)) : zOwL k2.toInt wh p y := by
  obtain ⟨h1, h2⟩ := h
  have gw2 : w.toInt = (wh k.toInt.toNat).toInt := gw
  rcases s with ⟨a, b, rfl, rfl⟩ | ⟨a, rfl⟩
  · refine ⟨z_b12O h1 k0 k1, fun l hl => ?_⟩
    rw [z_btO k0 k1 (by omega), h2 l hl]
    by_cases c : l = k.toInt.toNat
    · rw [decide_eq_true c, Bool.or_true]
      exact (decide_eq_true ⟨by omega, by rw [c]; omega⟩).symm
    · rw [decide_eq_false c, Bool.or_false]
      exact decide_eq_decide.mpr ⟨fun q => ⟨by omega, q.2⟩, fun q => ⟨by omega, q.2⟩⟩
  · have e : x ||| 0 = x := b_ext fun i _ => by rw [b_or, b_0, Bool.or_false]
    rw [e]
    refine ⟨h1, fun l hl => ?_⟩
    rw [h2 l hl]
    by_cases c : l = k.toInt.toNat
    · exact decide_eq_decide.mpr ⟨fun q => by omega, fun q => by rw [c] at q; omega⟩
    · exact decide_eq_decide.mpr ⟨fun q => ⟨by omega, q.2⟩, fun q => ⟨by omega, q.2⟩⟩
def zOn (L : Int) (wh : Nat → Int32) (p l : Int) : Prop := (∃ i : Nat, (i : Int) ≤ l ∧ (i : Int) < L ∧ (wh i).toInt = p) ∧ ∃ i : Nat, l ≤ (i : Int) ∧ (i : Int) < L ∧ (wh i).toInt = p
theorem z_x0 {x : Int32} : x.toInt = 0 ↔ ∀ i, i < 32 → bt x i = false := by
  constructor
  · intro h i _
    rw [show x = 0 from (fa_eq _ _).mpr (by rw [h]; decide)]
    exact b_0 i
  · intro h
    rw [show x = 0 from b_ext fun i hi => by rw [h i hi, b_0]]
    decide
theorem z_owB {L p : Int} {wh : Nat → Int32} {x : Int32} (h : zOwL L wh p x) (hL : L ≤ 12) {i : Nat} (hi : i < 32) : bt x i = true ↔ (i : Int) < L ∧ (wh i).toInt = p := by
  by_cases c : i < 12
  · rw [h.2 i c]
    exact decide_eq_true_iff
  · rw [h.1 i (by omega) hi]
    exact ⟨fun q => absurd q (by decide), fun q => by omega⟩
theorem z_onC {L p l : Int} {wh : Nat → Int32} {x : Int32} {r1 r2 : Int} (h : zOwL L wh p x) (hL : L ≤ 12) (a : zLst x r1) (b : zGst x r2) (hx : x.toInt ≠ 0) : zOn L wh p l ↔ (r1 ≤ l ∧ l ≤ r2) := by
  have nz : ¬ ∀ j : Nat, j < 12 → bt x j = false := fun q => hx (z_x0.mpr fun i hi => by
    by_cases c : i < 12
    · exact q i c
    · exact h.1 i (by omega) hi)
  obtain ⟨a1, a2, a3, a4⟩ : 0 ≤ r1 ∧ r1 < 12 ∧ bt x r1.toNat = true ∧ ∀ j : Nat, (j : Int) < r1 → bt x j = false := by
    rcases a with ⟨-, a⟩ | a
    · exact absurd a nz
    · exact a
  obtain ⟨b1, b2, b3, b4⟩ : 0 ≤ r2 ∧ r2 < 12 ∧ bt x r2.toNat = true ∧ ∀ j : Nat, r2 < (j : Int) → j < 12 → bt x j = false := by
    rcases b with ⟨-, b⟩ | b
    · exact absurd b nz
    · exact b
  constructor
  · rintro ⟨⟨i, i1, i2, i3⟩, ⟨k, k1, k2, k3⟩⟩
    have ti := (z_owB h hL (i := i) (by omega)).mpr ⟨i2, i3⟩
    have tk := (z_owB h hL (i := k) (by omega)).mpr ⟨k2, k3⟩
    refine ⟨?_, ?_⟩
    · rcases Int.lt_or_le (i : Int) r1 with c | c
      · rw [a4 i c] at ti; exact absurd ti (by decide)
      · omega
    · rcases Int.lt_or_le r2 (k : Int) with c | c
      · rw [b4 k c (by omega)] at tk; exact absurd tk (by decide)
      · omega
  · rintro ⟨c1, c2⟩
    have t1 := (z_owB h hL (i := r1.toNat) (by omega)).mp a3
    have t2 := (z_owB h hL (i := r2.toNat) (by omega)).mp b3
    exact ⟨⟨r1.toNat, by omega, t1.1, t1.2⟩, ⟨r2.toNat, by omega, t2.1, t2.2⟩⟩
theorem z_onZ {L p l : Int} {wh : Nat → Int32} {x : Int32} (h : zOwL L wh p x) (hL : L ≤ 12) (hx : x.toInt = 0) : ¬ zOn L wh p l := by
  rintro ⟨⟨i, i1, i2, i3⟩, -⟩
  have ti := (z_owB h hL (i := i) (by omega)).mpr ⟨i2, i3⟩
  rw [z_x0.mp hx i (by omega)] at ti
  exact absurd ti (by decide)
theorem z_msk : ∀ n, n < 14 → ∀ i, i < 32 → bt (((1 : Int32) <<< (nI n &&& 31)) - 1) i = decide (i < n) := by decide +kernel
theorem z_onR {L p : Int} {wh : Nat → Int32} {x l l1 b m a s : Int32} (h : zOwL L wh p x) (hL : L ≤ 12) (l0 : 0 ≤ l.toInt) (l12 : l.toInt < 12) (hl1 : l1.toInt = l.toInt + 1) (eb : b = (1 : Int32) <<< (l1 &&& 31)) (em : m = b - 1) (ea : a = x &&& m) (es : s = x >>> (l &&& 31)) : zOn L wh p l.toInt ↔ (a.toInt ≠ 0 ∧ s.toInt ≠ 0) := by
  have e1 : l1 = nI (l.toInt.toNat + 1) := by
    rw [z_nI (x := l1) (by omega), show l1.toInt.toNat = l.toInt.toNat + 1 by omega]
  have hm : ∀ i, i < 32 → bt m i = decide (i < l.toInt.toNat + 1) := fun i hi => by
    rw [em, eb, e1]
    exact z_msk (l.toInt.toNat + 1) (by omega) i hi
  have ha : ∀ i, i < 32 → bt a i = (bt x i && decide (i < l.toInt.toNat + 1)) := fun i hi => by rw [ea, b_and, hm i hi]
  have hs : ∀ i, i < 32 → bt s i = if l.toInt.toNat + i < 32 then bt x (l.toInt.toNat + i) else bt x 31 := fun i hi => by
    have := b_sshr l.toInt.toNat (by omega) x hi
    rw [← z_nI l0, ← es] at this
    exact this
  constructor
  · rintro ⟨⟨i, i1, i2, i3⟩, ⟨k, k1, k2, k3⟩⟩
    have ti := (z_owB h hL (i := i) (by omega)).mpr ⟨i2, i3⟩
    have tk := (z_owB h hL (i := k) (by omega)).mpr ⟨k2, k3⟩
    refine ⟨fun q => ?_, fun q => ?_⟩
    · have w := z_x0.mp q i (by omega)
      rw [ha i (by omega), ti, decide_eq_true (by omega)] at w
      exact absurd w (by decide)
    · have w := z_x0.mp q (k - l.toInt.toNat) (by omega)
      rw [hs _ (by omega), if_pos (by omega), show l.toInt.toNat + (k - l.toInt.toNat) = k by omega, tk] at w
      exact absurd w (by decide)
  · rintro ⟨q1, q2⟩
    refine ⟨?_, ?_⟩
    · refine Classical.byContradiction fun n => q1 (z_x0.mpr fun i hi => ?_)
      rw [ha i hi]
      cases hb : bt x i
      · rfl
      · by_cases c : i < l.toInt.toNat + 1
        · have w := (z_owB h hL hi).mp hb
          exact absurd ⟨i, by omega, w.1, w.2⟩ n
        · rw [decide_eq_false c]; rfl
    · refine Classical.byContradiction fun n => q2 (z_x0.mpr fun i hi => ?_)
      rw [hs i hi]
      by_cases c : l.toInt.toNat + i < 32
      · rw [if_pos c]
        cases hb : bt x (l.toInt.toNat + i)
        · rfl
        · have w := (z_owB h hL c).mp hb
          exact absurd ⟨l.toInt.toNat + i, by omega, w.1, w.2⟩ n
      · rw [if_neg c]
        exact h.1 31 (by omega) (by omega)
noncomputable def zCt (p : Nat → Prop) : Nat → Int
  | 0 => 0
  | n + 1 => zCt p n + @ite Int (p n) (Classical.propDecidable _) 1 0
theorem z_ctY {p : Nat → Prop} {n : Nat} (h : p n) : zCt p (n + 1) = zCt p n + 1 := by
  show zCt p n + @ite Int (p n) (Classical.propDecidable _) 1 0 = _
  rw [if_pos h]
theorem z_ctN {p : Nat → Prop} {n : Nat} (h : ¬ p n) : zCt p (n + 1) = zCt p n := by
  show zCt p n + @ite Int (p n) (Classical.propDecidable _) 1 0 = _
  rw [if_neg h, Int.add_zero]
def zMx (f : Nat → Int) : Nat → Int
  | 0 => 0
  | n + 1 => if zMx f n < f n then f n else zMx f n
def zOwA (P L : Int) (ow wh : Nat → Int32) : Prop := ∀ p : Nat, (p : Int) < P → zOwL L wh (p : Int) (ow p)
noncomputable def zOc (P L : Int) (wh : Nat → Int32) (l : Nat) : Int := zCt (fun p => zOn L wh (p : Int) (l : Int)) P.toNat
/-- the class's count -/
theorem z_ocS {P L at_ : Int} {ow wh : Nat → Int32} {n n2 : Int} {p p2 x : Int32} (hA : zOwA P L ow wh) (hL : L ≤ 12) (h : n = zCt (fun q => zOn L wh (q : Int) at_) p.toInt.toNat) (p0 : 0 ≤ p.toInt) (pP : p.toInt < P) (hp : p2.toInt = p.toInt + 1) (gx : x.toInt = (ow p.toNatClampNeg).toInt) (s : (x.toInt = 0 ∧ n2 = n) ∨ (x.toInt ≠ 0 ∧ ∃ r1 : Int, zLst x r1 ∧ ((at_ < r1 ∧ n2 = n) ∨ (r1 ≤ at_ ∧ ∃ r2 : Int, zGst x r2 ∧ ((r2 < at_ ∧ n2 = n) ∨ (at_ ≤ r2 ∧ n2 = n + 1)))))) (hg : ∃ r2 : Int, zGst x r2) : n2 = zCt (fun q => zOn L wh (q : Int) at_) p2.toInt.toNat := by
  have hx : zOwL L wh p.toInt x := by
    have w := hA p.toInt.toNat (by omega)
    rw [Int.toNat_of_nonneg p0] at w
    rw [show x = ow p.toInt.toNat from (fa_eq _ _).mpr gx]
    exact w
  rw [show p2.toInt.toNat = p.toInt.toNat + 1 by omega]
  have key : ∀ b : Prop, ((zOn L wh ((p.toInt.toNat : Nat) : Int) at_) ↔ b) → ((b ∧ n2 = n + 1) ∨ (¬ b ∧ n2 = n)) → n2 = zCt (fun q => zOn L wh (q : Int) at_) (p.toInt.toNat + 1) := by
    intro b hb hs
    rcases hs with ⟨hs, e⟩ | ⟨hs, e⟩
    · rw [z_ctY (hb.mpr hs), ← h, e]
    · rw [z_ctN (fun q => hs (hb.mp q)), ← h, e]
  rw [Int.toNat_of_nonneg p0] at key
  rcases s with ⟨s1, s2⟩ | ⟨s1, r1, s2, s3⟩
  · exact key False ⟨fun q => z_onZ hx hL s1 q, fun q => q.elim⟩ (Or.inr ⟨id, s2⟩)
  · rcases s3 with ⟨s3, s4⟩ | ⟨s3, r2, s4, s5⟩
    · obtain ⟨r2, g⟩ := hg
      exact key _ (z_onC hx hL s2 g s1) (Or.inr ⟨fun q => by omega, s4⟩)
    · rcases s5 with ⟨s5, s6⟩ | ⟨s5, s6⟩
      · exact key _ (z_onC hx hL s2 s4 s1) (Or.inr ⟨fun q => by omega, s6⟩)
      · exact key _ (z_onC hx hL s2 s4 s1) (Or.inl ⟨⟨s3, s5⟩, s6⟩)
theorem z_gsX (x : Int32) : ∃ r : Int, zGst x r := by
  have aux : ∀ n : Nat, n ≤ 12 → (∃ r : Int, zGst x r) ∨ ∀ j : Nat, 12 - n ≤ j → j < 12 → bt x j = false := by
    intro n
    induction n with
    | zero => intro _; exact Or.inr fun j h1 h2 => by omega
    | succ n ih =>
      intro hn
      rcases ih (by omega) with h | h
      · exact Or.inl h
      · cases hb : bt x (12 - (n + 1))
        · refine Or.inr fun j h1 h2 => ?_
          by_cases c : j = 12 - (n + 1)
          · rw [c]; exact hb
          · exact h j (by omega) h2
        · exact Or.inl ⟨((12 - (n + 1) : Nat) : Int), Or.inr ⟨by omega, by omega, by rw [Int.toNat_natCast]; exact hb, fun j h1 h2 => h j (by omega) h2⟩⟩
  rcases aux 12 (Nat.le_refl 12) with h | h
  · exact h
  · exact ⟨-9, Or.inl ⟨rfl, fun j hj => h j (by omega) hj⟩⟩
theorem z_ctS {p : Nat → Prop} {n n2 k k2 v : Int} (h : n = zCt p k.toNat) (k0 : 0 ≤ k) (hk : k2 = k + 1) (hv : (v = 1 ∧ p k.toNat) ∨ (v = 0 ∧ ¬ p k.toNat)) (hn : n2 = n + v) : n2 = zCt p k2.toNat := by
  rw [show k2.toNat = k.toNat + 1 by omega]
  rcases hv with ⟨a, b⟩ | ⟨a, b⟩
  · rw [z_ctY b, ← h]; omega
  · rw [z_ctN b, ← h]; omega
theorem z_mxS {f : Nat → Int} {a a2 k k2 v : Int} (h : a = zMx f k.toNat) (k0 : 0 ≤ k) (hk : k2 = k + 1) (hv : v = f k.toNat) (h1 : a ≤ a2) (h2 : v ≤ a2) (h3 : a2 = a ∨ a2 = v) : a2 = zMx f k2.toNat := by
  rw [show k2.toNat = k.toNat + 1 by omega]
  show a2 = if zMx f k.toNat < f k.toNat then f k.toNat else zMx f k.toNat
  rw [← h, ← hv]
  split <;> omega
theorem z_reOw {P L ki : Int32} {sp cu ow on tx sz : Nat → Int32} {S : ZS} (h : zRe P L ki sp cu ow on tx sz S) : zOwA P.toInt L.toInt ow (S.2 3) := fun p hp => by
  obtain ⟨a, b⟩ := h.2.2.2.2.2.1 p hp
  refine ⟨a, fun l hl => ?_⟩
  rw [b l hl, (h.2.2.1 l (by omega)).2.1]
/-! the play against the state: rows that agree, cue, speed, a piece, the image -/
theorem z_reX {P L ki : Int32} {sp cu ow on tx sz sp2 cu2 ow2 on2 tx2 sz2 : Nat → Int32} {S T : ZS} (h : zRe P L ki sp cu ow on tx sz S) (hP : P.toInt ≤ 5) (hL : L.toInt ≤ 12) (c1 : zQa 5 sp sp2) (c2 : zQa 12 cu cu2) (c3 : zQa 5 ow ow2) (c4 : zQa 12 on on2) (c5 : zQa 12 tx tx2) (c6 : zQa 12 sz sz2) (e1 : T.1.1 = S.1.1) (e2 : T.1.2.1 = S.1.2.1) (d2 : zQa 5 (S.2 2) (T.2 2)) (d3 : zQa 12 (S.2 3) (T.2 3)) (d4 : zQa 12 (S.2 4) (T.2 4)) (d5 : zQa 12 (S.2 5) (T.2 5)) (d6 : zQa 12 (S.2 6) (T.2 6)) (d7 : zQa 60 (S.2 7) (T.2 7)) : zRe P L ki sp2 cu2 ow2 on2 tx2 sz2 T := by
  obtain ⟨⟨a1, a2⟩, a3, a4, a5, ⟨a6, a6b, a6c⟩, a7, a8⟩ := h
  refine ⟨⟨by rw [e1]; exact a1, by rw [e2]; exact a2⟩, fun j hj => ?_, fun j hj => ?_, fun l hl => ?_, ⟨a6, fun l hl => ?_, fun l h1 h2 => ?_⟩, fun p hp => ?_, fun l hl => ?_⟩
  · rw [d2 j hj, c1 j hj]
    exact a3 j hj
  · rw [d5 j hj, d3 j hj, d4 j hj, c2 j hj, c4 j hj, c6 j hj]
    exact a4 j hj
  · have b := (a8 l hl).2.1
    rw [c5 l (by omega), c6 l (by omega), a5 l hl]
    exact z_txE _ (fun k hk => by
      unfold zWf
      rw [d7 (5 * l + k) (by omega)])
  · rw [d6 l (by omega)]
    exact a6b l hl
  · rw [d6 l (by omega)]
    exact a6c l h1 h2
  · obtain ⟨q1, q2⟩ := a7 p hp
    rw [c3 p (by omega)]
    refine ⟨q1, fun l hl => ?_⟩
    rw [c4 l (by omega)]
    exact q2 l hl
  · obtain ⟨b1, b2, b3, b4⟩ := a8 l hl
    rw [c4 l (by omega), c6 l (by omega), c2 l (by omega)]
    refine ⟨b1, b2, b3, fun k hk => ?_⟩
    rw [d7 (5 * l + k) (by omega)]
    exact b4 k hk
theorem z_qaR {l : Int} {f : Nat → Int32} : zQa l f f := fun _ _ => rfl
theorem z_reCu {P L ki p c r : Int32} {sp cu ow on tx sz cu2 cv2 a1 a2 a3 a4 a5 a6 a7 a8 : Nat → Int32} {i1 i2 i3 : Int} (h : zRe P L ki sp cu ow on tx sz (zSt a1 a2 a3 a4 a5 a6 a7 a8 i1 i2 i3)) (q : zCuP L.toInt 1 4 cu p c r cu2) (e : cu2 = cv2) : zRe P L ki sp cu2 ow on tx sz (zSt a1 a2 a3 a4 a5 cv2 a7 a8 i1 i2 i3) := by
  subst e
  obtain ⟨a1, a3, a4, a5, a6, a7, a8⟩ := h
  refine ⟨a1, a3, fun j hj => ⟨rfl, (a4 j hj).2⟩, a5, a6, a7, fun l hl => ?_⟩
  obtain ⟨b1, b2, b3, b4⟩ := a8 l hl
  refine ⟨b1, b2, ?_, b4⟩
  rcases q with ⟨-, -, q⟩ | ⟨-, -, -, -, q⟩ | ⟨-, -, -, -, -, q⟩ | ⟨-, -, q1, q2, -, q⟩
  · rw [q]; exact b3
  · rw [q]; exact b3
  · rw [q]; exact b3
  · rw [q, z_upd]
    split
    · exact ⟨q1, q2⟩
    · exact b3
theorem z_reSp {P L ki : Int32} {sp cu ow on tx sz sp2 sv2 a1 a2 a3 a4 a5 a6 a7 a8 : Nat → Int32} {i1 i2 i3 : Int} (h : zRe P L ki sp cu ow on tx sz (zSt a1 a2 a3 a4 a5 a6 a7 a8 i1 i2 i3)) (e : sp2 = sv2) : zRe P L ki sp2 cu ow on tx sz (zSt a1 a2 sv2 a4 a5 a6 a7 a8 i1 i2 i3) := by
  subst e
  obtain ⟨a1, a3, a4, a5, a6, a7, a8⟩ := h
  exact ⟨a1, fun j hj => rfl, a4, a5, a6, a7, a8⟩
/-- a line's parts as bringLine gives them -/
theorem z_tl0 {w : Nat → Int} : (0 : Int32).toInt = zTx w (0 : Int32).toInt.toNat := by
  rw [show (0 : Int32).toInt = 0 from by decide]
  rfl
theorem z_liM {t : Nat → Int32} {n a b : Int} {P L ki L2 ki2 o z c x v f : Int32} {cu ow on tx sz cu2 ow2 on2 tx2 sz2 : Nat → Int32} (q : L2.toInt = L.toInt + 1 ∧ cu2 = zUp cu L.toNatClampNeg c ∧ on2 = zUp on L.toNatClampNeg o ∧ tx2 = zUp tx L.toNatClampNeg x ∧ sz2 = zUp sz L.toNatClampNeg z ∧ ow2 = zUp ow o.toNatClampNeg (ow o.toNatClampNeg ||| ((1 : Int32) <<< (L &&& 31))) ∧ ((f.toInt = 1 ∧ ki2 = ki ||| ((1 : Int32) <<< (L &&& 31))) ∨ (f.toInt = 0 ∧ ki2 = ki))) (ho : o.toInt = zAt t n (a + 1) - 48) (hz : z.toInt = zWd t n (a + 2)) (hc : c.toInt = zAt t n (a + 2 + zWd t n (a + 2)) - 48) (hx : x.toInt = zTx (fun j => zAt t n (a + 2 + (j : Int)) - 97) z.toInt.toNat) (hv : v.toInt = zAt t n b) (hb : b = a + 3 + z.toInt) (hf : (v.toInt = 33 ∧ f.toInt = 1) ∨ (v.toInt ≠ 33 ∧ f.toInt = 0)) : zLi t n a P L ki cu ow on tx sz L2 ki2 cu2 ow2 on2 tx2 sz2 := by
  obtain ⟨q1, q2, q3, q4, q5, q6, q7⟩ := q
  rw [hz] at hx hb
  refine ⟨o, z, c, x, q1, q3, ho, q5, hz, q2, hc, q4, hx, q6, ?_⟩
  unfold zXc
  rw [← hb, ← hv]
  rcases hf with ⟨f1, f2⟩ | ⟨f1, f2⟩
  · rw [if_pos f1]
    rcases q7 with ⟨g, q7⟩ | ⟨g, -⟩
    · exact Or.inl ⟨rfl, q7⟩
    · omega
  · rw [if_neg f1]
    rcases q7 with ⟨g, -⟩ | ⟨g, q7⟩
    · omega
    · exact Or.inr ⟨rfl, q7⟩
def zPcD (t : Nat → Int32) (n : Int) (P0 L0 k0 : Int32) (sp0 cu0 ow0 on0 tx0 sz0 : Nat → Int32) (P L k : Int32) (sp cu ow on tx sz : Nat → Int32) : Prop :=
  ((zFwK t n 0 0 0 ≠ -9 ∨ zCkK t n 0 P0.toInt L0.toInt ≠ -9) ∧ P = P0 ∧ L = L0 ∧ k = k0 ∧ sp = sp0 ∧ cu = cu0 ∧ ow = ow0 ∧ on = on0 ∧ tx = tx0 ∧ sz = sz0) ∨
  (zFwK t n 0 0 0 = -9 ∧ zCkK t n 0 P0.toInt L0.toInt = -9 ∧ ∀ S : ZS, zRe P0 L0 k0 sp0 cu0 ow0 on0 tx0 sz0 S → zRe P L k sp cu ow on tx sz (zBrK t n 0 S))
theorem z_pdF {t : Nat → Int32} {n f : Int} {P0 L0 k0 : Int32} {sp0 cu0 ow0 on0 tx0 sz0 : Nat → Int32} (h : zFfP t n P0.toInt L0.toInt f) (hf : f ≠ 0) : zPcD t n P0 L0 k0 sp0 cu0 ow0 on0 tx0 sz0 P0 L0 k0 sp0 cu0 ow0 on0 tx0 sz0 := by
  refine Or.inl ⟨?_, rfl, rfl, rfl, rfl, rfl, rfl, rfl, rfl, rfl⟩
  rcases h with ⟨a, -⟩ | ⟨-, a, -⟩ | ⟨-, -, a⟩
  · exact Or.inl a
  · exact Or.inr a
  · exact absurd a hf
theorem z_pdG {t : Nat → Int32} {n f : Int} {P0 L0 k0 P L k : Int32} {sp0 cu0 ow0 on0 tx0 sz0 sp cu ow on tx sz : Nat → Int32} (h : zFfP t n P0.toInt L0.toInt f) (hf : f = 0) (hb : zFwK t n 0 0 0 = -9 → zCkK t n 0 P0.toInt L0.toInt = -9 → ∀ S : ZS, zRe P0 L0 k0 sp0 cu0 ow0 on0 tx0 sz0 S → zRe P L k sp cu ow on tx sz (zBrK t n 0 S)) : zPcD t n P0 L0 k0 sp0 cu0 ow0 on0 tx0 sz0 P L k sp cu ow on tx sz := by
  rcases h with ⟨a, b, c⟩ | ⟨-, a, b, c⟩ | ⟨a, b, -⟩
  · omega
  · omega
  · exact Or.inr ⟨a, b, hb a b⟩
theorem z_brJE2 {t : Nat → Int32} {n : Int} {P0 L0 q0 k st P L ki : Int32} {sp0 cu0 ow0 on0 tx0 sz0 sp cu ow on tx sz : Nat → Int32} (h : zBrJ t n P0 L0 q0 sp0 cu0 ow0 on0 tx0 sz0 k st P L ki sp cu ow on tx sz) (hk : n ≤ k.toInt) : zFwK t n 0 0 0 = -9 → zCkK t n 0 P0.toInt L0.toInt = -9 → ∀ S : ZS, zRe P0 L0 q0 sp0 cu0 ow0 on0 tx0 sz0 S → zRe P L ki sp cu ow on tx sz (zBrK t n 0 S) := fun a b S c => (z_brJE h hk a b S c).1
theorem z_reC0 {P L ki : Int32} {sp cu ow on tx sz b1 b2 b3 b4 b5 b6 b7 b8 : Nat → Int32} {i1 i2 i3 i4 : Int} (h : zRe P L ki sp cu ow on tx sz (zSt b1 b2 b3 b4 b5 b6 b7 b8 i1 i2 i3)) : zRe P L ki sp cu ow on tx sz (zSt b1 b2 b3 b4 b5 b6 b7 b8 i1 i2 i4) := ⟨h.1, h.2.1, h.2.2.1, h.2.2.2.1, h.2.2.2.2.1, h.2.2.2.2.2.1, h.2.2.2.2.2.2⟩
theorem z_pdEq {t : Nat → Int32} {n : Int} {P0 L0 k0 P L k : Int32} {sp0 cu0 ow0 on0 tx0 sz0 sp cu ow on tx sz : Nat → Int32} {Q0 M0 r2 Q M : Int32} {a1 a2 a3 a4 a5 a6 a7 a8 b1 b2 b3 b4 b5 b6 b7 b8 : Nat → Int32} (h : zPcD t n P0 L0 k0 sp0 cu0 ow0 on0 tx0 sz0 P L k sp cu ow on tx sz) (h2 : zPcM t n Q0 M0 a1 a2 a3 a4 a5 a6 a7 a8 r2 Q M b1 b2 b3 b4 b5 b6 b7 b8) (hP : P0.toInt = Q0.toInt) (hL : L0.toInt = M0.toInt) (hr : zRe P0 L0 k0 sp0 cu0 ow0 on0 tx0 sz0 (zSt a1 a2 a3 a4 a5 a6 a7 a8 Q0.toInt M0.toInt 0)) : zRe P L k sp cu ow on tx sz (zSt b1 b2 b3 b4 b5 b6 b7 b8 Q.toInt M.toInt 0) := by
  obtain rfl := z_i32 hP
  obtain rfl := z_i32 hL
  rcases h with ⟨x1, rfl, rfl, rfl, rfl, rfl, rfl, rfl, rfl, rfl⟩ | ⟨x1, x2, x3⟩
  · rcases h2 with ⟨-, -, rfl, rfl, rfl, rfl, rfl, rfl, rfl, rfl, rfl, rfl⟩ | ⟨-, -, -, rfl, rfl, rfl, rfl, rfl, rfl, rfl, rfl, rfl, rfl⟩ | ⟨y1, y2, -⟩
    · exact hr
    · exact hr
    · rcases x1 with x1 | x1
      · exact absurd y1 x1
      · exact absurd y2 x1
  · rcases h2 with ⟨y1, -⟩ | ⟨-, y2, -⟩ | ⟨-, -, y3⟩
    · exact absurd x1 y1
    · exact absurd x2 y2
    · have w := x3 _ hr
      rw [y3] at w
      exact z_reC0 w
def zKs (K : Nat → Int32) : ZS := zSt (fun j => K j) (fun j => K (5 + j)) (fun j => K (10 + j)) (fun j => K (15 + j)) (fun j => K (27 + j)) (fun j => K (39 + j)) (fun j => K (51 + j)) (fun j => K (63 + j)) (K 123).toInt (K 124).toInt 0
def zIr (h P L ki : Int32) (sp cu ow on tx sz K : Nat → Int32) : Prop := h.toInt = 1 → zRe P L ki sp cu ow on tx sz (zKs K)
theorem z_ir0 {P L ki : Int32} {sp cu ow on tx sz K : Nat → Int32} : zIr 0 P L ki sp cu ow on tx sz K := fun h => absurd h (by decide)
theorem z_irT {h P L ki : Int32} {sp cu ow on tx sz K K2 : Nat → Int32} (i : zIr h P L ki sp cu ow on tx sz K) (hP : P.toInt ≤ 5) (hL : L.toInt ≤ 12) (k : zKK K K2) : zIr h P L ki sp cu ow on tx sz K2 := fun h1 => z_reX (i h1) hP hL z_qaR z_qaR z_qaR z_qaR z_qaR z_qaR (by show (K2 123).toInt = (K 123).toInt; rw [k 123 (by decide)]) (by show (K2 124).toInt = (K 124).toInt; rw [k 124 (by decide)]) (fun j hj => k (10 + j) (by omega)) (fun j hj => k (15 + j) (by omega)) (fun j hj => k (27 + j) (by omega)) (fun j hj => k (39 + j) (by omega)) (fun j hj => k (51 + j) (by omega)) (fun j hj => k (63 + j) (by omega))
def zTk (ow0 on0 tx0 sz0 ow1 on1 tx1 sz1 ow on tx sz : Nat → Int32) (k1 k : Int32) : Prop := zCpy 5 ow0 ow1 ow ∧ zCpy 12 on0 on1 on ∧ zCpy 12 tx0 tx1 tx ∧ zCpy 12 sz0 sz1 sz ∧ k = k1
theorem z_cpQ {k : Int} {f0 fo f : Nat → Int32} (h : zCpy k f0 fo f) : zQa k fo f := fun j hj => by rw [h j, if_pos hj]
theorem z_irI {P L ki k2 : Int32} {sp cu ow on tx sz sp0 cu0 ow0 on0 tx0 sz0 sp2 cu2 ow2 on2 tx2 sz2 K2 a1 a2 a3 a4 a5 a6 a7 a8 : Nat → Int32} {i1 i2 i3 i4 i5 i6 i7 : Int32} (h : zRe P L ki sp cu ow on tx sz (zSt a1 a2 a3 a4 a5 a6 a7 a8 i1.toInt i2.toInt 0)) (hP : P.toInt ≤ 5) (hL : L.toInt ≤ 12) (hs : zCpy 5 sp0 sp sp2) (hc : zCpy 12 cu0 cu cu2) (ht : zTk ow0 on0 tx0 sz0 ow on tx sz ow2 on2 tx2 sz2 ki k2) (hk : ∀ j : Nat, j < 130 → K2 j = zEnc a1 a2 a3 a4 a5 a6 a7 a8 i1 i2 i3 i4 i5 i6 i7 j) : zIr 1 P L k2 sp2 cu2 ow2 on2 tx2 sz2 K2 := fun _ => by
  obtain ⟨t1, t2, t3, t4, rfl⟩ := ht
  exact z_reX h hP hL (z_cpQ hs) (z_cpQ hc) (z_cpQ t1) (z_cpQ t2) (z_cpQ t3) (z_cpQ t4) (by show (K2 123).toInt = i1.toInt; rw [hk 123 (by decide), ← z_encI1]) (by show (K2 124).toInt = i2.toInt; rw [hk 124 (by decide), ← z_encI2]) (fun j hj => (hk (10 + j) (by omega)).trans (z_encA3 j hj).symm) (fun j hj => (hk (15 + j) (by omega)).trans (z_encA4 j hj).symm) (fun j hj => (hk (27 + j) (by omega)).trans (z_encA5 j hj).symm) (fun j hj => (hk (39 + j) (by omega)).trans (z_encA6 j hj).symm) (fun j hj => (hk (51 + j) (by omega)).trans (z_encA7 j hj).symm) (fun j hj => (hk (63 + j) (by omega)).trans (z_encA8 j hj).symm)
def zRsD (h : Int32) (ow on tx sz ow1 on1 tx1 sz1 ow2 on2 tx2 sz2 : Nat → Int32) (k k1 k2 : Int32) : Prop := (h.toInt = 0 ∧ ow2 = ow ∧ on2 = on ∧ tx2 = tx ∧ sz2 = sz ∧ k2 = k) ∨ (h.toInt = 1 ∧ zTk ow on tx sz ow1 on1 tx1 sz1 ow2 on2 tx2 sz2 k1 k2)
theorem z_irR {h h2 P L O P0 L0 Q0 P2 L2 O2 r q k k0 k2 : Int32} {sp cu sp0 cu0 sp2 cu2 ow on tx sz ow0 on0 tx0 sz0 ow2 on2 tx2 sz2 K a1 a2 a3 a4 a5 a6 a7 a8 b1 b2 b3 b4 b5 b6 b7 b8 : Nat → Int32} {i1 i2 i3 i4 i5 i6 i7 r1 r2 r3 r4 r5 r6 r7 : Int32} (hC : zRsC h P L O P0 L0 Q0 sp cu sp0 cu0 P2 L2 O2 r sp2 cu2) (hD : zRsD h ow on tx sz ow0 on0 tx0 sz0 ow2 on2 tx2 sz2 k k0 k2) (hM : zRsM h2 K a1 a2 a3 a4 a5 a6 a7 a8 i1 i2 i3 i4 i5 i6 i7 b1 b2 b3 b4 b5 b6 b7 b8 r1 r2 r3 r4 r5 r6 r7 q) (hi : zIr h P0 L0 k0 sp0 cu0 ow0 on0 tx0 sz0 K) (eh : h.toInt = h2.toInt) (hP : P0.toInt ≤ 5) (hL : L0.toInt ≤ 12) (hr : zRe P L k sp cu ow on tx sz (zSt a1 a2 a3 a4 a5 a6 a7 a8 i1.toInt i2.toInt 0)) : zRe P2 L2 k2 sp2 cu2 ow2 on2 tx2 sz2 (zSt b1 b2 b3 b4 b5 b6 b7 b8 r1.toInt r2.toInt 0) := by
  rcases hC with ⟨x1, x2, rfl, rfl, rfl, rfl, rfl⟩ | ⟨x1, x2, rfl, rfl, x5, x6, rfl⟩
  · rcases hD with ⟨-, rfl, rfl, rfl, rfl, rfl⟩ | ⟨y, -⟩
    · rcases hM with ⟨y1, y2, rfl, rfl, rfl, rfl, rfl, rfl, rfl, rfl, rfl, rfl, -⟩ | ⟨y1, -⟩
      · exact hr
      · omega
    · omega
  · rcases hD with ⟨y, -⟩ | ⟨-, t1, t2, t3, t4, rfl⟩
    · omega
    · rcases hM with ⟨y1, -⟩ | ⟨y1, y2, y3, -⟩
      · omega
      · exact z_reX (hi x1) hP hL (z_cpQ x5) (z_cpQ x6) (z_cpQ t1) (z_cpQ t2) (z_cpQ t3) (z_cpQ t4) (by show r1.toInt = (K 123).toInt; rw [y3 123 (by decide), ← z_encI1]) (by show r2.toInt = (K 124).toInt; rw [y3 124 (by decide), ← z_encI2]) (fun j hj => (z_encA3 j hj).trans (y3 (10 + j) (by omega)).symm) (fun j hj => (z_encA4 j hj).trans (y3 (15 + j) (by omega)).symm) (fun j hj => (z_encA5 j hj).trans (y3 (27 + j) (by omega)).symm) (fun j hj => (z_encA6 j hj).trans (y3 (39 + j) (by omega)).symm) (fun j hj => (z_encA7 j hj).trans (y3 (51 + j) (by omega)).symm) (fun j hj => (z_encA8 j hj).trans (y3 (63 + j) (by omega)).symm)
theorem z_re0 {sp cu ow on tx sz a1 a2 a3 a4 a5 a6 a7 a8 : Nat → Int32} (h2 : a3 = sp) (h5 : a6 = cu) (h3 : a4 = on) (h4 : a5 = sz) (h7 : a7 = fun _ => 0) : zRe 0 0 0 sp cu ow on tx sz (zSt a1 a2 a3 a4 a5 a6 a7 a8 (0 : Int32).toInt (0 : Int32).toInt 0) := by
  have e0 : (0 : Int32).toInt = 0 := by decide
  subst h2 h5 h3 h4 h7
  refine ⟨⟨rfl, rfl⟩, fun j hj => rfl, fun j hj => ⟨rfl, rfl, rfl⟩, fun l hl => by omega, ⟨z_b12Z, fun l hl => ?_, fun l h1 h2 => e0⟩, fun p hp => by omega, fun l hl => by omega⟩
  rw [b_0]
  exact (decide_eq_false (by show ¬ (0 : Int32).toInt = 1; decide)).symm
theorem z_owE {k L p : Int} {wh : Nat → Int32} {x : Int32} (h : zOwL k wh p x) (e : k = L) : zOwL L wh p x := e ▸ h
def zOnI (P L : Int) (ow : Nat → Int32) (at_ n p : Int) : Prop := ∀ wh : Nat → Int32, zOwA P L ow wh → n = zCt (fun q => zOn L wh (q : Int) at_) p.toNat
theorem z_onI0 {P L at_ n p : Int} {ow : Nat → Int32} (hn : n = 0) (hp : p = 0) : zOnI P L ow at_ n p := fun wh _ => by rw [hn, hp]; rfl
theorem z_onIS {P L at_ n n2 : Int} {ow : Nat → Int32} {p p2 x : Int32} (h : zOnI P L ow at_ n p.toInt) (hL : L ≤ 12) (p0 : 0 ≤ p.toInt) (pP : p.toInt < P) (hp : p2.toInt = p.toInt + 1) (gx : x.toInt = (ow p.toNatClampNeg).toInt) (s : (x.toInt = 0 ∧ n2 = n) ∨ (x.toInt ≠ 0 ∧ ∃ r1 : Int, zLst x r1 ∧ ((at_ < r1 ∧ n2 = n) ∨ (r1 ≤ at_ ∧ ∃ r2 : Int, zGst x r2 ∧ ((r2 < at_ ∧ n2 = n) ∨ (at_ ≤ r2 ∧ n2 = n + 1)))))) : zOnI P L ow at_ n2 p2.toInt := fun wh hA => z_ocS hA hL (h wh hA) p0 pP hp gx s (z_gsX x)
def zOnP (P L : Int) (ow : Nat → Int32) (at_ r : Int) : Prop := 0 ≤ at_ → ∀ wh : Nat → Int32, zOwA P L ow wh → r = zOc P L wh at_.toNat
theorem z_onIE {P L at_ n p : Int} {ow : Nat → Int32} (h : zOnI P L ow at_ n p) (hp : p = P) : zOnP P L ow at_ n := fun h0 wh hA => by
  subst hp
  unfold zOc
  rw [Int.toNat_of_nonneg h0]
  exact h wh hA
def zPtI (P L : Int) (ow : Nat → Int32) (a k : Int) : Prop := ∀ wh : Nat → Int32, zOwA P L ow wh → a = zMx (zOc P L wh) k.toNat
theorem z_ptI0 {P L a k : Int} {ow : Nat → Int32} (ha : a = 0) (hk : k = 0) : zPtI P L ow a k := fun wh _ => by rw [ha, hk]; rfl
theorem z_ptS {P L a a2 k k2 v : Int} {ow : Nat → Int32} (h : zPtI P L ow a k) (k0 : 0 ≤ k) (hk : k2 = k + 1) (hv : zOnP P L ow k v) (h1 : a ≤ a2) (h2 : v ≤ a2) (h3 : a2 = a ∨ a2 = v) : zPtI P L ow a2 k2 := fun wh hA => z_mxS (h wh hA) k0 hk (hv k0 wh hA) h1 h2 h3
theorem z_ptE {P L a k : Int} {ow : Nat → Int32} (h : zPtI P L ow a k) (hk : k = L) : zPtI P L ow a L := fun wh hA => by rw [h wh hA, hk]
theorem z_osS {L n n2 : Int} {wh : Nat → Int32} {p p2 l r : Int32} (h : n = zCt (fun q => zOn L wh (q : Int) l.toInt) p.toInt.toNat) (p0 : 0 ≤ p.toInt) (hp : p2.toInt = p.toInt + 1) (hr : zYn (zOn L wh p.toInt l.toInt) r.toInt) (hn : (r.toInt ≠ 0 ∧ n2 = n + 1) ∨ (r.toInt = 0 ∧ n2 = n)) : n2 = zCt (fun q => zOn L wh (q : Int) l.toInt) p2.toInt.toNat := by
  refine z_ctS (v := if r.toInt = 0 then 0 else 1) h p0 hp ?_ ?_
  · rw [← Int.toNat_of_nonneg p0] at hr
    rcases hr with ⟨a, b⟩ | ⟨a, b⟩
    · exact Or.inl ⟨if_neg (by omega), b⟩
    · exact Or.inr ⟨if_pos a, b⟩
  · rcases hn with ⟨a, b⟩ | ⟨a, b⟩
    · rw [if_neg a, b]
    · rw [if_pos a, b, Int.add_zero]
theorem z_osE {P L n : Int} {wh : Nat → Int32} {p l : Int32} (h : n = zCt (fun q => zOn L wh (q : Int) l.toInt) p.toInt.toNat) (hp : p.toInt = P) (l0 : 0 ≤ l.toInt) : n = zOc P L wh l.toInt.toNat := by
  unfold zOc
  rw [h, hp, Int.toNat_of_nonneg l0]
/-- mend of the class -/
def zCuN (L : Int) (cu : Nat → Int32) : Prop := ∀ l : Nat, (l : Int) < L → 0 ≤ (cu l).toInt
def zMeI (L : Int) (tx sz cu : Nat → Int32) (k a : Int) : Prop := zCuN L cu → ∀ wd mn : Nat → Int32, zTS L tx sz wd mn → zMsI wd mn cu L k a
theorem z_meI1 {L : Int} {tx sz cu : Nat → Int32} {k a : Int} (hk : k = 1) (ha : a = 0) : zMeI L tx sz cu k a := fun _ _ _ _ => z_msI1 hk ha
theorem z_mdV {L : Int} {tx sz cu wd mn : Nat → Int32} {k v : Int} (q : zMdP L tx sz cu k v) (h1 : 1 ≤ k) (hk : k < L) (hc : zCuN L cu) (T : zTS L tx sz wd mn) : v = zMw wd mn cu L k := by
  rcases q with ⟨q, -⟩ | ⟨-, -, q⟩
  · omega
  · exact q (hc k.toNat (by omega)) wd mn T
theorem z_meS {L : Int} {tx sz cu : Nat → Int32} {k k2 a a2 v : Int} (h : zMeI L tx sz cu k a) (q : zMdP L tx sz cu k v) (h1 : 1 ≤ k) (hk : k < L) (hk2 : k2 = k + 1) (hn : v ≠ -9) (ha : a2 = a + v) : zMeI L tx sz cu k2 a2 := fun hc wd mn T => z_msIS (h hc wd mn T) hk2 (by omega) (z_mdV q h1 hk hc T) hn ha
def zMeC (L : Int) (tx sz cu : Nat → Int32) (r : Int) : Prop := zCuN L cu → ∀ wd mn : Nat → Int32, zTS L tx sz wd mn → zMeP wd mn cu L r
theorem z_mc0 {L : Int} {tx sz cu : Nat → Int32} {r : Int} (hL : L = 0) (hr : r = -3) : zMeC L tx sz cu r := fun _ _ _ _ => Or.inl ⟨hL, hr⟩
theorem z_mcN {L : Int} {tx sz cu : Nat → Int32} {k v r : Int} (q : zMdP L tx sz cu k v) (h1 : 1 ≤ k) (hk : k < L) (hn : v = -9) (hr : r = -9) : zMeC L tx sz cu r := fun hc _ _ T => z_meN hk (by omega) (z_mdV q h1 hk hc T) hn hr
theorem z_mcT {L : Int} {tx sz cu : Nat → Int32} {k a r : Int} (h : zMeI L tx sz cu k a) (h0 : 0 < L) (hk : k = L) (hr : r = a) : zMeC L tx sz cu r := fun hc wd mn T => z_meT (h hc wd mn T) h0 hk hr
theorem z_reCN {P L ki : Int32} {sp cu ow on tx sz : Nat → Int32} {S : ZS} (h : zRe P L ki sp cu ow on tx sz S) : zCuN L.toInt cu := fun l hl => by
  have := (h.2.2.2.2.2.2 l hl).2.2.1
  omega
theorem z_meLaw {P L ki M jk r r2 : Int32} {sp cu ow on tx sz a1 a2 a3 a4 a5 a6 a7 a8 : Nat → Int32} {i1 i2 i3 : Int} (hC : zMeC L.toInt tx sz cu r.toInt) (hM : jk.toInt = -9 → zMeP a8 a5 a6 M.toInt r2.toInt) (hr : zRe P L ki sp cu ow on tx sz (zSt a1 a2 a3 a4 a5 a6 a7 a8 i1 i2 i3)) (hc : cu = a6) (hL : L.toInt = M.toInt) (hL2 : L.toInt ≤ 12) (hj : jk.toInt = -9) : r.toInt = r2.toInt := by
  have h1 : zMeP a8 a5 cu L.toInt r.toInt := hC (z_reCN hr) _ _ (z_reTS hr hL2)
  have h2 := hM hj
  rw [← hL, ← hc] at h2
  exact z_meU h1 h2
/-- mendOf -/
def zMoP (L : Int) (w : Int → Prop) (p : Int) (r : Int) : Prop := ((p < 0 ∨ L ≤ p) ∧ r = -1) ∨ (0 ≤ p ∧ p < L ∧ w r)
def zMoC (L : Int) (tx sz cu : Nat → Int32) (p r : Int) : Prop := zCuN L cu → ∀ wd mn : Nat → Int32, zTS L tx sz wd mn → r = zMw wd mn cu L p
theorem z_moC {L : Int} {tx sz cu : Nat → Int32} {p r : Int} (q : zMdP L tx sz cu p r) (p0 : 0 ≤ p) (pL : p < L) : zMoC L tx sz cu p r := fun hc wd mn T => by
  rcases q with ⟨q, e⟩ | ⟨-, -, q⟩
  · rw [show p = 0 by omega, z_mw0, e]
  · exact q (hc p.toNat (by omega)) wd mn T
theorem z_moLaw {P L ki M jk p r r2 : Int32} {sp cu ow on tx sz a1 a2 a3 a4 a5 a6 a7 a8 : Nat → Int32} {i1 i2 i3 : Int} (hC : zMoP L.toInt (fun r => zMoC L.toInt tx sz cu p.toInt r) p.toInt r.toInt) (hM : zMoP M.toInt (fun r => jk.toInt = -9 → r = zMw a8 a5 a6 M.toInt p.toInt) p.toInt r2.toInt) (hr : zRe P L ki sp cu ow on tx sz (zSt a1 a2 a3 a4 a5 a6 a7 a8 i1 i2 i3)) (hc : cu = a6) (hL : L.toInt = M.toInt) (hL2 : L.toInt ≤ 12) (hj : jk.toInt = -9) : r.toInt = r2.toInt := by
  rcases hC with ⟨a, b⟩ | ⟨a, b, c⟩ <;> rcases hM with ⟨d, e⟩ | ⟨d, e, f⟩
  · omega
  · omega
  · omega
  · have h1 : r.toInt = zMw a8 a5 cu L.toInt p.toInt := c (z_reCN hr) _ _ (z_reTS hr hL2)
    have h2 := f hj
    rw [← hL, ← hc] at h2
    exact h1.trans h2.symm
theorem z_ptLaw {P L ki Q M r r2 : Int32} {sp cu ow on tx sz a1 a2 a3 a4 a5 a6 a7 a8 : Nat → Int32} {i1 i2 i3 : Int} (hC : zPtI P.toInt L.toInt ow r.toInt L.toInt) (hM : r2.toInt = zMx (zOc Q.toInt M.toInt a4) M.toInt.toNat) (hr : zRe P L ki sp cu ow on tx sz (zSt a1 a2 a3 a4 a5 a6 a7 a8 i1 i2 i3)) (hP : P.toInt = Q.toInt) (hL : L.toInt = M.toInt) : r.toInt = r2.toInt := by
  have h1 : r.toInt = zMx (zOc P.toInt L.toInt a4) L.toInt.toNat := hC _ (z_reOw hr)
  rw [h1, hM, hP, hL]
theorem z_mxE {f : Nat → Int} {a k L : Int} (h : a = zMx f k.toNat) (e : k = L) : a = zMx f L.toNat := e ▸ h

