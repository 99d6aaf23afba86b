theorem z_clampN {i : Int32} (h : 0 ≤ i.toInt) : ((i.toNatClampNeg : Nat) : Int) = i.toInt := Int.toNat_of_nonneg h
/-- a row passed by: kept (kp = 1) or taken back (kp = 0) -/
def zPsR (kp c0 : Int32) (k : Int) (K0 F0 K F : Nat → Int32) : Prop :=
  (kp.toInt = 1 → F = F0 ∧ (∀ j : Nat, (j : Int) < k → K (c0.toNatClampNeg + j) = F0 j) ∧ ∀ j : Nat, (j : Int) < c0.toInt ∨ c0.toInt + k ≤ (j : Int) → K j = K0 j) ∧
  (kp.toInt = 0 → K = K0 ∧ (∀ j : Nat, (j : Int) < k → F j = K0 (c0.toNatClampNeg + j)) ∧ ∀ j : Nat, k ≤ (j : Int) → F j = F0 j)
theorem z_ps0 {kp c0 : Int32} {K F : Nat → Int32} : zPsR kp c0 (0 : Int32).toInt K F K F := by
  have h0 : (0 : Int32).toInt = 0 := by decide
  rw [h0]
  exact ⟨fun _ => ⟨rfl, fun j hj => by omega, fun j _ => rfl⟩, fun _ => ⟨rfl, fun j hj => by omega, fun j _ => rfl⟩⟩
theorem z_psE {kp c0 : Int32} {k k2 : Int} {K0 F0 K F : Nat → Int32} (h : zPsR kp c0 k K0 F0 K F) (e : k = k2) : zPsR kp c0 k2 K0 F0 K F := by rw [← e]; exact h
theorem z_psK {kp c0 c k k2 y : Int32} {K0 F0 K F K2 : Nat → Int32} (h : zPsR kp c0 k.toInt K0 F0 K F) (e : upd K c.toNatClampNeg y = K2) (ey : y = F k.toNatClampNeg) (hkp : kp.toInt ≠ 0) (hc : c.toInt = c0.toInt + k.toInt) (h0 : 0 ≤ c0.toInt) (hk : 0 ≤ k.toInt) (hk2 : k2.toInt = k.toInt + 1) : zPsR kp c0 k2.toInt K0 F0 K2 F := by
  refine ⟨fun h1 => ?_, fun h1 => absurd h1 hkp⟩
  obtain ⟨e1, e2, e3⟩ := h.1 h1
  have cc := z_clampN (i := c) (by omega)
  have cc0 := z_clampN h0
  have ck := z_clampN hk
  refine ⟨e1, fun j hj => ?_, fun j hj => ?_⟩
  · rw [← e]
    by_cases q : c0.toNatClampNeg + j = c.toNatClampNeg
    · rw [q, pk_us, ey, e1, show k.toNatClampNeg = j by omega]
    · rw [pk_un q]
      exact e2 j (by omega)
  · rw [← e, pk_un (show j ≠ c.toNatClampNeg by omega)]
    exact e3 j (by omega)
theorem z_psN {kp c0 c k k2 y : Int32} {K0 F0 K F F2 : Nat → Int32} (h : zPsR kp c0 k.toInt K0 F0 K F) (ey : y = K c.toNatClampNeg) (e : upd F k.toNatClampNeg y = F2) (hkp : kp.toInt = 0) (hc : c.toInt = c0.toInt + k.toInt) (h0 : 0 ≤ c0.toInt) (hk : 0 ≤ k.toInt) (hk2 : k2.toInt = k.toInt + 1) : zPsR kp c0 k2.toInt K0 F0 K F2 := by
  refine ⟨fun h1 => by omega, fun h1 => ?_⟩
  obtain ⟨e1, e2, e3⟩ := h.2 h1
  have cc := z_clampN (i := c) (by omega)
  have cc0 := z_clampN h0
  have ck := z_clampN hk
  refine ⟨e1, fun j hj => ?_, fun j hj => ?_⟩
  · rw [← e]
    by_cases q : j = k.toNatClampNeg
    · rw [q, pk_us, ey, e1, show c.toNatClampNeg = c0.toNatClampNeg + k.toNatClampNeg by omega]
    · rw [pk_un q]
      exact e2 j (by omega)
  · rw [← e, pk_un (show j ≠ k.toNatClampNeg by omega)]
    exact e3 j (by omega)
/-- one int passed by -/
def zP1 (kp c0 v : Int32) (K0 K : Nat → Int32) (r : Int32) : Prop :=
  (kp.toInt = 1 → r = v ∧ K c0.toNatClampNeg = v ∧ ∀ j : Nat, (j : Int) ≠ c0.toInt → K j = K0 j) ∧ (kp.toInt = 0 → r = K0 c0.toNatClampNeg ∧ K = K0)
theorem z_p1K {kp c0 v : Int32} {K0 K : Nat → Int32} (hkp : kp.toInt ≠ 0) (e : upd K0 c0.toNatClampNeg v = K) (h0 : 0 ≤ c0.toInt) : zP1 kp c0 v K0 K v := by
  refine ⟨fun _ => ⟨rfl, by rw [← e, pk_us], fun j hj => ?_⟩, fun h => absurd h hkp⟩
  have cc := z_clampN h0
  rw [← e, pk_un (show j ≠ c0.toNatClampNeg by omega)]
theorem z_p1N {kp c0 v r : Int32} {K : Nat → Int32} (hkp : kp.toInt = 0) (e : r = K c0.toNatClampNeg) : zP1 kp c0 v K K r := ⟨fun h => by omega, fun _ => ⟨e, rfl⟩⟩
/-- the state as one row of numbers -/
def zEnc (a1 a2 a3 a4 a5 a6 a7 a8 : Nat → Int32) (i1 i2 i3 i4 i5 i6 i7 : Int32) (j : Nat) : Int32 := if j < 5 then a1 (j - 0) else if j < 10 then a2 (j - 5) else if j < 15 then a3 (j - 10) else if j < 27 then a4 (j - 15) else if j < 39 then a5 (j - 27) else if j < 51 then a6 (j - 39) else if j < 63 then a7 (j - 51) else if j < 123 then a8 (j - 63) else if j = 123 then i1 else if j = 124 then i2 else if j = 125 then i3 else if j = 126 then i4 else if j = 127 then i5 else if j = 128 then i6 else i7
theorem z_encA1 {a1 a2 a3 a4 a5 a6 a7 a8 : Nat → Int32} {i1 i2 i3 i4 i5 i6 i7 : Int32} (k : Nat) (hk : (k : Int) < 5) : a1 k = zEnc a1 a2 a3 a4 a5 a6 a7 a8 i1 i2 i3 i4 i5 i6 i7 (0 + k) := by
  unfold zEnc
  rw [if_pos (show 0 + k < 5 by omega), show 0 + k - 0 = k by omega]
theorem z_encA2 {a1 a2 a3 a4 a5 a6 a7 a8 : Nat → Int32} {i1 i2 i3 i4 i5 i6 i7 : Int32} (k : Nat) (hk : (k : Int) < 5) : a2 k = zEnc a1 a2 a3 a4 a5 a6 a7 a8 i1 i2 i3 i4 i5 i6 i7 (5 + k) := by
  unfold zEnc
  rw [if_neg (show ¬ 5 + k < 5 by omega), if_pos (show 5 + k < 10 by omega), show 5 + k - 5 = k by omega]
theorem z_encA3 {a1 a2 a3 a4 a5 a6 a7 a8 : Nat → Int32} {i1 i2 i3 i4 i5 i6 i7 : Int32} (k : Nat) (hk : (k : Int) < 5) : a3 k = zEnc a1 a2 a3 a4 a5 a6 a7 a8 i1 i2 i3 i4 i5 i6 i7 (10 + k) := by
  unfold zEnc
  rw [if_neg (show ¬ 10 + k < 5 by omega), if_neg (show ¬ 10 + k < 10 by omega), if_pos (show 10 + k < 15 by omega), show 10 + k - 10 = k by omega]
theorem z_encA4 {a1 a2 a3 a4 a5 a6 a7 a8 : Nat → Int32} {i1 i2 i3 i4 i5 i6 i7 : Int32} (k : Nat) (hk : (k : Int) < 12) : a4 k = zEnc a1 a2 a3 a4 a5 a6 a7 a8 i1 i2 i3 i4 i5 i6 i7 (15 + k) := by
  unfold zEnc
  rw [if_neg (show ¬ 15 + k < 5 by omega), if_neg (show ¬ 15 + k < 10 by omega), if_neg (show ¬ 15 + k < 15 by omega), if_pos (show 15 + k < 27 by omega), show 15 + k - 15 = k by omega]
theorem z_encA5 {a1 a2 a3 a4 a5 a6 a7 a8 : Nat → Int32} {i1 i2 i3 i4 i5 i6 i7 : Int32} (k : Nat) (hk : (k : Int) < 12) : a5 k = zEnc a1 a2 a3 a4 a5 a6 a7 a8 i1 i2 i3 i4 i5 i6 i7 (27 + k) := by
  unfold zEnc
  rw [if_neg (show ¬ 27 + k < 5 by omega), if_neg (show ¬ 27 + k < 10 by omega), if_neg (show ¬ 27 + k < 15 by omega), if_neg (show ¬ 27 + k < 27 by omega), if_pos (show 27 + k < 39 by omega), show 27 + k - 27 = k by omega]
theorem z_encA6 {a1 a2 a3 a4 a5 a6 a7 a8 : Nat → Int32} {i1 i2 i3 i4 i5 i6 i7 : Int32} (k : Nat) (hk : (k : Int) < 12) : a6 k = zEnc a1 a2 a3 a4 a5 a6 a7 a8 i1 i2 i3 i4 i5 i6 i7 (39 + k) := by
  unfold zEnc
  rw [if_neg (show ¬ 39 + k < 5 by omega), if_neg (show ¬ 39 + k < 10 by omega), if_neg (show ¬ 39 + k < 15 by omega), if_neg (show ¬ 39 + k < 27 by omega), if_neg (show ¬ 39 + k < 39 by omega), if_pos (show 39 + k < 51 by omega), show 39 + k - 39 = k by omega]
theorem z_encA7 {a1 a2 a3 a4 a5 a6 a7 a8 : Nat → Int32} {i1 i2 i3 i4 i5 i6 i7 : Int32} (k : Nat) (hk : (k : Int) < 12) : a7 k = zEnc a1 a2 a3 a4 a5 a6 a7 a8 i1 i2 i3 i4 i5 i6 i7 (51 + k) := by
  unfold zEnc
  rw [if_neg (show ¬ 51 + k < 5 by omega), if_neg (show ¬ 51 + k < 10 by omega), if_neg (show ¬ 51 + k < 15 by omega), if_neg (show ¬ 51 + k < 27 by omega), if_neg (show ¬ 51 + k < 39 by omega), if_neg (show ¬ 51 + k < 51 by omega), if_pos (show 51 + k < 63 by omega), show 51 + k - 51 = k by omega]
theorem z_encA8 {a1 a2 a3 a4 a5 a6 a7 a8 : Nat → Int32} {i1 i2 i3 i4 i5 i6 i7 : Int32} (k : Nat) (hk : (k : Int) < 60) : a8 k = zEnc a1 a2 a3 a4 a5 a6 a7 a8 i1 i2 i3 i4 i5 i6 i7 (63 + k) := by
  unfold zEnc
  rw [if_neg (show ¬ 63 + k < 5 by omega), if_neg (show ¬ 63 + k < 10 by omega), if_neg (show ¬ 63 + k < 15 by omega), if_neg (show ¬ 63 + k < 27 by omega), if_neg (show ¬ 63 + k < 39 by omega), if_neg (show ¬ 63 + k < 51 by omega), if_neg (show ¬ 63 + k < 63 by omega), if_pos (show 63 + k < 123 by omega), show 63 + k - 63 = k by omega]
theorem z_encI1 {a1 a2 a3 a4 a5 a6 a7 a8 : Nat → Int32} {i1 i2 i3 i4 i5 i6 i7 : Int32} : i1 = zEnc a1 a2 a3 a4 a5 a6 a7 a8 i1 i2 i3 i4 i5 i6 i7 123 := by
  unfold zEnc
  rw [if_neg (show ¬ 123 < 5 by omega), if_neg (show ¬ 123 < 10 by omega), if_neg (show ¬ 123 < 15 by omega), if_neg (show ¬ 123 < 27 by omega), if_neg (show ¬ 123 < 39 by omega), if_neg (show ¬ 123 < 51 by omega), if_neg (show ¬ 123 < 63 by omega), if_neg (show ¬ 123 < 123 by omega), if_pos rfl]
theorem z_encI2 {a1 a2 a3 a4 a5 a6 a7 a8 : Nat → Int32} {i1 i2 i3 i4 i5 i6 i7 : Int32} : i2 = zEnc a1 a2 a3 a4 a5 a6 a7 a8 i1 i2 i3 i4 i5 i6 i7 124 := by
  unfold zEnc
  rw [if_neg (show ¬ 124 < 5 by omega), if_neg (show ¬ 124 < 10 by omega), if_neg (show ¬ 124 < 15 by omega), if_neg (show ¬ 124 < 27 by omega), if_neg (show ¬ 124 < 39 by omega), if_neg (show ¬ 124 < 51 by omega), if_neg (show ¬ 124 < 63 by omega), if_neg (show ¬ 124 < 123 by omega), if_neg (show ¬ 124 = 123 by omega), if_pos rfl]
theorem z_encI3 {a1 a2 a3 a4 a5 a6 a7 a8 : Nat → Int32} {i1 i2 i3 i4 i5 i6 i7 : Int32} : i3 = zEnc a1 a2 a3 a4 a5 a6 a7 a8 i1 i2 i3 i4 i5 i6 i7 125 := by
  unfold zEnc
  rw [if_neg (show ¬ 125 < 5 by omega), if_neg (show ¬ 125 < 10 by omega), if_neg (show ¬ 125 < 15 by omega), if_neg (show ¬ 125 < 27 by omega), if_neg (show ¬ 125 < 39 by omega), if_neg (show ¬ 125 < 51 by omega), if_neg (show ¬ 125 < 63 by omega), if_neg (show ¬ 125 < 123 by omega), if_neg (show ¬ 125 = 123 by omega), if_neg (show ¬ 125 = 124 by omega), if_pos rfl]
theorem z_encI4 {a1 a2 a3 a4 a5 a6 a7 a8 : Nat → Int32} {i1 i2 i3 i4 i5 i6 i7 : Int32} : i4 = zEnc a1 a2 a3 a4 a5 a6 a7 a8 i1 i2 i3 i4 i5 i6 i7 126 := by
  unfold zEnc
  rw [if_neg (show ¬ 126 < 5 by omega), if_neg (show ¬ 126 < 10 by omega), if_neg (show ¬ 126 < 15 by omega), if_neg (show ¬ 126 < 27 by omega), if_neg (show ¬ 126 < 39 by omega), if_neg (show ¬ 126 < 51 by omega), if_neg (show ¬ 126 < 63 by omega), if_neg (show ¬ 126 < 123 by omega), if_neg (show ¬ 126 = 123 by omega), if_neg (show ¬ 126 = 124 by omega), if_neg (show ¬ 126 = 125 by omega), if_pos rfl]
theorem z_encI5 {a1 a2 a3 a4 a5 a6 a7 a8 : Nat → Int32} {i1 i2 i3 i4 i5 i6 i7 : Int32} : i5 = zEnc a1 a2 a3 a4 a5 a6 a7 a8 i1 i2 i3 i4 i5 i6 i7 127 := by
  unfold zEnc
  rw [if_neg (show ¬ 127 < 5 by omega), if_neg (show ¬ 127 < 10 by omega), if_neg (show ¬ 127 < 15 by omega), if_neg (show ¬ 127 < 27 by omega), if_neg (show ¬ 127 < 39 by omega), if_neg (show ¬ 127 < 51 by omega), if_neg (show ¬ 127 < 63 by omega), if_neg (show ¬ 127 < 123 by omega), if_neg (show ¬ 127 = 123 by omega), if_neg (show ¬ 127 = 124 by omega), if_neg (show ¬ 127 = 125 by omega), if_neg (show ¬ 127 = 126 by omega), if_pos rfl]
theorem z_encI6 {a1 a2 a3 a4 a5 a6 a7 a8 : Nat → Int32} {i1 i2 i3 i4 i5 i6 i7 : Int32} : i6 = zEnc a1 a2 a3 a4 a5 a6 a7 a8 i1 i2 i3 i4 i5 i6 i7 128 := by
  unfold zEnc
  rw [if_neg (show ¬ 128 < 5 by omega), if_neg (show ¬ 128 < 10 by omega), if_neg (show ¬ 128 < 15 by omega), if_neg (show ¬ 128 < 27 by omega), if_neg (show ¬ 128 < 39 by omega), if_neg (show ¬ 128 < 51 by omega), if_neg (show ¬ 128 < 63 by omega), if_neg (show ¬ 128 < 123 by omega), if_neg (show ¬ 128 = 123 by omega), if_neg (show ¬ 128 = 124 by omega), if_neg (show ¬ 128 = 125 by omega), if_neg (show ¬ 128 = 126 by omega), if_neg (show ¬ 128 = 127 by omega), if_pos rfl]
theorem z_encI7 {a1 a2 a3 a4 a5 a6 a7 a8 : Nat → Int32} {i1 i2 i3 i4 i5 i6 i7 : Int32} : i7 = zEnc a1 a2 a3 a4 a5 a6 a7 a8 i1 i2 i3 i4 i5 i6 i7 129 := by
  unfold zEnc
  rw [if_neg (show ¬ 129 < 5 by omega), if_neg (show ¬ 129 < 10 by omega), if_neg (show ¬ 129 < 15 by omega), if_neg (show ¬ 129 < 27 by omega), if_neg (show ¬ 129 < 39 by omega), if_neg (show ¬ 129 < 51 by omega), if_neg (show ¬ 129 < 63 by omega), if_neg (show ¬ 129 < 123 by omega), if_neg (show ¬ 129 = 123 by omega), if_neg (show ¬ 129 = 124 by omega), if_neg (show ¬ 129 = 125 by omega), if_neg (show ¬ 129 = 126 by omega), if_neg (show ¬ 129 = 127 by omega), if_neg (show ¬ 129 = 128 by omega)]
/-- the row so far -/
def zRun (kp c : Int32) (a : Int) (K0 K G : Nat → Int32) : Prop :=
  (kp.toInt = 1 → (∀ j : Nat, (j : Int) < a → K (c.toNatClampNeg + j) = G j) ∧ ∀ j : Nat, (j : Int) < c.toInt ∨ c.toInt + a ≤ (j : Int) → K j = K0 j) ∧ (kp.toInt = 0 → K = K0)
theorem z_run0 {kp c : Int32} {K G : Nat → Int32} : zRun kp c 0 K K G := ⟨fun _ => ⟨fun j hj => by omega, fun j _ => rfl⟩, fun _ => rfl⟩
theorem z_runP {kp c c0 : Int32} {a n : Int} (a2 : Int) {K0 K K2 F F2 G : Nat → Int32} (h : zRun kp c a K0 K G) (hp : zPsR kp c0 n K F K2 F2) (hc : c0.toInt = c.toInt + a) (h0 : 0 ≤ c.toInt) (ha : 0 ≤ a) (ha2 : a2 = a + n) (hn : 0 ≤ n) (hG : ∀ k : Nat, (k : Int) < n → F k = G (a.toNat + k)) : zRun kp c a2 K0 K2 G := by
  refine ⟨fun h1 => ?_, fun h1 => by rw [(hp.2 h1).1]; exact h.2 h1⟩
  obtain ⟨r1, r2⟩ := h.1 h1
  obtain ⟨-, p1, p2⟩ := hp.1 h1
  have cc := z_clampN h0
  have cc0 := z_clampN (i := c0) (by omega)
  refine ⟨fun j hj => ?_, fun j hj => ?_⟩
  · by_cases q : (j : Int) < a
    · rw [p2 _ (by omega)]
      exact r1 j q
    · obtain ⟨k, rfl⟩ : ∃ k, j = a.toNat + k := ⟨j - a.toNat, by omega⟩
      rw [show c.toNatClampNeg + (a.toNat + k) = c0.toNatClampNeg + k by omega, p1 k (by omega)]
      exact hG k (by omega)
  · rw [p2 j (by omega)]
    exact r2 j (by omega)
theorem z_run1 {kp c c0 v r : Int32} {a : Int} (a2 : Int) {K0 K K2 G : Nat → Int32} (h : zRun kp c a K0 K G) (hp : zP1 kp c0 v K K2 r) (hc : c0.toInt = c.toInt + a) (h0 : 0 ≤ c.toInt) (ha : 0 ≤ a) (ha2 : a2 = a + 1) (hG : v = G a.toNat) : zRun kp c a2 K0 K2 G := by
  refine ⟨fun h1 => ?_, fun h1 => by rw [(hp.2 h1).2]; exact h.2 h1⟩
  obtain ⟨r1, r2⟩ := h.1 h1
  obtain ⟨-, p1, p2⟩ := hp.1 h1
  have cc := z_clampN h0
  have cc0 := z_clampN (i := c0) (by omega)
  refine ⟨fun j hj => ?_, fun j hj => ?_⟩
  · by_cases q : (j : Int) < a
    · rw [p2 _ (by omega)]
      exact r1 j q
    · rw [show c.toNatClampNeg + j = c0.toNatClampNeg by omega, p1, hG, show a.toNat = j by omega]
  · rw [p2 j (by omega)]
    exact r2 j (by omega)
theorem z_rsP {kp c c0 : Int32} {a n : Int} {K0 K K2 F F2 G : Nat → Int32} (h : zRun kp c a K0 K G) (hp : zPsR kp c0 n K F K2 F2) (hc : c0.toInt = c.toInt + a) (h0 : 0 ≤ c.toInt) (ha : 0 ≤ a) : kp.toInt = 0 → ∀ j : Nat, (j : Int) < n → F2 j = K0 (c.toNatClampNeg + (a.toNat + j)) := by
  intro h1 j hj
  have cc := z_clampN h0
  have cc0 := z_clampN (i := c0) (by omega)
  rw [(hp.2 h1).2.1 j hj, h.2 h1, show c0.toNatClampNeg + j = c.toNatClampNeg + (a.toNat + j) by omega]
theorem z_rs1 {kp c c0 v r : Int32} {a : Int} {K0 K K2 G : Nat → Int32} (h : zRun kp c a K0 K G) (hp : zP1 kp c0 v K K2 r) (hc : c0.toInt = c.toInt + a) (h0 : 0 ≤ c.toInt) (ha : 0 ≤ a) : kp.toInt = 0 → r = K0 (c.toNatClampNeg + a.toNat) := by
  intro h1
  have cc := z_clampN h0
  have cc0 := z_clampN (i := c0) (by omega)
  rw [(hp.2 h1).1, h.2 h1, show c0.toNatClampNeg = c.toNatClampNeg + a.toNat by omega]
/-- all passed by -/
def zPA (kp w : Int32) (K0 : Nat → Int32) (a1 a2 a3 a4 a5 a6 a7 a8 : Nat → Int32) (i1 i2 i3 i4 i5 i6 i7 : Int32) (K : Nat → Int32) (b1 b2 b3 b4 b5 b6 b7 b8 : Nat → Int32) (r1 r2 r3 r4 r5 r6 r7 : Int32) : Prop :=
  (kp.toInt = 1 → (b1 = a1 ∧ b2 = a2 ∧ b3 = a3 ∧ b4 = a4 ∧ b5 = a5 ∧ b6 = a6 ∧ b7 = a7 ∧ b8 = a8 ∧ r1 = i1 ∧ r2 = i2 ∧ r3 = i3 ∧ r4 = i4 ∧ r5 = i5 ∧ r6 = i6 ∧ r7 = i7) ∧ (∀ j : Nat, j < 130 → K (150 * w.toNatClampNeg + j) = zEnc a1 a2 a3 a4 a5 a6 a7 a8 i1 i2 i3 i4 i5 i6 i7 j) ∧ ∀ j : Nat, (j : Int) < 150 * w.toInt ∨ 150 * w.toInt + 130 ≤ (j : Int) → K j = K0 j) ∧
  (kp.toInt = 0 → K = K0 ∧ (∀ j : Nat, j < 130 → K0 (150 * w.toNatClampNeg + j) = zEnc b1 b2 b3 b4 b5 b6 b7 b8 r1 r2 r3 r4 r5 r6 r7 j) ∧ ((∀ j : Nat, (5 : Int) ≤ (j : Int) → b1 j = a1 j) ∧ (∀ j : Nat, (5 : Int) ≤ (j : Int) → b2 j = a2 j) ∧ (∀ j : Nat, (5 : Int) ≤ (j : Int) → b3 j = a3 j) ∧ (∀ j : Nat, (12 : Int) ≤ (j : Int) → b4 j = a4 j) ∧ (∀ j : Nat, (12 : Int) ≤ (j : Int) → b5 j = a5 j) ∧ (∀ j : Nat, (12 : Int) ≤ (j : Int) → b6 j = a6 j) ∧ (∀ j : Nat, (12 : Int) ≤ (j : Int) → b7 j = a7 j) ∧ (∀ j : Nat, (60 : Int) ≤ (j : Int) → b8 j = a8 j)))
theorem z_paF {kp w c : Int32} {K0 K : Nat → Int32} {a1 a2 a3 a4 a5 a6 a7 a8 b1 b2 b3 b4 b5 b6 b7 b8 : Nat → Int32} {i1 i2 i3 i4 i5 i6 i7 r1 r2 r3 r4 r5 r6 r7 : Int32} (hrun : zRun kp c 130 K0 K (zEnc a1 a2 a3 a4 a5 a6 a7 a8 i1 i2 i3 i4 i5 i6 i7)) (hc : c.toInt = 150 * w.toInt) (hw : 0 ≤ w.toInt) (k1 : kp.toInt = 1 → b1 = a1) (k2 : kp.toInt = 1 → b2 = a2) (k3 : kp.toInt = 1 → b3 = a3) (k4 : kp.toInt = 1 → b4 = a4) (k5 : kp.toInt = 1 → b5 = a5) (k6 : kp.toInt = 1 → b6 = a6) (k7 : kp.toInt = 1 → b7 = a7) (k8 : kp.toInt = 1 → b8 = a8) (k9 : kp.toInt = 1 → r1 = i1) (k10 : kp.toInt = 1 → r2 = i2) (k11 : kp.toInt = 1 → r3 = i3) (k12 : kp.toInt = 1 → r4 = i4) (k13 : kp.toInt = 1 → r5 = i5) (k14 : kp.toInt = 1 → r6 = i6) (k15 : kp.toInt = 1 → r7 = i7) (s1 : kp.toInt = 0 → ∀ j : Nat, (j : Int) < 5 → b1 j = K0 (c.toNatClampNeg + ((0 : Int).toNat + j))) (s2 : kp.toInt = 0 → ∀ j : Nat, (j : Int) < 5 → b2 j = K0 (c.toNatClampNeg + ((5 : Int).toNat + j))) (s3 : kp.toInt = 0 → ∀ j : Nat, (j : Int) < 5 → b3 j = K0 (c.toNatClampNeg + ((10 : Int).toNat + j))) (s4 : kp.toInt = 0 → ∀ j : Nat, (j : Int) < 12 → b4 j = K0 (c.toNatClampNeg + ((15 : Int).toNat + j))) (s5 : kp.toInt = 0 → ∀ j : Nat, (j : Int) < 12 → b5 j = K0 (c.toNatClampNeg + ((27 : Int).toNat + j))) (s6 : kp.toInt = 0 → ∀ j : Nat, (j : Int) < 12 → b6 j = K0 (c.toNatClampNeg + ((39 : Int).toNat + j))) (s7 : kp.toInt = 0 → ∀ j : Nat, (j : Int) < 12 → b7 j = K0 (c.toNatClampNeg + ((51 : Int).toNat + j))) (s8 : kp.toInt = 0 → ∀ j : Nat, (j : Int) < 60 → b8 j = K0 (c.toNatClampNeg + ((63 : Int).toNat + j))) (s9 : kp.toInt = 0 → r1 = K0 (c.toNatClampNeg + (123 : Int).toNat)) (s10 : kp.toInt = 0 → r2 = K0 (c.toNatClampNeg + (124 : Int).toNat)) (s11 : kp.toInt = 0 → r3 = K0 (c.toNatClampNeg + (125 : Int).toNat)) (s12 : kp.toInt = 0 → r4 = K0 (c.toNatClampNeg + (126 : Int).toNat)) (s13 : kp.toInt = 0 → r5 = K0 (c.toNatClampNeg + (127 : Int).toNat)) (s14 : kp.toInt = 0 → r6 = K0 (c.toNatClampNeg + (128 : Int).toNat)) (s15 : kp.toInt = 0 → r7 = K0 (c.toNatClampNeg + (129 : Int).toNat)) (o1 : kp.toInt = 0 → ∀ j : Nat, (5 : Int) ≤ (j : Int) → b1 j = a1 j) (o2 : kp.toInt = 0 → ∀ j : Nat, (5 : Int) ≤ (j : Int) → b2 j = a2 j) (o3 : kp.toInt = 0 → ∀ j : Nat, (5 : Int) ≤ (j : Int) → b3 j = a3 j) (o4 : kp.toInt = 0 → ∀ j : Nat, (12 : Int) ≤ (j : Int) → b4 j = a4 j) (o5 : kp.toInt = 0 → ∀ j : Nat, (12 : Int) ≤ (j : Int) → b5 j = a5 j) (o6 : kp.toInt = 0 → ∀ j : Nat, (12 : Int) ≤ (j : Int) → b6 j = a6 j) (o7 : kp.toInt = 0 → ∀ j : Nat, (12 : Int) ≤ (j : Int) → b7 j = a7 j) (o8 : kp.toInt = 0 → ∀ j : Nat, (60 : Int) ≤ (j : Int) → b8 j = a8 j) : zPA kp w K0 a1 a2 a3 a4 a5 a6 a7 a8 i1 i2 i3 i4 i5 i6 i7 K b1 b2 b3 b4 b5 b6 b7 b8 r1 r2 r3 r4 r5 r6 r7 := by
  have cc := z_clampN (i := c) (by omega)
  have cw := z_clampN hw
  refine ⟨fun h1 => ⟨⟨k1 h1, k2 h1, k3 h1, k4 h1, k5 h1, k6 h1, k7 h1, k8 h1, k9 h1, k10 h1, k11 h1, k12 h1, k13 h1, k14 h1, k15 h1⟩, fun j hj => ?_, fun j hj => (hrun.1 h1).2 j (by omega)⟩, fun h1 => ⟨hrun.2 h1, fun j hj => ?_, o1 h1, o2 h1, o3 h1, o4 h1, o5 h1, o6 h1, o7 h1, o8 h1⟩⟩
  · have h2 := (hrun.1 h1).1 j (by omega)
    rw [show 150 * w.toNatClampNeg + j = c.toNatClampNeg + j by omega]
    exact h2
  · unfold zEnc
    by_cases q1 : j < 5
    · rw [if_pos q1, s1 h1 (j - 0) (by omega), show c.toNatClampNeg + ((0 : Int).toNat + (j - 0)) = 150 * w.toNatClampNeg + j by omega]
    rw [if_neg q1]
    by_cases q2 : j < 10
    · rw [if_pos q2, s2 h1 (j - 5) (by omega), show c.toNatClampNeg + ((5 : Int).toNat + (j - 5)) = 150 * w.toNatClampNeg + j by omega]
    rw [if_neg q2]
    by_cases q3 : j < 15
    · rw [if_pos q3, s3 h1 (j - 10) (by omega), show c.toNatClampNeg + ((10 : Int).toNat + (j - 10)) = 150 * w.toNatClampNeg + j by omega]
    rw [if_neg q3]
    by_cases q4 : j < 27
    · rw [if_pos q4, s4 h1 (j - 15) (by omega), show c.toNatClampNeg + ((15 : Int).toNat + (j - 15)) = 150 * w.toNatClampNeg + j by omega]
    rw [if_neg q4]
    by_cases q5 : j < 39
    · rw [if_pos q5, s5 h1 (j - 27) (by omega), show c.toNatClampNeg + ((27 : Int).toNat + (j - 27)) = 150 * w.toNatClampNeg + j by omega]
    rw [if_neg q5]
    by_cases q6 : j < 51
    · rw [if_pos q6, s6 h1 (j - 39) (by omega), show c.toNatClampNeg + ((39 : Int).toNat + (j - 39)) = 150 * w.toNatClampNeg + j by omega]
    rw [if_neg q6]
    by_cases q7 : j < 63
    · rw [if_pos q7, s7 h1 (j - 51) (by omega), show c.toNatClampNeg + ((51 : Int).toNat + (j - 51)) = 150 * w.toNatClampNeg + j by omega]
    rw [if_neg q7]
    by_cases q8 : j < 123
    · rw [if_pos q8, s8 h1 (j - 63) (by omega), show c.toNatClampNeg + ((63 : Int).toNat + (j - 63)) = 150 * w.toNatClampNeg + j by omega]
    rw [if_neg q8]
    by_cases p1 : j = 123
    · rw [if_pos p1, s9 h1, show c.toNatClampNeg + (123 : Int).toNat = 150 * w.toNatClampNeg + j by omega]
    rw [if_neg p1]
    by_cases p2 : j = 124
    · rw [if_pos p2, s10 h1, show c.toNatClampNeg + (124 : Int).toNat = 150 * w.toNatClampNeg + j by omega]
    rw [if_neg p2]
    by_cases p3 : j = 125
    · rw [if_pos p3, s11 h1, show c.toNatClampNeg + (125 : Int).toNat = 150 * w.toNatClampNeg + j by omega]
    rw [if_neg p3]
    by_cases p4 : j = 126
    · rw [if_pos p4, s12 h1, show c.toNatClampNeg + (126 : Int).toNat = 150 * w.toNatClampNeg + j by omega]
    rw [if_neg p4]
    by_cases p5 : j = 127
    · rw [if_pos p5, s13 h1, show c.toNatClampNeg + (127 : Int).toNat = 150 * w.toNatClampNeg + j by omega]
    rw [if_neg p5]
    by_cases p6 : j = 128
    · rw [if_pos p6, s14 h1, show c.toNatClampNeg + (128 : Int).toNat = 150 * w.toNatClampNeg + j by omega]
    rw [if_neg p6]
    rw [s15 h1, show c.toNatClampNeg + (129 : Int).toNat = 150 * w.toNatClampNeg + j by omega]
theorem z_paR {a1 a2 a3 a4 a5 a6 a7 a8 b1 b2 b3 b4 b5 b6 b7 b8 c1 c2 c3 c4 c5 c6 c7 c8 d1 d2 d3 d4 d5 d6 d7 d8 : Nat → Int32} {i1 i2 i3 i4 i5 i6 i7 r1 r2 r3 r4 r5 r6 r7 k1 k2 k3 k4 k5 k6 k7 q1 q2 q3 q4 q5 q6 q7 : Int32} {K0 K1 K3 : Nat → Int32} (h : zPA 1 1 K0 a1 a2 a3 a4 a5 a6 a7 a8 i1 i2 i3 i4 i5 i6 i7 K1 b1 b2 b3 b4 b5 b6 b7 b8 r1 r2 r3 r4 r5 r6 r7) (h2 : zPA 0 1 K1 c1 c2 c3 c4 c5 c6 c7 c8 k1 k2 k3 k4 k5 k6 k7 K3 d1 d2 d3 d4 d5 d6 d7 d8 q1 q2 q3 q4 q5 q6 q7) (x1 : ∀ j : Nat, (5 : Int) ≤ (j : Int) → c1 j = a1 j) (x2 : ∀ j : Nat, (5 : Int) ≤ (j : Int) → c2 j = a2 j) (x3 : ∀ j : Nat, (5 : Int) ≤ (j : Int) → c3 j = a3 j) (x4 : ∀ j : Nat, (12 : Int) ≤ (j : Int) → c4 j = a4 j) (x5 : ∀ j : Nat, (12 : Int) ≤ (j : Int) → c5 j = a5 j) (x6 : ∀ j : Nat, (12 : Int) ≤ (j : Int) → c6 j = a6 j) (x7 : ∀ j : Nat, (12 : Int) ≤ (j : Int) → c7 j = a7 j) (x8 : ∀ j : Nat, (60 : Int) ≤ (j : Int) → c8 j = a8 j) : (d1 = a1 ∧ d2 = a2 ∧ d3 = a3 ∧ d4 = a4 ∧ d5 = a5 ∧ d6 = a6 ∧ d7 = a7 ∧ d8 = a8) ∧ (q1 = i1 ∧ q2 = i2 ∧ q3 = i3 ∧ q4 = i4 ∧ q5 = i5 ∧ q6 = i6 ∧ q7 = i7) ∧ ∀ j : Nat, j < 150 → K3 j = K0 j := by
  obtain ⟨-, e2, e3⟩ := h.1 (by decide)
  obtain ⟨f1, f2, g1, g2, g3, g4, g5, g6, g7, g8⟩ := h2.2 (by decide)
  have w1 : (1 : Int32).toInt = 1 := by decide
  have ee : ∀ j : Nat, j < 130 → zEnc d1 d2 d3 d4 d5 d6 d7 d8 q1 q2 q3 q4 q5 q6 q7 j = zEnc a1 a2 a3 a4 a5 a6 a7 a8 i1 i2 i3 i4 i5 i6 i7 j := fun j hj => by rw [← f2 j hj, e2 j hj]
  refine ⟨⟨?_, ?_, ?_, ?_, ?_, ?_, ?_, ?_⟩, ⟨?_, ?_, ?_, ?_, ?_, ?_, ?_⟩, fun j hj => by rw [f1]; exact e3 j (Or.inl (by omega))⟩
  · funext j
    by_cases c : (j : Int) < 5
    · exact (z_encA1 (a1 := d1) (a2 := d2) (a3 := d3) (a4 := d4) (a5 := d5) (a6 := d6) (a7 := d7) (a8 := d8) (i1 := q1) (i2 := q2) (i3 := q3) (i4 := q4) (i5 := q5) (i6 := q6) (i7 := q7) j c).trans ((ee (0 + j) (by omega)).trans (z_encA1 (a1 := a1) (a2 := a2) (a3 := a3) (a4 := a4) (a5 := a5) (a6 := a6) (a7 := a7) (a8 := a8) (i1 := i1) (i2 := i2) (i3 := i3) (i4 := i4) (i5 := i5) (i6 := i6) (i7 := i7) j c).symm)
    · rw [g1 j (by omega), x1 j (by omega)]
  · funext j
    by_cases c : (j : Int) < 5
    · exact (z_encA2 (a1 := d1) (a2 := d2) (a3 := d3) (a4 := d4) (a5 := d5) (a6 := d6) (a7 := d7) (a8 := d8) (i1 := q1) (i2 := q2) (i3 := q3) (i4 := q4) (i5 := q5) (i6 := q6) (i7 := q7) j c).trans ((ee (5 + j) (by omega)).trans (z_encA2 (a1 := a1) (a2 := a2) (a3 := a3) (a4 := a4) (a5 := a5) (a6 := a6) (a7 := a7) (a8 := a8) (i1 := i1) (i2 := i2) (i3 := i3) (i4 := i4) (i5 := i5) (i6 := i6) (i7 := i7) j c).symm)
    · rw [g2 j (by omega), x2 j (by omega)]
  · funext j
    by_cases c : (j : Int) < 5
    · exact (z_encA3 (a1 := d1) (a2 := d2) (a3 := d3) (a4 := d4) (a5 := d5) (a6 := d6) (a7 := d7) (a8 := d8) (i1 := q1) (i2 := q2) (i3 := q3) (i4 := q4) (i5 := q5) (i6 := q6) (i7 := q7) j c).trans ((ee (10 + j) (by omega)).trans (z_encA3 (a1 := a1) (a2 := a2) (a3 := a3) (a4 := a4) (a5 := a5) (a6 := a6) (a7 := a7) (a8 := a8) (i1 := i1) (i2 := i2) (i3 := i3) (i4 := i4) (i5 := i5) (i6 := i6) (i7 := i7) j c).symm)
    · rw [g3 j (by omega), x3 j (by omega)]
  · funext j
    by_cases c : (j : Int) < 12
    · exact (z_encA4 (a1 := d1) (a2 := d2) (a3 := d3) (a4 := d4) (a5 := d5) (a6 := d6) (a7 := d7) (a8 := d8) (i1 := q1) (i2 := q2) (i3 := q3) (i4 := q4) (i5 := q5) (i6 := q6) (i7 := q7) j c).trans ((ee (15 + j) (by omega)).trans (z_encA4 (a1 := a1) (a2 := a2) (a3 := a3) (a4 := a4) (a5 := a5) (a6 := a6) (a7 := a7) (a8 := a8) (i1 := i1) (i2 := i2) (i3 := i3) (i4 := i4) (i5 := i5) (i6 := i6) (i7 := i7) j c).symm)
    · rw [g4 j (by omega), x4 j (by omega)]
  · funext j
    by_cases c : (j : Int) < 12
    · exact (z_encA5 (a1 := d1) (a2 := d2) (a3 := d3) (a4 := d4) (a5 := d5) (a6 := d6) (a7 := d7) (a8 := d8) (i1 := q1) (i2 := q2) (i3 := q3) (i4 := q4) (i5 := q5) (i6 := q6) (i7 := q7) j c).trans ((ee (27 + j) (by omega)).trans (z_encA5 (a1 := a1) (a2 := a2) (a3 := a3) (a4 := a4) (a5 := a5) (a6 := a6) (a7 := a7) (a8 := a8) (i1 := i1) (i2 := i2) (i3 := i3) (i4 := i4) (i5 := i5) (i6 := i6) (i7 := i7) j c).symm)
    · rw [g5 j (by omega), x5 j (by omega)]
  · funext j
    by_cases c : (j : Int) < 12
    · exact (z_encA6 (a1 := d1) (a2 := d2) (a3 := d3) (a4 := d4) (a5 := d5) (a6 := d6) (a7 := d7) (a8 := d8) (i1 := q1) (i2 := q2) (i3 := q3) (i4 := q4) (i5 := q5) (i6 := q6) (i7 := q7) j c).trans ((ee (39 + j) (by omega)).trans (z_encA6 (a1 := a1) (a2 := a2) (a3 := a3) (a4 := a4) (a5 := a5) (a6 := a6) (a7 := a7) (a8 := a8) (i1 := i1) (i2 := i2) (i3 := i3) (i4 := i4) (i5 := i5) (i6 := i6) (i7 := i7) j c).symm)
    · rw [g6 j (by omega), x6 j (by omega)]
  · funext j
    by_cases c : (j : Int) < 12
    · exact (z_encA7 (a1 := d1) (a2 := d2) (a3 := d3) (a4 := d4) (a5 := d5) (a6 := d6) (a7 := d7) (a8 := d8) (i1 := q1) (i2 := q2) (i3 := q3) (i4 := q4) (i5 := q5) (i6 := q6) (i7 := q7) j c).trans ((ee (51 + j) (by omega)).trans (z_encA7 (a1 := a1) (a2 := a2) (a3 := a3) (a4 := a4) (a5 := a5) (a6 := a6) (a7 := a7) (a8 := a8) (i1 := i1) (i2 := i2) (i3 := i3) (i4 := i4) (i5 := i5) (i6 := i6) (i7 := i7) j c).symm)
    · rw [g7 j (by omega), x7 j (by omega)]
  · funext j
    by_cases c : (j : Int) < 60
    · exact (z_encA8 (a1 := d1) (a2 := d2) (a3 := d3) (a4 := d4) (a5 := d5) (a6 := d6) (a7 := d7) (a8 := d8) (i1 := q1) (i2 := q2) (i3 := q3) (i4 := q4) (i5 := q5) (i6 := q6) (i7 := q7) j c).trans ((ee (63 + j) (by omega)).trans (z_encA8 (a1 := a1) (a2 := a2) (a3 := a3) (a4 := a4) (a5 := a5) (a6 := a6) (a7 := a7) (a8 := a8) (i1 := i1) (i2 := i2) (i3 := i3) (i4 := i4) (i5 := i5) (i6 := i6) (i7 := i7) j c).symm)
    · rw [g8 j (by omega), x8 j (by omega)]
  · exact (z_encI1 (a1 := d1) (a2 := d2) (a3 := d3) (a4 := d4) (a5 := d5) (a6 := d6) (a7 := d7) (a8 := d8) (i1 := q1) (i2 := q2) (i3 := q3) (i4 := q4) (i5 := q5) (i6 := q6) (i7 := q7)).trans ((ee 123 (by omega)).trans (z_encI1 (a1 := a1) (a2 := a2) (a3 := a3) (a4 := a4) (a5 := a5) (a6 := a6) (a7 := a7) (a8 := a8) (i1 := i1) (i2 := i2) (i3 := i3) (i4 := i4) (i5 := i5) (i6 := i6) (i7 := i7)).symm)
  · exact (z_encI2 (a1 := d1) (a2 := d2) (a3 := d3) (a4 := d4) (a5 := d5) (a6 := d6) (a7 := d7) (a8 := d8) (i1 := q1) (i2 := q2) (i3 := q3) (i4 := q4) (i5 := q5) (i6 := q6) (i7 := q7)).trans ((ee 124 (by omega)).trans (z_encI2 (a1 := a1) (a2 := a2) (a3 := a3) (a4 := a4) (a5 := a5) (a6 := a6) (a7 := a7) (a8 := a8) (i1 := i1) (i2 := i2) (i3 := i3) (i4 := i4) (i5 := i5) (i6 := i6) (i7 := i7)).symm)
  · exact (z_encI3 (a1 := d1) (a2 := d2) (a3 := d3) (a4 := d4) (a5 := d5) (a6 := d6) (a7 := d7) (a8 := d8) (i1 := q1) (i2 := q2) (i3 := q3) (i4 := q4) (i5 := q5) (i6 := q6) (i7 := q7)).trans ((ee 125 (by omega)).trans (z_encI3 (a1 := a1) (a2 := a2) (a3 := a3) (a4 := a4) (a5 := a5) (a6 := a6) (a7 := a7) (a8 := a8) (i1 := i1) (i2 := i2) (i3 := i3) (i4 := i4) (i5 := i5) (i6 := i6) (i7 := i7)).symm)
  · exact (z_encI4 (a1 := d1) (a2 := d2) (a3 := d3) (a4 := d4) (a5 := d5) (a6 := d6) (a7 := d7) (a8 := d8) (i1 := q1) (i2 := q2) (i3 := q3) (i4 := q4) (i5 := q5) (i6 := q6) (i7 := q7)).trans ((ee 126 (by omega)).trans (z_encI4 (a1 := a1) (a2 := a2) (a3 := a3) (a4 := a4) (a5 := a5) (a6 := a6) (a7 := a7) (a8 := a8) (i1 := i1) (i2 := i2) (i3 := i3) (i4 := i4) (i5 := i5) (i6 := i6) (i7 := i7)).symm)
  · exact (z_encI5 (a1 := d1) (a2 := d2) (a3 := d3) (a4 := d4) (a5 := d5) (a6 := d6) (a7 := d7) (a8 := d8) (i1 := q1) (i2 := q2) (i3 := q3) (i4 := q4) (i5 := q5) (i6 := q6) (i7 := q7)).trans ((ee 127 (by omega)).trans (z_encI5 (a1 := a1) (a2 := a2) (a3 := a3) (a4 := a4) (a5 := a5) (a6 := a6) (a7 := a7) (a8 := a8) (i1 := i1) (i2 := i2) (i3 := i3) (i4 := i4) (i5 := i5) (i6 := i6) (i7 := i7)).symm)
  · exact (z_encI6 (a1 := d1) (a2 := d2) (a3 := d3) (a4 := d4) (a5 := d5) (a6 := d6) (a7 := d7) (a8 := d8) (i1 := q1) (i2 := q2) (i3 := q3) (i4 := q4) (i5 := q5) (i6 := q6) (i7 := q7)).trans ((ee 128 (by omega)).trans (z_encI6 (a1 := a1) (a2 := a2) (a3 := a3) (a4 := a4) (a5 := a5) (a6 := a6) (a7 := a7) (a8 := a8) (i1 := i1) (i2 := i2) (i3 := i3) (i4 := i4) (i5 := i5) (i6 := i6) (i7 := i7)).symm)
  · exact (z_encI7 (a1 := d1) (a2 := d2) (a3 := d3) (a4 := d4) (a5 := d5) (a6 := d6) (a7 := d7) (a8 := d8) (i1 := q1) (i2 := q2) (i3 := q3) (i4 := q4) (i5 := q5) (i6 := q6) (i7 := q7)).trans ((ee 129 (by omega)).trans (z_encI7 (a1 := a1) (a2 := a2) (a3 := a3) (a4 := a4) (a5 := a5) (a6 := a6) (a7 := a7) (a8 := a8) (i1 := i1) (i2 := i2) (i3 := i3) (i4 := i4) (i5 := i5) (i6 := i6) (i7 := i7)).symm)


theorem z_kkA {a1 a2 a3 a4 a5 a6 a7 a8 b1 b2 b3 b4 b5 b6 b7 b8 : Nat → Int32} {i1 i2 i3 i4 i5 i6 i7 r1 r2 r3 r4 r5 r6 r7 : Int32} {K0 K : Nat → Int32} (h : zPA 1 1 K0 a1 a2 a3 a4 a5 a6 a7 a8 i1 i2 i3 i4 i5 i6 i7 K b1 b2 b3 b4 b5 b6 b7 b8 r1 r2 r3 r4 r5 r6 r7) : zKK K0 K := fun j hj => (h.1 (by decide)).2.2 j (Or.inl (by rw [show (1 : Int32).toInt = 1 from by decide]; omega))
theorem z_imK2 {a1 a2 a3 a4 a5 a6 a7 a8 b1 b2 b3 b4 b5 b6 b7 b8 : Nat → Int32} {i1 i2 i3 i4 i5 i6 i7 r1 r2 r3 r4 r5 r6 r7 : Int32} {K0 K : Nat → Int32} (h : zPA 1 0 K0 a1 a2 a3 a4 a5 a6 a7 a8 i1 i2 i3 i4 i5 i6 i7 K b1 b2 b3 b4 b5 b6 b7 b8 r1 r2 r3 r4 r5 r6 r7) : ∀ j : Nat, j < 130 → K j = zEnc a1 a2 a3 a4 a5 a6 a7 a8 i1 i2 i3 i4 i5 i6 i7 j := fun j hj => by
  have q := (h.1 (by decide)).2.1 j hj
  rw [show 150 * (0 : Int32).toNatClampNeg + j = j from by rw [show (0 : Int32).toNatClampNeg = 0 from by decide]; omega] at q
  exact q
def zRsM (h : Int32) (K : Nat → Int32) (a1 a2 a3 a4 a5 a6 a7 a8 : Nat → Int32) (i1 i2 i3 i4 i5 i6 i7 : Int32) (b1 b2 b3 b4 b5 b6 b7 b8 : Nat → Int32) (r1 r2 r3 r4 r5 r6 r7 r : Int32) : Prop :=
  (h.toInt = 0 ∧ r.toInt = -3 ∧ b1 = a1 ∧ b2 = a2 ∧ b3 = a3 ∧ b4 = a4 ∧ b5 = a5 ∧ b6 = a6 ∧ b7 = a7 ∧ b8 = a8 ∧ r1 = i1 ∧ r2 = i2 ∧ r3 = i3 ∧ r4 = i4 ∧ r5 = i5 ∧ r6 = i6 ∧ r7 = i7) ∨ (h.toInt = 1 ∧ r.toInt = r2.toInt ∧ (∀ j : Nat, j < 130 → K j = zEnc b1 b2 b3 b4 b5 b6 b7 b8 r1 r2 r3 r4 r5 r6 r7 j) ∧ (∀ j : Nat, (5 : Int) ≤ (j : Int) → b1 j = a1 j) ∧ (∀ j : Nat, (5 : Int) ≤ (j : Int) → b2 j = a2 j) ∧ (∀ j : Nat, (5 : Int) ≤ (j : Int) → b3 j = a3 j) ∧ (∀ j : Nat, (12 : Int) ≤ (j : Int) → b4 j = a4 j) ∧ (∀ j : Nat, (12 : Int) ≤ (j : Int) → b5 j = a5 j) ∧ (∀ j : Nat, (12 : Int) ≤ (j : Int) → b6 j = a6 j) ∧ (∀ j : Nat, (12 : Int) ≤ (j : Int) → b7 j = a7 j) ∧ (∀ j : Nat, (60 : Int) ≤ (j : Int) → b8 j = a8 j))
theorem z_rsM0 {h r : Int32} {K a1 a2 a3 a4 a5 a6 a7 a8 : Nat → Int32} {i1 i2 i3 i4 i5 i6 i7 : Int32} (h0 : h.toInt = 0) (hr : r.toInt = -3) : zRsM h K a1 a2 a3 a4 a5 a6 a7 a8 i1 i2 i3 i4 i5 i6 i7 a1 a2 a3 a4 a5 a6 a7 a8 i1 i2 i3 i4 i5 i6 i7 r := Or.inl ⟨h0, hr, rfl, rfl, rfl, rfl, rfl, rfl, rfl, rfl, rfl, rfl, rfl, rfl, rfl, rfl, rfl⟩
theorem z_rsM1 {h r : Int32} {K a1 a2 a3 a4 a5 a6 a7 a8 b1 b2 b3 b4 b5 b6 b7 b8 : Nat → Int32} {i1 i2 i3 i4 i5 i6 i7 r1 r2 r3 r4 r5 r6 r7 : Int32} {K3 : Nat → Int32} (h0 : h.toInt = 1) (hp : zPA 0 0 K a1 a2 a3 a4 a5 a6 a7 a8 i1 i2 i3 i4 i5 i6 i7 K3 b1 b2 b3 b4 b5 b6 b7 b8 r1 r2 r3 r4 r5 r6 r7) (hr : r.toInt = r2.toInt) : zRsM h K a1 a2 a3 a4 a5 a6 a7 a8 i1 i2 i3 i4 i5 i6 i7 b1 b2 b3 b4 b5 b6 b7 b8 r1 r2 r3 r4 r5 r6 r7 r := by
  obtain ⟨-, e, o1, o2, o3, o4, o5, o6, o7, o8⟩ := hp.2 (by decide)
  refine Or.inr ⟨h0, hr, fun j hj => ?_, o1, o2, o3, o4, o5, o6, o7, o8⟩
  have q := e j hj
  rw [show 150 * (0 : Int32).toNatClampNeg + j = j from by rw [show (0 : Int32).toNatClampNeg = 0 from by decide]; omega] at q
  exact q
theorem z_paK0 {a1 a2 a3 a4 a5 a6 a7 a8 b1 b2 b3 b4 b5 b6 b7 b8 : Nat → Int32} {i1 i2 i3 i4 i5 i6 i7 r1 r2 r3 r4 r5 r6 r7 : Int32} {K0 K : Nat → Int32} (h : zPA 0 0 K0 a1 a2 a3 a4 a5 a6 a7 a8 i1 i2 i3 i4 i5 i6 i7 K b1 b2 b3 b4 b5 b6 b7 b8 r1 r2 r3 r4 r5 r6 r7) : K = K0 := (h.2 (by decide)).1
/-- the class's image, its restoring -/
def zRsC (h : Int32) (P L O P0 L0 Q0 : Int32) (sp cu sp0 cu0 : Nat → Int32) (P2 L2 O2 r : Int32) (sp2 cu2 : Nat → Int32) : Prop :=
  (h.toInt = 0 ∧ r.toInt = -3 ∧ P2 = P ∧ L2 = L ∧ sp2 = sp ∧ cu2 = cu ∧ O2 = O) ∨ (h.toInt = 1 ∧ r.toInt = L0.toInt ∧ P2 = P0 ∧ L2 = L0 ∧ zCpy 5 sp sp0 sp2 ∧ zCpy 12 cu cu0 cu2 ∧ O2 = Q0)
theorem z_imEq {P L O : Int32} {sp cu sp0 cu0 K K2 a1 a2 a3 a4 a5 a6 a7 a8 sq cq : Nat → Int32} {i1 i2 i3 i4 i5 i6 i7 : Int32} (hs : zCpy 5 sp0 sp sq) (hc : zCpy 12 cu0 cu cq) (hk : ∀ j : Nat, j < 130 → K2 j = zEnc a1 a2 a3 a4 a5 a6 a7 a8 i1 i2 i3 i4 i5 i6 i7 j) (eP : P.toInt = i1.toInt) (eL : L.toInt = i2.toInt) (es : sp = a3) (ec : cu = a6) (eO : O.toInt = i3.toInt) : zIm 1 P L O sq cq K2 := by
  subst es ec
  intro _
  refine ⟨?_, ?_, fun j hj => ?_, fun j hj => ?_, ?_⟩
  · rw [hk 123 (by decide), ← z_encI1]; exact eP
  · rw [hk 124 (by decide), ← z_encI2]; exact eL
  · rw [hk (10 + j) (by omega), z_cpyL hs hj]
    exact z_encA3 j hj
  · rw [hk (39 + j) (by omega), z_cpyL hc hj]
    exact z_encA6 j hj
  · rw [hk 125 (by decide), ← z_encI3]; exact eO
theorem z_rsEq {h h2 P L O P0 L0 Q0 P2 L2 O2 r q : Int32} {sp cu sp0 cu0 sp2 cu2 K a1 a2 a3 a4 a5 a6 a7 a8 b1 b2 b3 b4 b5 b6 b7 b8 : Nat → Int32} {i1 i2 i3 i4 i5 i6 i7 r1 r2 r3 r4 r5 r6 r7 : Int32} (hC : zRsC h P L O P0 L0 Q0 sp cu sp0 cu0 P2 L2 O2 r sp2 cu2) (hM : zRsM h2 K a1 a2 a3 a4 a5 a6 a7 a8 i1 i2 i3 i4 i5 i6 i7 b1 b2 b3 b4 b5 b6 b7 b8 r1 r2 r3 r4 r5 r6 r7 q) (hi : zIm h P0 L0 Q0 sp0 cu0 K) (eh : h.toInt = h2.toInt) (eP : P.toInt = i1.toInt) (eL : L.toInt = i2.toInt) (es : sp = a3) (ec : cu = a6) (eO : O.toInt = i3.toInt) : r.toInt = q.toInt ∧ P2.toInt = r1.toInt ∧ L2.toInt = r2.toInt ∧ sp2 = b3 ∧ cu2 = b6 ∧ O2.toInt = r3.toInt := by
  subst es ec
  rcases hC with ⟨x1, x2, rfl, rfl, rfl, rfl, rfl⟩ | ⟨x1, x2, rfl, rfl, x5, x6, rfl⟩
  · rcases hM with ⟨y1, y2, -, -, e3, -, -, e6, -, -, f1, f2, f3, -⟩ | ⟨y1, -⟩
    · subst e3 e6 f1 f2 f3
      exact ⟨by omega, eP, eL, rfl, rfl, eO⟩
    · omega
  · rcases hM with ⟨y1, -⟩ | ⟨y1, y2, y3, -, -, o3, -, -, o6, -⟩
    · omega
    · obtain ⟨m1, m2, m3, m4, m5⟩ := hi x1
      have g3 : O2.toInt = r3.toInt := by rw [m5, y3 125 (by decide), ← z_encI3]
      have g1 : P2.toInt = r1.toInt := by rw [m1, y3 123 (by decide), ← z_encI1]
      have g2 : L2.toInt = r2.toInt := by rw [m2, y3 124 (by decide), ← z_encI2]
      refine ⟨by omega, g1, g2, ?_, ?_, g3⟩
      · funext j
        rw [x5 j]
        by_cases c : (j : Int) < 5
        · rw [if_pos c, m3 j c, y3 (10 + j) (by omega)]
          exact (z_encA3 j c).symm
        · rw [if_neg c]
          exact (o3 j (by omega)).symm
      · funext j
        rw [x6 j]
        by_cases c : (j : Int) < 12
        · rw [if_pos c, m4 j c, y3 (39 + j) (by omega)]
          exact (z_encA6 j c).symm
        · rw [if_neg c]
          exact (o6 j (by omega)).symm

