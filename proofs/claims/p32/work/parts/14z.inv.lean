theorem z_clamp {i : Int32} (h : 0 ≤ i.toInt) : ((i.toNatClampNeg : Nat) : Int) = i.toInt := Int.toNat_of_nonneg h
/-- what is told of a line's words: its number stands at a place that is 3 of eight, and is at most four -/
def zT (f : Nat → Int32) : Prop := ∀ k : Nat, (k : Int) % 8 = 3 → 0 ≤ (f k).toInt ∧ (f k).toInt ≤ 4
theorem z_ldT {f : Nat → Int32} {i : Int32} (h : zT f) (hi : 0 ≤ i.toInt) : i.toInt % 8 = 3 → 0 ≤ (f i.toNatClampNeg).toInt ∧ (f i.toNatClampNeg).toInt ≤ 4 := fun q => h _ (by rw [z_clamp hi]; exact q)
theorem z_updT {f : Nat → Int32} {i x : Int32} (h : zT f) (hi : 0 ≤ i.toInt) (hx : i.toInt % 8 = 3 → 0 ≤ x.toInt ∧ x.toInt ≤ 4) : zT (upd f i.toNatClampNeg x) := by
  intro k hk
  by_cases e : k = i.toNatClampNeg
  · subst e; rw [pk_us]; exact hx (by rw [← z_clamp hi]; exact hk)
  · rw [pk_un e]; exact h k hk
/-- what the kept row holds at the places of owners, words' numbers, cues, players, lines, latest -/
def zKp (f : Nat → Int32) : Prop := ∀ k : Nat, ((15 ≤ (k : Int) % 150 ∧ (k : Int) % 150 < 39 → 0 ≤ (f k).toInt ∧ (f k).toInt ≤ 4) ∧ (39 ≤ (k : Int) % 150 ∧ (k : Int) % 150 < 51 → 0 ≤ (f k).toInt ∧ (f k).toInt ≤ 9) ∧ ((k : Int) % 150 = 123 → 0 ≤ (f k).toInt ∧ (f k).toInt ≤ 5) ∧ ((k : Int) % 150 = 124 → 0 ≤ (f k).toInt ∧ (f k).toInt ≤ 12) ∧ ((k : Int) % 150 = 128 → -9 ≤ (f k).toInt ∧ (f k).toInt ≤ 11))
theorem z_ldK {f : Nat → Int32} {i : Int32} (h : zKp f) (hi : 0 ≤ i.toInt) : ((15 ≤ i.toInt % 150 ∧ i.toInt % 150 < 39 → 0 ≤ (f i.toNatClampNeg).toInt ∧ (f i.toNatClampNeg).toInt ≤ 4) ∧ (39 ≤ i.toInt % 150 ∧ i.toInt % 150 < 51 → 0 ≤ (f i.toNatClampNeg).toInt ∧ (f i.toNatClampNeg).toInt ≤ 9) ∧ (i.toInt % 150 = 123 → 0 ≤ (f i.toNatClampNeg).toInt ∧ (f i.toNatClampNeg).toInt ≤ 5) ∧ (i.toInt % 150 = 124 → 0 ≤ (f i.toNatClampNeg).toInt ∧ (f i.toNatClampNeg).toInt ≤ 12) ∧ (i.toInt % 150 = 128 → -9 ≤ (f i.toNatClampNeg).toInt ∧ (f i.toNatClampNeg).toInt ≤ 11)) := by
  have q := h i.toNatClampNeg
  rw [z_clamp hi] at q
  exact q
theorem z_updK {f : Nat → Int32} {i x : Int32} (h : zKp f) (hi : 0 ≤ i.toInt) (hx : ((15 ≤ i.toInt % 150 ∧ i.toInt % 150 < 39 → 0 ≤ x.toInt ∧ x.toInt ≤ 4) ∧ (39 ≤ i.toInt % 150 ∧ i.toInt % 150 < 51 → 0 ≤ x.toInt ∧ x.toInt ≤ 9) ∧ (i.toInt % 150 = 123 → 0 ≤ x.toInt ∧ x.toInt ≤ 5) ∧ (i.toInt % 150 = 124 → 0 ≤ x.toInt ∧ x.toInt ≤ 12) ∧ (i.toInt % 150 = 128 → -9 ≤ x.toInt ∧ x.toInt ≤ 11))) : zKp (upd f i.toNatClampNeg x) := by
  intro k
  by_cases e : k = i.toNatClampNeg
  · subst e; rw [pk_us, z_clamp hi]; exact hx
  · rw [pk_un e]; exact h k

