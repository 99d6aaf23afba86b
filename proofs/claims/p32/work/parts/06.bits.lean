/-! ===== Int32 by its bits: bt x i ===== -/
def bt (x : Int32) (i : Nat) : Bool := x.toBitVec.getLsbD i
theorem b_ext {x y : Int32} (h : ∀ i, i < 32 → bt x i = bt y i) : x = y := Int32.toBitVec_inj.mp (BitVec.eq_of_getLsbD_eq (fun i hi => h i hi))
theorem b_or (x y : Int32) (i : Nat) : bt (x ||| y) i = (bt x i || bt y i) := by unfold bt; rw [Int32.toBitVec_or, BitVec.getLsbD_or]
theorem b_and (x y : Int32) (i : Nat) : bt (x &&& y) i = (bt x i && bt y i) := by unfold bt; rw [Int32.toBitVec_and, BitVec.getLsbD_and]
theorem b_xor (x y : Int32) (i : Nat) : bt (x ^^^ y) i = (bt x i ^^ bt y i) := by unfold bt; rw [Int32.toBitVec_xor, BitVec.getLsbD_xor]
theorem b_big {x : Int32} {i : Nat} (h : 32 ≤ i) : bt x i = false := BitVec.getLsbD_of_ge _ _ h
theorem b_255 (i : Nat) : bt 255 i = decide (i < 8) := by
  rcases Nat.lt_or_ge i 32 with h | h
  · exact (by decide +kernel : ∀ i, i < 32 → bt 255 i = decide (i < 8)) i h
  · rw [b_big h, decide_eq_false (by omega)]
theorem b_65535 (i : Nat) : bt 65535 i = decide (i < 16) := by
  rcases Nat.lt_or_ge i 32 with h | h
  · exact (by decide +kernel : ∀ i, i < 32 → bt 65535 i = decide (i < 16)) i h
  · rw [b_big h, decide_eq_false (by omega)]
theorem b_m1 : ∀ i, i < 32 → bt (-1) i = true := by decide +kernel
theorem b_0 (i : Nat) : bt 0 i = false := BitVec.getLsbD_zero
theorem s_l : ∀ n, n < 32 → ((nI n &&& 31).toBitVec.smod 32).toNat = n := by decide +kernel
theorem s_u : ∀ n, n < 32 → (((nI n).toUInt32 &&& Int32.toUInt32 31).toBitVec % 32).toNat = n := by decide +kernel
theorem b_shl (n : Nat) (hn : n < 32) (x : Int32) {i : Nat} (hi : i < 32) : bt (x <<< (nI n &&& 31)) i = (decide (n ≤ i) && bt x (i - n)) := by
  unfold bt
  rw [Int32.toBitVec_shiftLeft]
  show (x.toBitVec <<< ((nI n &&& 31).toBitVec.smod 32).toNat).getLsbD i = _
  rw [s_l n hn, BitVec.getLsbD_shiftLeft]
  rcases Nat.lt_or_ge i n with h | h
  · simp [h, Nat.not_le.mpr h]
  · simp [hi, h, Nat.not_lt.mpr h]
theorem b_ushr (n : Nat) (hn : n < 32) (x : Int32) (i : Nat) : bt ((x.toUInt32 >>> ((nI n).toUInt32 &&& Int32.toUInt32 31)).toInt32) i = bt x (n + i) := by
  show (x.toUInt32 >>> ((nI n).toUInt32 &&& Int32.toUInt32 31)).toBitVec.getLsbD i = x.toUInt32.toBitVec.getLsbD (n + i)
  rw [UInt32.toBitVec_shiftRight]
  show (x.toUInt32.toBitVec >>> (((nI n).toUInt32 &&& Int32.toUInt32 31).toBitVec % 32).toNat).getLsbD i = _
  rw [s_u n hn, BitVec.getLsbD_ushiftRight]
theorem b_sshr (n : Nat) (hn : n < 32) (x : Int32) {i : Nat} (hi : i < 32) : bt (x >>> (nI n &&& 31)) i = if n + i < 32 then bt x (n + i) else bt x 31 := by
  unfold bt
  rw [Int32.toBitVec_shiftRight]
  show (x.toBitVec.sshiftRight ((nI n &&& 31).toBitVec.smod 32).toNat).getLsbD i = _
  rw [s_l n hn, BitVec.getLsbD_sshiftRight, BitVec.msb_eq_getLsbD_last]
  simp [hi]
/-! bits of an int, words in an int -/
theorem z_nI {x : Int32} (h : 0 ≤ x.toInt) : x = nI x.toInt.toNat := by
  refine (fa_eq _ _).mpr ?_
  have hh := z_hi x
  rw [nI_toInt (by omega), Int.toNat_of_nonneg h]
theorem z_and1B (x : Int32) : (x &&& 1).toInt = if bt x 0 then 1 else 0 := by
  have h : (x &&& 1) = if bt x 0 then 1 else 0 := by
    refine b_ext fun i hi => ?_
    rw [b_and]
    by_cases q : i = 0
    · subst q
      cases hb : bt x 0
      · simp [b_0]
      · simp only [if_true, Bool.true_and]
    · have h1 : bt 1 i = false := by
        have : ∀ i, i < 32 → i ≠ 0 → bt 1 i = false := by decide +kernel
        exact this i hi q
      rw [h1, Bool.and_false]
      cases hb : bt x 0
      · simp [b_0]
      · simp only [if_true]; exact h1.symm
  rw [h]
  cases bt x 0
  · decide
  · decide
/-- what bitAt answers -/
theorem z_bitAt {x p : Int32} (h0 : 0 ≤ p.toInt) (h1 : p.toInt < 32) : ((x >>> (p &&& 31)) &&& 1).toInt = if bt x p.toInt.toNat then 1 else 0 := by
  rw [z_and1B]
  have e := z_nI h0
  have hb := b_sshr p.toInt.toNat (by omega) x (i := 0) (by decide)
  rw [← e] at hb
  rw [if_pos (show p.toInt.toNat + 0 < 32 by omega), Nat.add_zero] at hb
  rw [hb]
theorem z_shl1 {p : Int32} (h0 : 0 ≤ p.toInt) (h1 : p.toInt < 32) {i : Nat} (hi : i < 32) : bt ((1 : Int32) <<< (p &&& 31)) i = decide (i = p.toInt.toNat) := by
  have e := z_nI h0
  have hb := b_shl p.toInt.toNat (by omega) 1 hi
  rw [← e] at hb
  rw [hb]
  by_cases q : i = p.toInt.toNat
  · subst q
    simp only [Nat.sub_self, Nat.le_refl, decide_true, Bool.true_and]
    decide
  · rw [decide_eq_false q]
    by_cases c : p.toInt.toNat ≤ i
    · have h2 : ∀ i, i < 32 → i ≠ 0 → bt 1 i = false := by decide +kernel
      rw [h2 (i - p.toInt.toNat) (by omega) (by omega), Bool.and_false]
    · rw [decide_eq_false c, Bool.false_and]
/-- the words of a line as one number, the last one lowest -/
def zTx (w : Nat → Int) : Nat → Int
  | 0 => 0
  | k + 1 => zTx w k * 32 + w k
theorem z_txB {w : Nat → Int} (n : Nat) (hw : ∀ k, k < n → 0 ≤ w k ∧ w k < 32) : 0 ≤ zTx w n ∧ zTx w n < 32 ^ n := by
  induction n with
  | zero => exact ⟨Int.le_refl 0, (by decide : (0 : Int) < 32 ^ 0)⟩
  | succ n ih =>
    have h1 := ih (fun k hk => hw k (by omega))
    have h2 := hw n (by omega)
    have e : zTx w (n + 1) = zTx w n * 32 + w n := rfl
    have e2 : (32 : Int) ^ (n + 1) = 32 ^ n * 32 := Int.pow_succ 32 n
    rw [e, e2]
    omega
theorem z_txM {w v : Nat → Int} (h : Nat) : ∀ (n m : Nat), h ≤ n → h ≤ m → (∀ k, k < n → 0 ≤ w k ∧ w k < 32) → (∀ k, k < m → 0 ≤ v k ∧ v k < 32) → (zTx w n % 32 ^ h = zTx v m % 32 ^ h ↔ ∀ k, 1 ≤ k → k ≤ h → w (n - k) = v (m - k)) := by
  induction h with
  | zero =>
    intro n m _ _ _ _
    exact ⟨fun _ k h1 h2 => by omega, fun _ => by rw [Int.pow_zero, Int.emod_one, Int.emod_one]⟩
  | succ h ih =>
    intro n m hn hm hw hv
    obtain ⟨n, rfl⟩ : ∃ q, n = q + 1 := ⟨n - 1, by omega⟩
    obtain ⟨m, rfl⟩ : ∃ q, m = q + 1 := ⟨m - 1, by omega⟩
    have ih2 := ih n m (by omega) (by omega) (fun k hk => hw k (by omega)) (fun k hk => hv k (by omega))
    have e1 : zTx w (n + 1) = zTx w n * 32 + w n := rfl
    have e2 : zTx v (m + 1) = zTx v m * 32 + v m := rfl
    have b1 := hw n (by omega)
    have b2 := hv m (by omega)
    have p : (32 : Int) ^ (h + 1) = 32 * 32 ^ h := by rw [Int.pow_succ, Int.mul_comm]
    have pp : (0 : Int) < 32 ^ h := Int.pow_pos (by decide)
    have key : ∀ (T x : Int), 0 ≤ x → x < 32 → (T * 32 + x) % (32 * 32 ^ h) = (T % 32 ^ h) * 32 + x := by
      intro T x x0 x1
      have d := Int.emod_add_mul_ediv T (32 ^ h)
      have d0 := Int.emod_nonneg T (Int.ne_of_gt pp)
      have d1 := Int.emod_lt_of_pos T pp
      have e : T * 32 + x = (T % 32 ^ h * 32 + x) + (32 * 32 ^ h) * (T / 32 ^ h) := by
        have : (32 * 32 ^ h) * (T / 32 ^ h) = 32 ^ h * (T / 32 ^ h) * 32 := by rw [Int.mul_comm 32 (32 ^ h), Int.mul_assoc, Int.mul_comm 32, ← Int.mul_assoc]
        rw [this]
        omega
      rw [e, Int.add_mul_emod_self_left, Int.emod_eq_of_lt (by omega) (by omega)]
    rw [p, e1, e2, key _ _ b1.1 b1.2, key _ _ b2.1 b2.2]
    constructor
    · intro q k k1 k2
      by_cases c : k = 1
      · subst c
        show w n = v m
        omega
      · have := ih2.mp (by omega) (k - 1) (by omega) (by omega)
        rw [show n + 1 - k = n - (k - 1) by omega, show m + 1 - k = m - (k - 1) by omega]
        exact this
    · intro q
      have q1 : w n = v m := q 1 (by omega) (by omega)
      have q2 := ih2.mpr (fun k k1 k2 => by
        have := q (k + 1) (by omega) (by omega)
        rw [show n + 1 - (k + 1) = n - k by omega, show m + 1 - (k + 1) = m - k by omega] at this
        exact this)
      rw [q1, q2]
theorem z_tn {x : Int32} (h : 0 ≤ x.toInt) : x.toBitVec.toNat = x.toInt.toNat := by
  have e : x.toInt = x.toBitVec.toInt := rfl
  have hl : x.toBitVec.toNat < 4294967296 := x.toBitVec.isLt
  have e2 := BitVec.toInt_eq_toNat_cond x.toBitVec
  rw [← e] at e2
  split at e2 <;> omega
theorem z_andM {x m : Int32} (k : Nat) (hx : 0 ≤ x.toInt) (hm : m.toBitVec.toNat = 2 ^ k - 1) (hk : k ≤ 30) : (x &&& m).toInt = x.toInt % 2 ^ k := by
  have h1 : (x &&& m).toBitVec.toNat = x.toInt.toNat % 2 ^ k := by
    rw [Int32.toBitVec_and, BitVec.toNat_and, z_tn hx, hm, Nat.and_two_pow_sub_one_eq_mod]
  have hh := z_hi x
  have h2 : x.toInt.toNat % 2 ^ k ≤ x.toInt.toNat := Nat.mod_le _ _
  have e : (x &&& m).toInt = (x &&& m).toBitVec.toInt := rfl
  have h3 : (x &&& m).toInt = ((x.toInt.toNat % 2 ^ k : Nat) : Int) := by
    rw [e, BitVec.toInt_eq_toNat_cond, h1, if_pos (by omega)]
  rw [h3, Int.natCast_emod, Int.toNat_of_nonneg hx]
  rfl
theorem z_mask {x s : Int32} {w : Int} (hx : 0 ≤ x.toInt) (hs : s.toInt = 5 * w) (h0 : 0 ≤ w) (h4 : w ≤ 4) : (x &&& (((1 : Int32) <<< (s &&& 31)) - 1)).toInt = x.toInt % 32 ^ w.toNat := by
  rcases (show w = 0 ∨ w = 1 ∨ w = 2 ∨ w = 3 ∨ w = 4 by omega) with rfl | rfl | rfl | rfl | rfl
  · rw [show s = 0 from (fa_eq _ _).mpr (by rw [hs]; decide)]
    exact z_andM 0 hx (by decide) (by decide)
  · rw [show s = 5 from (fa_eq _ _).mpr (by rw [hs]; decide)]
    exact z_andM 5 hx (by decide) (by decide)
  · rw [show s = 10 from (fa_eq _ _).mpr (by rw [hs]; decide)]
    exact z_andM 10 hx (by decide) (by decide)
  · rw [show s = 15 from (fa_eq _ _).mpr (by rw [hs]; decide)]
    exact z_andM 15 hx (by decide) (by decide)
  · rw [show s = 20 from (fa_eq _ _).mpr (by rw [hs]; decide)]
    exact z_andM 20 hx (by decide) (by decide)
/-- (t << 5) | c of a word more -/
theorem z_shl5 {t c y : Int32} (ht : 0 ≤ t.toInt) (ht2 : t.toInt < 1048576) (hc : 0 ≤ c.toInt) (hc2 : c.toInt < 32) (hy : y = (t <<< ((5 : Int32) &&& 31)) ||| c) : y.toInt = t.toInt * 32 + c.toInt := by
  have h1 : (t <<< ((5 : Int32) &&& 31)).toBitVec.toNat = t.toInt.toNat * 32 := by
    rw [Int32.toBitVec_shiftLeft]
    show (t.toBitVec <<< (((5 : Int32) &&& 31).toBitVec.smod 32).toNat).toNat = _
    rw [show (((5 : Int32) &&& 31).toBitVec.smod 32).toNat = 5 from by decide, BitVec.toNat_shiftLeft, z_tn ht, Nat.shiftLeft_eq]
    exact Nat.mod_eq_of_lt (by omega)
  have h2 : y.toBitVec.toNat = t.toInt.toNat * 32 + c.toInt.toNat := by
    rw [hy, Int32.toBitVec_or, BitVec.toNat_or, h1, z_tn hc]
    have q := Nat.two_pow_add_eq_or_of_lt (i := 5) (b := c.toInt.toNat) (by omega) t.toInt.toNat
    rw [show (2 : Nat) ^ 5 = 32 from rfl] at q
    rw [Nat.mul_comm t.toInt.toNat 32]
    exact q.symm
  have e : y.toInt = y.toBitVec.toInt := rfl
  rw [e, BitVec.toInt_eq_toNat_cond, h2, if_pos (by omega)]
  omega
/-- words of a row from a place on, as ints -/
def zWf (f : Nat → Int32) (b : Nat) : Nat → Int := fun k => (f (b + k)).toInt
theorem z_txE {w v : Nat → Int} (n : Nat) (h : ∀ k, k < n → w k = v k) : zTx w n = zTx v n := by
  induction n with
  | zero => rfl
  | succ n ih =>
    show zTx w n * 32 + w n = zTx v n * 32 + v n
    rw [ih (fun k hk => h k (by omega)), h n (by omega)]
/-- whether the last h words of two lines are the same, told by their numbers -/
theorem z_txD {x y : Int32} {w v : Nat → Int} {n m : Nat} {h : Int} {s : Int32} (ex : x.toInt = zTx w n) (ey : y.toInt = zTx v m) (hw : ∀ k, k < n → 0 ≤ w k ∧ w k < 32) (hv : ∀ k, k < m → 0 ≤ v k ∧ v k < 32) (h0 : 0 ≤ h) (h4 : h ≤ 4) (hn : h ≤ (n : Int)) (hm : h ≤ (m : Int)) (hs : s.toInt = 5 * h) : (x &&& (((1 : Int32) <<< (s &&& 31)) - 1)).toInt = (y &&& (((1 : Int32) <<< (s &&& 31)) - 1)).toInt ↔ ∀ k : Nat, 1 ≤ k → (k : Int) ≤ h → w (n - k) = v (m - k) := by
  have bx := z_txB n hw
  have by_ := z_txB m hv
  rw [z_mask (by omega) hs h0 h4, z_mask (by omega) hs h0 h4, ex, ey, z_txM h.toNat n m (by omega) (by omega) hw hv]
  exact ⟨fun q k k1 k2 => q k k1 (by omega), fun q k k1 k2 => q k k1 (by omega)⟩
/-- bits below twelve alone -/
def zB12 (x : Int32) : Prop := ∀ i, 12 ≤ i → i < 32 → bt x i = false
theorem z_b12E {x y : Int32} (hx : zB12 x) (hy : zB12 y) (h : ∀ i, i < 12 → bt x i = bt y i) : x = y := by
  refine b_ext fun i hi => ?_
  by_cases c : i < 12
  · exact h i c
  · rw [hx i (by omega) hi, hy i (by omega) hi]
theorem z_b12O {x p : Int32} (hx : zB12 x) (h0 : 0 ≤ p.toInt) (h1 : p.toInt < 12) : zB12 (x ||| ((1 : Int32) <<< (p &&& 31))) := fun i h2 h3 => by
  rw [b_or, hx i h2 h3, z_shl1 h0 (by omega) h3, Bool.false_or]
  exact decide_eq_false (by omega)
theorem z_btO {x p : Int32} (h0 : 0 ≤ p.toInt) (h1 : p.toInt < 12) {i : Nat} (hi : i < 32) : bt (x ||| ((1 : Int32) <<< (p &&& 31))) i = (bt x i || decide (i = p.toInt.toNat)) := by
  rw [b_or, z_shl1 h0 (by omega) hi]
theorem z_b12Z : zB12 0 := fun i _ _ => b_0 i
theorem z_b12N {x : Int32} (hx : zB12 x) : 0 ≤ x.toInt ∧ x.toInt < 4096 := by
  have e : x = x &&& 4095 := by
    refine b_ext fun i hi => ?_
    have hm : ∀ i, i < 32 → bt 4095 i = decide (i < 12) := by decide +kernel
    rw [b_and, hm i hi]
    by_cases c : i < 12
    · rw [decide_eq_true c, Bool.and_true]
    · rw [hx i (by omega) hi, Bool.false_and]
  have h1 : x.toBitVec.toNat ≤ 4095 := by
    rw [e, Int32.toBitVec_and, BitVec.toNat_and]
    exact Nat.le_trans Nat.and_le_right (by decide)
  have e2 : x.toInt = x.toBitVec.toInt := rfl
  rw [e2, BitVec.toInt_eq_toNat_cond, if_pos (by omega)]
  omega

