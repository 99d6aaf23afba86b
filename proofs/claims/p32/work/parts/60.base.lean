theorem z_lcmp {x y : Int64} {a b : Int} (hx : x.toInt = a) (hy : y.toInt = b) : (lg_cmp x y).toInt = 0 ↔ a = b := by
  subst hx; subst hy
  unfold lg_cmp
  constructor
  · intro h
    split at h
    · exact absurd h (by decide)
    · split at h
      · rename_i e; rw [e]
      · exact absurd h (by decide)
  · intro h
    have e : x = y := Int64.toInt_inj.mp h
    subst e
    have h1 : ¬ x > x := fun q => by have := Int64.lt_iff_toInt_lt.mp q; omega
    rw [if_neg h1, if_pos rfl]; rfl
theorem z_lcmpb (x y : Int64) : -1 ≤ (lg_cmp x y).toInt ∧ (lg_cmp x y).toInt ≤ 1 := by
  unfold lg_cmp
  split
  · decide
  · split <;> decide
theorem z_n0l {y : Int64} (h : y.toInt ≠ 0) : ¬ y = 0 := fun e => h (by rw [e]; rfl)
def zab (y : Int64) : Nat := y.toInt.natAbs
theorem z_lrem {x y : Int64} (h : ¬ y = 0) : zab (x - x / y * y) < zab y := by
  have hy : y.toInt ≠ 0 := fun e => h (Int64.toInt_inj.mp (by rw [e]; rfl))
  have hlt : (x.toInt.tmod y.toInt).natAbs < y.toInt.natAbs := by
    rw [Int.natAbs_tmod]; exact Nat.mod_lt _ (Int.natAbs_pos.mpr hy)
  have h1 := Int64.toInt_lt y
  have h2 := Int64.le_toInt y
  have e : (x - x / y * y).toInt = x.toInt.tmod y.toInt := by
    rw [Int64.toInt_sub, Int64.toInt_mul, Int64.toInt_div, Int.bmod_mul_bmod, Int.sub_bmod_bmod]
    have e1 : x.toInt - x.toInt.tdiv y.toInt * y.toInt = x.toInt.tmod y.toInt := by
      have := Int.tmod_add_tdiv_mul x.toInt y.toInt
      omega
    rw [e1]
    exact Int.bmod_eq_of_le_mul_two (by omega) (by omega)
  unfold zab
  rw [e]
  exact hlt
def zmu (a b : Int32) : Nat := if b = a then 0 else 4294967297 - b.toBitVec.toNat
theorem z_muS {a b y : Int32} {n : Nat} (h : b.toInt ≠ a.toInt) (hm : ((zmu a b : Nat) : Int).toNat < n + 1) : ((zmu b (b ||| y) : Nat) : Int).toNat < n := by
  have hne : ¬ b = a := fun e => h (by rw [e])
  have h1 : zmu a b = 4294967297 - b.toBitVec.toNat := if_neg hne
  have hb : b.toBitVec.toNat < 4294967296 := b.toBitVec.isLt
  rw [h1] at hm
  by_cases e : (b ||| y) = b
  · have h2 : zmu b (b ||| y) = 0 := if_pos e
    rw [h2]; omega
  · have h2 : zmu b (b ||| y) = 4294967297 - (b ||| y).toBitVec.toNat := if_neg e
    have h3 : (b ||| y).toBitVec.toNat = b.toBitVec.toNat ||| y.toBitVec.toNat := by rw [Int32.toBitVec_or, BitVec.toNat_or]
    have h4 : b.toBitVec.toNat ≤ (b ||| y).toBitVec.toNat := by rw [h3]; exact Nat.left_le_or
    have h5 : b.toBitVec.toNat ≠ (b ||| y).toBitVec.toNat := fun q => e (Int32.toBitVec_inj.mp (BitVec.eq_of_toNat_eq q.symm))
    rw [h2]; omega
def zpw : Nat → Int64
  | 0 => 1
  | k + 1 => zpw k * 100
def zdn (l : Int32) (d : Int64) : Prop := ∃ k : Nat, k < 12 ∧ l.toInt = (k : Int) + 1 ∧ d = zpw k
theorem z_dn0 : zdn 1 1 := ⟨0, by decide, by decide, rfl⟩
theorem z_dnS {l y : Int32} {d : Int64} (h : zdn l d) (hl : l.toInt ≤ 11) (hy : y.toInt = l.toInt + 1) : zdn y (d * 100) := by
  obtain ⟨k, h1, h2, rfl⟩ := h
  exact ⟨k + 1, by omega, by omega, rfl⟩
theorem z_dnne {l : Int32} {d : Int64} (h : zdn l d) : d.toInt ≠ 0 := by
  obtain ⟨k, h1, -, rfl⟩ := h
  have q : ∀ k : Nat, k < 12 → (zpw k).toInt ≠ 0 := by decide
  exact q k h1
/-! rows of lines' numbers: all different, and their number in base twelve -/
theorem z_ldc {f : Nat → Int32} {a b : Int32} (h : a.toInt = b.toInt) : (f a.toNatClampNeg).toInt = (f b.toNatClampNeg).toInt := by
  rw [(fa_eq a b).mpr h]
def zInj (n : Int32) (F : Nat → Int32) : Prop := ∀ a b : Nat, (a : Int) < n.toInt → (b : Int) < n.toInt → F a = F b → a = b
def zEqTo (i : Int32) (F G : Nat → Int32) : Prop := ∀ k : Nat, (k : Int) ≤ i.toInt → F k = G k
def zIni (l : Int32) (F : Nat → Int32) : Prop := ∀ k : Nat, (k : Int) < l.toInt → (F k).toInt = (k : Int)
def zSw (F : Nat → Int32) (a b : Int32) : Nat → Int32 := upd (upd F a.toNatClampNeg (F b.toNatClampNeg)) b.toNatClampNeg (F a.toNatClampNeg)
theorem z_swap (F : Nat → Int32) (a b : Int32) (k : Nat) : zSw F a b k = F (if k = b.toNatClampNeg then a.toNatClampNeg else if k = a.toNatClampNeg then b.toNatClampNeg else k) := by
  unfold zSw
  by_cases h1 : k = b.toNatClampNeg
  · subst h1; rw [pk_us, if_pos rfl]
  · rw [pk_un h1, if_neg h1]
    by_cases h2 : k = a.toNatClampNeg
    · subst h2; rw [pk_us, if_pos rfl]
    · rw [pk_un h2, if_neg h2]
theorem z_sig {A B x y : Nat} (h : (if x = B then A else if x = A then B else x) = (if y = B then A else if y = A then B else y)) : x = y := by
  by_cases h1 : x = B
  · rw [if_pos h1] at h
    by_cases h3 : y = B
    · omega
    · rw [if_neg h3] at h
      by_cases h4 : y = A
      · rw [if_pos h4] at h; omega
      · rw [if_neg h4] at h; omega
  · rw [if_neg h1] at h
    by_cases h2 : x = A
    · rw [if_pos h2] at h
      by_cases h3 : y = B
      · rw [if_pos h3] at h; omega
      · rw [if_neg h3] at h
        by_cases h4 : y = A
        · omega
        · rw [if_neg h4] at h; omega
    · rw [if_neg h2] at h
      by_cases h3 : y = B
      · rw [if_pos h3] at h; omega
      · rw [if_neg h3] at h
        by_cases h4 : y = A
        · rw [if_pos h4] at h; omega
        · rw [if_neg h4] at h; exact h
theorem z_injS {n a b : Int32} {F G : Nat → Int32} (h : zInj n F) (e : G = zSw F a b) (ha : 0 ≤ a.toInt) (ha2 : a.toInt < n.toInt) (hb : 0 ≤ b.toInt) (hb2 : b.toInt < n.toInt) : zInj n G := by
  intro x y hx hy hxy
  rw [e, z_swap, z_swap] at hxy
  have ca := z_clamp ha
  have cb := z_clamp hb
  have hq : ∀ k : Nat, (k : Int) < n.toInt → (((if k = b.toNatClampNeg then a.toNatClampNeg else if k = a.toNatClampNeg then b.toNatClampNeg else k) : Nat) : Int) < n.toInt := by
    intro k hk
    split
    · omega
    · split <;> omega
  exact z_sig (h _ _ (hq x hx) (hq y hy) hxy)
theorem z_eqS {i a b : Int32} {F G F1 : Nat → Int32} (h : zEqTo i F F1) (e : G = zSw F a b) (hi : 0 ≤ i.toInt) (ha : i.toInt < a.toInt) (hb : i.toInt < b.toInt) : zEqTo i G F1 := by
  intro k hk
  have ca := z_clamp (i := a) (by omega)
  have cb := z_clamp (i := b) (by omega)
  rw [e, z_swap, if_neg (show ¬ k = b.toNatClampNeg by omega), if_neg (show ¬ k = a.toNatClampNeg by omega)]
  exact h k hk
theorem z_iniS {l y : Int32} {F G : Nat → Int32} (h : zIni l F) (e : upd F l.toNatClampNeg l = G) (hl : 0 ≤ l.toInt) (hy : y.toInt = l.toInt + 1) : zIni y G := by
  intro k hk
  have cl := z_clamp hl
  rw [← e]
  by_cases q : k = l.toNatClampNeg
  · subst q; rw [pk_us]; omega
  · rw [pk_un q]; exact h k (by omega)
theorem z_ini0 {F : Nat → Int32} : zIni 0 F := fun k hk => by
  rw [show (0 : Int32).toInt = 0 from by decide] at hk
  omega
theorem z_iniJ {l n : Int32} {F : Nat → Int32} (h : zIni l F) (hl : n.toInt ≤ l.toInt) : zInj n F := by
  intro a b ha hb e
  have h1 := h a (by omega)
  have h2 := h b (by omega)
  rw [e] at h1
  omega
def zNum : Nat → (Nat → Int32) → Nat
  | 0, _ => 0
  | k + 1, F => zNum k F * 12 + (F k).toInt.toNat
theorem z_numB {F : Nat → Int32} (h : ∀ k, 0 ≤ (F k).toInt ∧ (F k).toInt ≤ 11) (m : Nat) : zNum m F < 12 ^ m := by
  induction m with
  | zero => show 0 < 1; decide
  | succ m ih =>
    have := h m
    rw [Nat.pow_succ]
    show zNum m F * 12 + (F m).toInt.toNat < 12 ^ m * 12
    omega
theorem z_numE {F G : Nat → Int32} (m : Nat) (h : ∀ k, k < m → F k = G k) : zNum m F = zNum m G := by
  induction m with
  | zero => rfl
  | succ m ih =>
    show zNum m F * 12 + (F m).toInt.toNat = zNum m G * 12 + (G m).toInt.toNat
    rw [ih (fun k hk => h k (by omega)), h m (by omega)]
theorem z_numL {F G : Nat → Int32} (hF : ∀ k, 0 ≤ (F k).toInt ∧ (F k).toInt ≤ 11) (hG : ∀ k, 0 ≤ (G k).toInt ∧ (G k).toInt ≤ 11) (i : Nat) (he : ∀ k, k < i → F k = G k) (hi : (F i).toInt < (G i).toInt) (m : Nat) (hm : i < m) : zNum m F < zNum m G := by
  induction m with
  | zero => omega
  | succ m ih =>
    show zNum m F * 12 + (F m).toInt.toNat < zNum m G * 12 + (G m).toInt.toNat
    have h1 := hF m
    have h2 := hG m
    by_cases q : i = m
    · subst q
      rw [z_numE i he]
      omega
    · have := ih (by omega)
      omega
theorem z_nxt {n i j : Int32} {F0 F1 F : Nat → Int32} (h0 : zInj n F0) (e1 : F1 = zSw F0 i j) (r1 : zEqTo i F F1) (r2 : zInj n F1 → zInj n F) (hi : 0 ≤ i.toInt) (hij : i.toInt < j.toInt) (hj : j.toInt < n.toInt) (hle : (F0 i.toNatClampNeg).toInt ≤ (F0 j.toNatClampNeg).toInt) (hb0 : ∀ k, 0 ≤ (F0 k).toInt ∧ (F0 k).toInt ≤ 11) (hb : ∀ k, 0 ≤ (F k).toInt ∧ (F k).toInt ≤ 11) : zInj n F ∧ zNum n.toInt.toNat F0 < zNum n.toInt.toNat F := by
  have ci := z_clamp hi
  have cj := z_clamp (i := j) (by omega)
  refine ⟨r2 (z_injS h0 e1 hi (by omega) (by omega) hj), z_numL hb0 hb i.toNatClampNeg (fun k hk => ?_) ?_ _ (by omega)⟩
  · rw [r1 k (by omega), e1, z_swap, if_neg (show ¬ k = j.toNatClampNeg by omega), if_neg (show ¬ k = i.toNatClampNeg by omega)]
  · rw [r1 i.toNatClampNeg (by omega), e1, z_swap, if_neg (show ¬ i.toNatClampNeg = j.toNatClampNeg by omega), if_pos rfl]
    have hne : F0 i.toNatClampNeg ≠ F0 j.toNatClampNeg := fun q => by
      have := h0 _ _ (by omega) (by omega) q
      omega
    have hne2 : (F0 i.toNatClampNeg).toInt ≠ (F0 j.toNatClampNeg).toInt := fun q => hne ((fa_eq _ _).mpr q)
    omega
def zms (m n : Int32) (F : Nat → Int32) : Nat := if m.toInt = 1 then 8916100448257 - zNum n.toInt.toNat F else 0
theorem z_msS {m r n : Int32} {F G : Nat → Int32} {k : Nat} (hm : ((zms m n F : Nat) : Int).toNat < k + 1) (h : r.toInt = 1 → zInj n G ∧ zNum n.toInt.toNat F < zNum n.toInt.toNat G) (hm1 : m.toInt = 1) (hn : n.toInt ≤ 12) (hB : ∀ k, 0 ≤ (F k).toInt ∧ (F k).toInt ≤ 11) (hG : ∀ k, 0 ≤ (G k).toInt ∧ (G k).toInt ≤ 11) : ((zms r n G : Nat) : Int).toNat < k := by
  have e1 : zms m n F = 8916100448257 - zNum n.toInt.toNat F := if_pos hm1
  have hp : 12 ^ n.toInt.toNat ≤ 12 ^ 12 := Nat.pow_le_pow_right (by decide) (by omega)
  have hp2 : (12 : Nat) ^ 12 = 8916100448256 := by decide
  have b1 := z_numB hB n.toInt.toNat
  have b2 := z_numB hG n.toInt.toNat
  rw [e1] at hm
  by_cases q : r.toInt = 1
  · have e2 : zms r n G = 8916100448257 - zNum n.toInt.toNat G := if_pos q
    have := (h q).2
    rw [e2]; omega
  · have e2 : zms r n G = 0 := if_neg q
    rw [e2]; omega
/-! how many of the first k players come -/
def zcn (G : Int32 → Int32) : Nat → Int
  | 0 => 0
  | k + 1 => zcn G k + (if 0 ≤ (G (Int32.ofNat k)).toInt then 1 else 0)
theorem z_cnX {G : Int32 → Int32} {p y r : Int32} (hr : r = G p) (hp : 0 ≤ p.toInt) (hy : y.toInt = p.toInt + 1) : zcn G y.toInt.toNat = zcn G p.toInt.toNat + (if 0 ≤ r.toInt then 1 else 0) := by
  have e1 : y.toInt.toNat = p.toInt.toNat + 1 := by omega
  have hh := z_hi p
  have e2 : Int32.ofNat p.toInt.toNat = p := by
    refine (fa_eq _ _).mpr ?_
    rw [Int32.toInt_ofNat_of_lt (by omega), Int.toNat_of_nonneg hp]
  rw [e1, hr]
  show zcn G p.toInt.toNat + (if 0 ≤ (G (Int32.ofNat p.toInt.toNat)).toInt then 1 else 0) = _
  rw [e2]
theorem z_cnP {G : Int32 → Int32} {p y r : Int32} (hr : r = G p) (hp : 0 ≤ p.toInt) (hy : y.toInt = p.toInt + 1) (h : 0 ≤ r.toInt) : zcn G y.toInt.toNat = zcn G p.toInt.toNat + 1 := by
  rw [z_cnX hr hp hy, if_pos h]
theorem z_cnN {G : Int32 → Int32} {p y r : Int32} (hr : r = G p) (hp : 0 ≤ p.toInt) (hy : y.toInt = p.toInt + 1) (h : r.toInt < 0) : zcn G y.toInt.toNat = zcn G p.toInt.toNat + 0 := by
  rw [z_cnX hr hp hy, if_neg (by omega)]

