/-- home: powers and divisors -/
theorem z_bm64 {v : Int} (h1 : -9223372036854775808 ≤ v) (h2 : v ≤ 9223372036854775807) : v.bmod (2 ^ 64) = v := by rw [Int.bmod_def]; omega
theorem z_pwNq {n k : Nat} (hn : n ≤ 100) (hk : k ≤ 8) : n ^ k ≤ 10000000000000000 := Nat.le_trans (Nat.pow_le_pow_left hn k) (Nat.le_trans (Nat.pow_le_pow_right (by decide) hk) (by decide))
def zPwI (b : Int32) (k : Int) (x : Int64) : Prop := 0 ≤ b.toInt → b.toInt ≤ 100 → k ≤ 8 → x.toInt = ((b.toInt.toNat ^ k.toNat : Nat) : Int)
theorem z_pw0 {b : Int32} {k : Int} (hk : k = 0) : zPwI b k 1 := fun _ _ _ => by
  subst hk
  show (1 : Int64).toInt = ((b.toInt.toNat ^ 0 : Nat) : Int)
  rw [Nat.pow_zero]
  decide
theorem z_mul64 {x w y : Int64} {b : Int} {n k : Nat} (ey : y = x * w) (hx : x.toInt = ((n ^ k : Nat) : Int)) (hw : w.toInt = b) (b0 : 0 ≤ b) (hb : b.toNat = n) (hn : n ≤ 100) (hk : k + 1 ≤ 8) : y.toInt = ((n ^ (k + 1) : Nat) : Int) := by
  have bd := z_pwNq hn hk
  have e2 : ((n ^ k : Nat) : Int) * b = ((n ^ (k + 1) : Nat) : Int) := by
    rw [Nat.pow_succ, Int.natCast_mul, ← hb, Int.toNat_of_nonneg b0]
  rw [ey, Int64.toInt_mul, hx, hw, e2]
  exact z_bm64 (by omega) (by omega)
theorem z_pwS {b : Int32} {k k2 : Int} {x x2 w : Int64} (h : zPwI b k x) (k0 : 0 ≤ k) (hk : k2 = k + 1) (ew : w = b.toInt64) (ex : x2 = x * w) : zPwI b k2 x2 := fun b0 b1 k8 => by
  have e := h b0 b1 (by omega)
  rw [show k2.toNat = k.toNat + 1 by omega]
  exact z_mul64 ex e (by rw [ew, Int32.toInt_toInt64]) b0 rfl (by omega) (by omega)
theorem z_pwE {b : Int32} {k m : Int} {x : Int64} (h : zPwI b k x) (b0 : 0 ≤ b.toInt) (b1 : b.toInt ≤ 100) (e : k = m) (m8 : m ≤ 8) : x.toInt = ((b.toInt.toNat ^ m.toNat : Nat) : Int) := by
  rw [← e]
  exact h b0 b1 (by omega)
theorem z_rmN {x y r : Int32} (er : r = x - x / y * y) (hx : 0 ≤ x.toInt) (hy : 1 ≤ y.toInt) : r.toInt = ((x.toInt.toNat % y.toInt.toNat : Nat) : Int) := by
  have hh := z_hi x
  have hl := z_hi y
  have e : (x - x / y * y).toInt = x.toInt.tmod y.toInt := by
    rw [Int32.toInt_sub, Int32.toInt_mul, Int32.toInt_div, Int.bmod_mul_bmod, Int.sub_bmod_bmod]
    have e1 : x.toInt - x.toInt.tdiv y.toInt * y.toInt = x.toInt.tmod y.toInt := by
      have := Int.tmod_add_tdiv_mul x.toInt y.toInt
      omega
    have h1 := Int.tmod_nonneg y.toInt hx
    have h2 := Int.tmod_lt_of_pos x.toInt (show 0 < y.toInt by omega)
    rw [e1]
    exact z_bm (by omega) (by omega)
  rw [er, e, Int.tmod_eq_emod_of_nonneg hx, Int.natCast_emod, Int.toNat_of_nonneg hx, Int.toNat_of_nonneg (by omega)]
theorem z_dvN {x y q : Int32} (eq : q = x / y) (hx : 0 ≤ x.toInt) (hy : 1 ≤ y.toInt) : q.toInt = ((x.toInt.toNat / y.toInt.toNat : Nat) : Int) := by
  have hh := z_hi x
  have h1 : x.toInt / y.toInt ≤ x.toInt := Int.ediv_le_self _ hx
  have h2 : 0 ≤ x.toInt / y.toInt := Int.ediv_nonneg hx (by omega)
  rw [eq, Int32.toInt_div, Int.tdiv_eq_ediv_of_nonneg hx, z_bm (by omega) (by omega), Int.natCast_ediv, Int.toNat_of_nonneg hx, Int.toNat_of_nonneg (by omega)]
/-- the greatest divisor, from above -/
def zGdI (a b : Int32) (d : Int) : Prop := 1 ≤ a.toInt → 1 ≤ b.toInt → 1 ≤ d ∧ ∀ e : Nat, d < (e : Int) → ¬ (e ∣ a.toInt.toNat ∧ e ∣ b.toInt.toNat)
theorem z_gd0 {a b d : Int32} (h0 : d.toInt ≤ a.toInt) (h1 : d.toInt ≤ b.toInt) (h2 : d.toInt = a.toInt ∨ d.toInt = b.toInt) : zGdI a b d.toInt := fun a1 b1 => ⟨by omega, fun e he w => by
  have w1 := Nat.le_of_dvd (by omega) w.1
  have w2 := Nat.le_of_dvd (by omega) w.2
  omega⟩
theorem z_rmDv {x y r : Int32} (er : r = x - x / y * y) (hx : 0 ≤ x.toInt) (hy : 1 ≤ y.toInt) : r.toInt = 0 ↔ y.toInt.toNat ∣ x.toInt.toNat := by
  have e := z_rmN er hx hy
  constructor
  · intro h
    exact Nat.dvd_of_mod_eq_zero (by omega)
  · intro h
    have := Nat.mod_eq_zero_of_dvd h
    omega
theorem z_gdS {a b d d2 r : Int32} (h : zGdI a b d.toInt) (d1 : 1 < d.toInt) (hd : d2.toInt = d.toInt - 1) (s : (r = a - a / d * d ∧ r.toInt ≠ 0) ∨ (r = b - b / d * d ∧ r.toInt ≠ 0)) : zGdI a b d2.toInt := fun a1 b1 => by
  obtain ⟨h1, h2⟩ := h a1 b1
  refine ⟨by omega, fun e he w => ?_⟩
  by_cases c : (e : Int) = d.toInt
  · have ee : d.toInt.toNat = e := by omega
    rcases s with ⟨s1, s2⟩ | ⟨s1, s2⟩
    · exact s2 ((z_rmDv s1 (by omega) (by omega)).mpr (by rw [ee]; exact w.1))
    · exact s2 ((z_rmDv s1 (by omega) (by omega)).mpr (by rw [ee]; exact w.2))
  · exact h2 e (by omega) w
theorem z_gdT {a b d r1 r2 : Int32} (h : zGdI a b d.toInt) (a1 : 1 ≤ a.toInt) (b1 : 1 ≤ b.toInt) (d1 : 1 < d.toInt) (e1 : r1 = a - a / d * d) (q1 : r1.toInt = 0) (e2 : r2 = b - b / d * d) (q2 : r2.toInt = 0) : d.toInt = ((Nat.gcd a.toInt.toNat b.toInt.toNat : Nat) : Int) := by
  obtain ⟨h1, h2⟩ := h a1 b1
  have v1 := (z_rmDv e1 (by omega) (by omega)).mp q1
  have v2 := (z_rmDv e2 (by omega) (by omega)).mp q2
  have g0 : 0 < Nat.gcd a.toInt.toNat b.toInt.toNat := Nat.gcd_pos_of_pos_left _ (by omega)
  have g1 := Nat.le_of_dvd g0 (Nat.dvd_gcd v1 v2)
  by_cases c : d.toInt < ((Nat.gcd a.toInt.toNat b.toInt.toNat : Nat) : Int)
  · exact absurd ⟨Nat.gcd_dvd_left _ _, Nat.gcd_dvd_right _ _⟩ (h2 _ c)
  · omega
theorem z_gdE {a b : Int32} {d r : Int} (h : zGdI a b d) (a1 : 1 ≤ a.toInt) (b1 : 1 ≤ b.toInt) (d1 : d ≤ 1) (hr : r = 1) : r = ((Nat.gcd a.toInt.toNat b.toInt.toNat : Nat) : Int) := by
  obtain ⟨h1, h2⟩ := h a1 b1
  have g0 : 0 < Nat.gcd a.toInt.toNat b.toInt.toNat := Nat.gcd_pos_of_pos_left _ (by omega)
  by_cases c : d < ((Nat.gcd a.toInt.toNat b.toInt.toNat : Nat) : Int)
  · exact absurd ⟨Nat.gcd_dvd_left _ _, Nat.gcd_dvd_right _ _⟩ (h2 _ c)
  · omega
/-- the reference's divisor -/
theorem z_rm64 {x y r : Int64} (er : r = x - x / y * y) (hx : 0 ≤ x.toInt) (hy : 1 ≤ y.toInt) : r.toInt = ((x.toInt.toNat % y.toInt.toNat : Nat) : Int) := by
  have hh := Int64.toInt_lt x
  have hl := Int64.toInt_lt y
  have e : (x - x / y * y).toInt = x.toInt.tmod y.toInt := by
    rw [Int64.toInt_sub, Int64.toInt_mul, Int64.toInt_div, Int.bmod_mul_bmod, Int.sub_bmod_bmod]
    have e1 : x.toInt - x.toInt.tdiv y.toInt * y.toInt = x.toInt.tmod y.toInt := by
      have := Int.tmod_add_tdiv_mul x.toInt y.toInt
      omega
    have h1 := Int.tmod_nonneg y.toInt hx
    have h2 := Int.tmod_lt_of_pos x.toInt (show 0 < y.toInt by omega)
    rw [e1]
    exact z_bm64 (by omega) (by omega)
  rw [er, e, Int.tmod_eq_emod_of_nonneg hx, Int.natCast_emod, Int.toNat_of_nonneg hx, Int.toNat_of_nonneg (by omega)]
def zEuI (a b x y : Int64) : Prop := 0 ≤ a.toInt → 0 ≤ b.toInt → (0 ≤ x.toInt ∧ 0 ≤ y.toInt) ∧ Nat.gcd x.toInt.toNat y.toInt.toNat = Nat.gcd a.toInt.toNat b.toInt.toNat
theorem z_euI0 {a b : Int64} : zEuI a b a b := fun a0 b0 => ⟨⟨a0, b0⟩, rfl⟩
theorem z_euS {a b x y r : Int64} (h : zEuI a b x y) (y0 : y.toInt ≠ 0) (er : r = x - x / y * y) : zEuI a b y r := fun a0 b0 => by
  obtain ⟨⟨h1, h2⟩, h3⟩ := h a0 b0
  have e := z_rm64 er h1 (by omega)
  refine ⟨⟨h2, by omega⟩, ?_⟩
  rw [← h3, e, Int.toNat_natCast, Nat.gcd_comm x.toInt.toNat, Nat.gcd_rec y.toInt.toNat x.toInt.toNat, Nat.gcd_comm]
theorem z_euE {a b x y : Int64} (h : zEuI a b x y) (a0 : 0 ≤ a.toInt) (b0 : 0 ≤ b.toInt) (y0 : y.toInt = 0) : x.toInt = ((Nat.gcd a.toInt.toNat b.toInt.toNat : Nat) : Int) := by
  obtain ⟨⟨h1, h2⟩, h3⟩ := h a0 b0
  rw [← h3, y0]
  show x.toInt = ((Nat.gcd x.toInt.toNat 0 : Nat) : Int)
  rw [Nat.gcd_zero_right, Int.toNat_of_nonneg h1]
def zHuI (lo : Int32) (l : Int) (u d : Int64) : Prop := 0 ≤ lo.toInt → lo.toInt ≤ 99 → l ≤ 9 → u.toInt = (((100 - lo.toInt).toNat ^ (l - 1).toNat : Nat) : Int) ∧ d.toInt = ((100 ^ (l - 1).toNat : Nat) : Int)
theorem z_hu0 {lo : Int32} {l : Int} (hl : l = 1) : zHuI lo l 1 1 := fun _ _ _ => by
  subst hl
  constructor
  · show (1 : Int64).toInt = (((100 - lo.toInt).toNat ^ 0 : Nat) : Int)
    rw [Nat.pow_zero]
    decide
  · decide
theorem z_huS {lo s : Int32} {l l2 : Int} {u d u2 d2 w : Int64} (h : zHuI lo l u d) (l1 : 1 ≤ l) (hl : l2 = l + 1) (es : s = 100 - lo) (ew : w = s.toInt64) (eu : u2 = u * w) (ed : d2 = d * 100) : zHuI lo l2 u2 d2 := fun a0 a9 l9 => by
  obtain ⟨h1, h2⟩ := h a0 a9 (by omega)
  have e : s.toInt = 100 - lo.toInt := by rw [es]; exact z_sub (by decide) rfl (by omega) (by omega)
  rw [show (l2 - 1).toNat = (l - 1).toNat + 1 by omega]
  exact ⟨z_mul64 eu h1 (by rw [ew, Int32.toInt_toInt64, e]) (by omega) rfl (by omega) (by omega), z_mul64 (b := 100) ed h2 (by decide) (by decide) (by decide) (by decide) (by omega)⟩
theorem z_dv64 {x y q : Int64} (eq : q = x / y) (hx : 0 ≤ x.toInt) (hy : 1 ≤ y.toInt) : q.toInt = ((x.toInt.toNat / y.toInt.toNat : Nat) : Int) := by
  have hh := Int64.toInt_lt x
  have h1 : x.toInt / y.toInt ≤ x.toInt := Int.ediv_le_self _ hx
  have h2 : 0 ≤ x.toInt / y.toInt := Int.ediv_nonneg hx (by omega)
  rw [eq, Int64.toInt_div, Int.tdiv_eq_ediv_of_nonneg hx, z_bm64 (by omega) (by omega), Int.natCast_ediv, Int.toNat_of_nonneg hx, Int.toNat_of_nonneg (by omega)]
/-- how likely -/
def zHmC (h m : Nat) (p : Int) : Int := (((if p = 0 then h / Nat.gcd h 100 else 100 / Nat.gcd h 100) ^ m : Nat) : Int)
def zHmR (h m : Nat) (p : Int) : Int := (((if p = 0 then h ^ m else 100 ^ m) / Nat.gcd (h ^ m) (100 ^ m) : Nat) : Int)
theorem z_hmD : ∀ h : Nat, h < 101 → ∀ m : Nat, m < 9 → 1 ≤ h → (h / Nat.gcd h 100) ^ m = h ^ m / Nat.gcd (h ^ m) (100 ^ m) ∧ (100 / Nat.gcd h 100) ^ m = 100 ^ m / Nat.gcd (h ^ m) (100 ^ m) := by decide +kernel
theorem z_hmU {h m : Nat} {p : Int} (h1 : 1 ≤ h) (h2 : h ≤ 100) (hm : m ≤ 8) : zHmC h m p = zHmR h m p := by
  have w := z_hmD h (by omega) m (by omega) h1
  unfold zHmC zHmR
  by_cases c : p = 0
  · rw [if_pos c, if_pos c, w.1]
  · rw [if_neg c, if_neg c, w.2]
theorem z_hmCE {lo h g b k p : Int32} {L : Int} {r : Int64} (l0 : 0 ≤ lo.toInt) (l9 : lo.toInt ≤ 99) (hh : h.toInt = 100 - lo.toInt) (hg : 1 ≤ h.toInt → 1 ≤ (100 : Int) → g.toInt = ((Nat.gcd h.toInt.toNat 100 : Nat) : Int)) (L1 : 1 ≤ L) (L9 : L ≤ 9) (s : (p.toInt = 0 ∧ b = h / g) ∨ (p.toInt ≠ 0 ∧ b = 100 / g)) (hk : k.toInt = L - 1) (hr : 0 ≤ b.toInt → b.toInt ≤ 100 → 0 ≤ k.toInt → k.toInt ≤ 8 → r.toInt = ((b.toInt.toNat ^ k.toInt.toNat : Nat) : Int)) : r.toInt = zHmC (100 - lo.toInt).toNat (L - 1).toNat p.toInt := by
  have eg := hg (by omega) (by decide)
  have g0 : 0 < Nat.gcd h.toInt.toNat 100 := Nat.gcd_pos_of_pos_right _ (by decide)
  have eh : (100 - lo.toInt).toNat = h.toInt.toNat := by omega
  have egn : g.toInt.toNat = Nat.gcd h.toInt.toNat 100 := by omega
  unfold zHmC
  rw [eh, show (L - 1).toNat = k.toInt.toNat by omega]
  rcases s with ⟨s1, s2⟩ | ⟨s1, s2⟩
  · have e := z_dvN s2 (by omega) (by omega)
    rw [egn] at e
    have le := Nat.div_le_self h.toInt.toNat (Nat.gcd h.toInt.toNat 100)
    rw [if_pos s1, hr (by rw [e]; exact Int.natCast_nonneg _) (by omega) (by omega) (by omega), e, Int.toNat_natCast]
  · have e := z_dvN (x := 100) s2 (by decide) (by omega)
    rw [egn] at e
    have e : b.toInt = ((100 / Nat.gcd h.toInt.toNat 100 : Nat) : Int) := e
    have le := Nat.div_le_self 100 (Nat.gcd h.toInt.toNat 100)
    rw [if_neg s1, hr (by rw [e]; exact Int.natCast_nonneg _) (by omega) (by omega) (by omega), e, Int.toNat_natCast]
theorem z_hmRE {lo p : Int32} {L l : Int} {u d g r x : Int64} (h : zHuI lo l u d) (el : l = L) (L1 : 1 ≤ L) (L9 : L ≤ 9) (s : (p.toInt = 0 ∧ x = u) ∨ (p.toInt ≠ 0 ∧ x = d)) (hg : 0 ≤ u.toInt → 0 ≤ d.toInt → g.toInt = ((Nat.gcd u.toInt.toNat d.toInt.toNat : Nat) : Int)) (er : r = x / g) : 0 ≤ lo.toInt → lo.toInt ≤ 99 → r.toInt = zHmR (100 - lo.toInt).toNat (L - 1).toNat p.toInt := fun a0 a9 => by
  subst el
  obtain ⟨h1, h2⟩ := h a0 a9 L9
  have u0 : 0 ≤ u.toInt := by rw [h1]; exact Int.natCast_nonneg _
  have d9 : 0 ≤ d.toInt := by rw [h2]; exact Int.natCast_nonneg _
  have eg := hg u0 d9
  rw [h1, h2, Int.toNat_natCast, Int.toNat_natCast] at eg
  have d0 : 0 < 100 ^ (l - 1).toNat := Nat.pow_pos (by decide)
  have g0 : 0 < Nat.gcd ((100 - lo.toInt).toNat ^ (l - 1).toNat) (100 ^ (l - 1).toNat) := Nat.gcd_pos_of_pos_right _ d0
  have egn : g.toInt.toNat = Nat.gcd ((100 - lo.toInt).toNat ^ (l - 1).toNat) (100 ^ (l - 1).toNat) := by omega
  unfold zHmR
  rcases s with ⟨s1, s2⟩ | ⟨s1, s2⟩
  · subst s2
    rw [if_pos s1, z_dv64 er u0 (by omega), egn, h1, Int.toNat_natCast]
  · subst s2
    rw [if_neg s1, z_dv64 er d9 (by omega), egn, h2, Int.toNat_natCast]
theorem z_lless {p : Int32} {w y : Int64} (ew : w = p.toInt64) (ey : y = 4000000000000000000 - w) : y.toInt = 4000000000000000000 - p.toInt := by
  have h1 := z_lo p
  have h2 := z_hi p
  rw [ey, Int64.toInt_sub, ew, Int32.toInt_toInt64, show (4000000000000000000 : Int64).toInt = 4000000000000000000 by decide]
  exact z_bm64 (by omega) (by omega)
def zHoR (L p : Int) (w : Prop) (r : Int) : Prop := ((p < 0 ∨ 1 < p) ∧ r = 4000000000000000002) ∨ (0 ≤ p ∧ p ≤ 1 ∧ L = 0 ∧ r = 4000000000000000003) ∨ (0 ≤ p ∧ p ≤ 1 ∧ 9 < L ∧ r = 4000000000000000006) ∨ (0 ≤ p ∧ p ≤ 1 ∧ 0 < L ∧ L ≤ 9 ∧ w)
def zHoC (P L : Int) (G : Nat → ZQ) (tx sz on cu sp ow : Nat → Int32) (ki lo p : Int32) (r : Int64) : Prop := zHoR L p.toInt (∃ y : Int32, zGsC P L G tx sz on cu sp ow ki 3 y ∧ ((y.toInt = 0 ∧ r.toInt = p.toInt) ∨ (y.toInt ≠ 0 ∧ r.toInt = zHmC (100 - lo.toInt).toNat (L - 1).toNat p.toInt))) r.toInt
def zHoM (P L : Int) (wd mn : Nat → Int32) (jk jw : Int32) (kd fg sp wh cu kl : Nat → Int32) (lo p : Int32) (r : Int64) : Prop := zHoR L p.toInt (∃ y : Int32, zGsM P L wd mn jk jw kd fg sp wh cu kl 3 y ∧ ((y.toInt = 0 ∧ r.toInt = p.toInt) ∨ (y.toInt ≠ 0 ∧ (0 ≤ lo.toInt → lo.toInt ≤ 99 → r.toInt = zHmR (100 - lo.toInt).toNat (L - 1).toNat p.toInt)))) r.toInt
theorem z_hoLaw {P L ki Q M jk jw lo lo2 p : Int32} {r r2 : Int64} {G : Nat → ZQ} {sp cu ow on tx sz a1 a2 a3 a4 a5 a6 a7 a8 : Nat → Int32} {i1 i2 i3 : Int} (hC : zHoC P.toInt L.toInt G tx sz on cu sp ow ki lo p r) (hM : zHoM Q.toInt M.toInt a8 a5 jk jw a1 a2 a3 a4 a6 a7 lo2 p r2) (el : lo.toInt = lo2.toInt) (l0 : 0 ≤ lo.toInt) (l9 : lo.toInt ≤ 99) (hr : zRe P L ki sp cu ow on tx sz (zSt a1 a2 a3 a4 a5 a6 a7 a8 i1 i2 i3)) (hk : zKn P.toInt G a1 a2) (hs : sp = a3) (hc : cu = a6) (hP : P.toInt = Q.toInt) (hL : L.toInt = M.toInt) (hL2 : L.toInt ≤ 12) (hP5 : P.toInt ≤ 5) (hP0 : 0 ≤ P.toInt) (hj : jk.toInt = -9) (hsr : zSrR P.toInt sp) : r.toInt = r2.toInt := by
  rcases hC with ⟨a, b⟩ | ⟨a, a2, b, c⟩ | ⟨a, a2, b, c⟩ | ⟨a, a2, b, b2, y, c, d⟩ <;> rcases hM with ⟨e, f⟩ | ⟨e, e2, f, g⟩ | ⟨e, e2, f, g⟩ | ⟨e, e2, f, f2, y2, g, h⟩ <;> try (exfalso; omega)
  · omega
  · omega
  · omega
  · have ey := z_gsLaw c g hr hk hs hc hP hL hL2 hP5 hP0 hj hsr
    rcases d with ⟨d1, d2⟩ | ⟨d1, d2⟩ <;> rcases h with ⟨h1, h2⟩ | ⟨h1, h2⟩ <;> try (exfalso; omega)
    · omega
    · rw [d2, h2 (by omega) (by omega), ← el, ← hL]
      exact z_hmU (by omega) (by omega) (by omega)

