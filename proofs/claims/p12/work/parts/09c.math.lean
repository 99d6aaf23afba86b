/-- the net: steps, what is reached -/
def zStp (af : Nat → Int32) (b : Int32) : Nat → Int32
  | 0 => 0
  | k + 1 => if bt b k = true then zStp af b k ||| af k else zStp af b k
theorem z_stpS {af : Nat → Int32} {b k k2 t t2 y : Int32} (h : t = zStp af b k.toInt.toNat) (k0 : 0 ≤ k.toInt) (hk : k2.toInt = k.toInt + 1) (hb : (y.toInt = 1 ∧ bt b k.toInt.toNat = true) ∨ (y.toInt = 0 ∧ bt b k.toInt.toNat = false)) (s : (y.toInt = 1 ∧ t2 = t ||| af k.toNatClampNeg) ∨ (y.toInt ≠ 1 ∧ t2 = t)) : t2 = zStp af b k2.toInt.toNat := by
  rw [show k2.toInt.toNat = k.toInt.toNat + 1 by omega]
  show t2 = if bt b k.toInt.toNat = true then zStp af b k.toInt.toNat ||| af k.toInt.toNat else zStp af b k.toInt.toNat
  rw [← h]
  rcases s with ⟨s1, s2⟩ | ⟨s1, s2⟩
  · rw [if_pos (z_btT hb s1), s2]
    rfl
  · rw [if_neg (by rw [z_btF hb s1]; decide), s2]
theorem z_stp0 {af : Nat → Int32} {b k : Int32} (hk : k.toInt = 0) : (0 : Int32) = zStp af b k.toInt.toNat := by
  rw [hk]
  rfl
def zRch (af : Nat → Int32) (n : Nat) (b : Int32) : Nat → Int32
  | 0 => b
  | k + 1 => zRch af n b k ||| zStp af (zRch af n b k) n
theorem z_rchS {af : Nat → Int32} {n : Nat} {b k k2 t t2 y : Int32} (h : t = zRch af n b k.toInt.toNat) (k0 : 0 ≤ k.toInt) (hk : k2.toInt = k.toInt + 1) (hy : y = zStp af t n) (h2 : t2 = t ||| y) : t2 = zRch af n b k2.toInt.toNat := by
  rw [show k2.toInt.toNat = k.toInt.toNat + 1 by omega]
  show t2 = zRch af n b k.toInt.toNat ||| zStp af (zRch af n b k.toInt.toNat) n
  rw [← h, ← hy]
  exact h2
theorem z_rch0 {af : Nat → Int32} {n : Nat} {b k : Int32} (hk : k.toInt = 0) : b = zRch af n b k.toInt.toNat := by
  rw [hk]
  rfl
theorem z_rchE {af : Nat → Int32} {n : Nat} {b t : Int32} {k L : Int} (h : t = zRch af n b k.toNat) (e : k = L) : t = zRch af n b L.toNat := by
  rw [← e]
  exact h
theorem z_stpE {af : Nat → Int32} {b t : Int32} {k L : Int} (h : t = zStp af b k.toNat) (e : k = L) : t = zStp af b L.toNat := by
  rw [← e]
  exact h
theorem z_stpC {af fo : Nat → Int32} {b : Int32} : ∀ n : Nat, (∀ l : Nat, l < n → af l = fo l) → zStp af b n = zStp fo b n := by
  intro n
  induction n with
  | zero => intro _; rfl
  | succ n ih =>
    intro h
    show (if bt b n = true then zStp af b n ||| af n else zStp af b n) = if bt b n = true then zStp fo b n ||| fo n else zStp fo b n
    rw [ih (fun l hl => h l (by omega)), h n (by omega)]
theorem z_rchC {af fo : Nat → Int32} {n : Nat} {b : Int32} (h : ∀ l : Nat, l < n → af l = fo l) : ∀ k : Nat, zRch af n b k = zRch fo n b k := by
  intro k
  induction k with
  | zero => rfl
  | succ k ih =>
    show zRch af n b k ||| zStp af (zRch af n b k) n = zRch fo n b k ||| zStp fo (zRch fo n b k) n
    rw [ih, z_stpC n h]
/-- only bits below so many -/
def zCf (n : Nat) (x : Int32) : Prop := ∀ i : Nat, bt x i = true → i < n
theorem z_cfO {n : Nat} {x y : Int32} (hx : zCf n x) (hy : zCf n y) : zCf n (x ||| y) := fun i h => by
  rw [b_or] at h
  rcases (Bool.or_eq_true _ _).mp h with h | h
  · exact hx i h
  · exact hy i h
theorem z_cfS {fo : Nat → Int32} {n m : Nat} {b : Int32} (hf : ∀ l : Nat, l < m → zCf n (fo l)) : ∀ k : Nat, k ≤ m → zCf n (zStp fo b k) := by
  intro k
  induction k with
  | zero => intro _ i h; exact absurd h (by show ¬ bt 0 i = true; rw [b_0]; decide)
  | succ k ih =>
    intro hk
    show zCf n (if bt b k = true then zStp fo b k ||| fo k else zStp fo b k)
    split
    · exact z_cfO (ih (by omega)) (hf k (by omega))
    · exact ih (by omega)
theorem z_cfR {fo : Nat → Int32} {n : Nat} {b : Int32} (hf : ∀ l : Nat, l < n → zCf n (fo l)) (hb : zCf n b) : ∀ k : Nat, zCf n (zRch fo n b k) := by
  intro k
  induction k with
  | zero => exact hb
  | succ k ih => exact z_cfO ih (z_cfS hf n (Nat.le_refl n))
theorem z_rchP {fo : Nat → Int32} {n k : Nat} {b : Int32} (h : zRch fo n b (k + 1) = zRch fo n b k) : ∀ j : Nat, zRch fo n b (k + j) = zRch fo n b k := by
  intro j
  induction j with
  | zero => rfl
  | succ j ih =>
    show zRch fo n b (k + j) ||| zStp fo (zRch fo n b (k + j)) n = zRch fo n b k
    rw [ih]
    exact h
def zCnt (x : Int32) : Nat → Nat
  | 0 => 0
  | k + 1 => zCnt x k + (if bt x k = true then 1 else 0)
theorem z_cntB {x : Int32} : ∀ k : Nat, zCnt x k ≤ k := by
  intro k
  induction k with
  | zero => exact Nat.le_refl _
  | succ k ih =>
    show zCnt x k + (if bt x k = true then 1 else 0) ≤ k + 1
    split <;> omega
theorem z_cntM {x y : Int32} (h : ∀ i : Nat, bt x i = true → bt y i = true) : ∀ k : Nat, zCnt x k ≤ zCnt y k := by
  intro k
  induction k with
  | zero => exact Nat.le_refl _
  | succ k ih =>
    show zCnt x k + (if bt x k = true then 1 else 0) ≤ zCnt y k + (if bt y k = true then 1 else 0)
    by_cases c : bt x k = true
    · rw [if_pos c, if_pos (h k c)]
      omega
    · rw [if_neg c]
      omega
theorem z_cntL {x y : Int32} {i : Nat} (h : ∀ i : Nat, bt x i = true → bt y i = true) (hx : bt x i = false) (hy : bt y i = true) : ∀ k : Nat, i < k → zCnt x k < zCnt y k := by
  intro k
  induction k with
  | zero => intro h0; omega
  | succ k ih =>
    intro hk
    show zCnt x k + (if bt x k = true then 1 else 0) < zCnt y k + (if bt y k = true then 1 else 0)
    by_cases c : i = k
    · rw [← c, if_neg (by rw [hx]; decide), if_pos hy]
      have := z_cntM h i
      omega
    · have := ih (by omega)
      by_cases d : bt x k = true
      · rw [if_pos d, if_pos (h k d)]
        omega
      · rw [if_neg d]
        omega
theorem z_rchG {fo : Nat → Int32} {n : Nat} {b : Int32} (hf : ∀ l : Nat, l < n → zCf n (fo l)) (hb : zCf n b) (k : Nat) (hne : zRch fo n b (k + 1) ≠ zRch fo n b k) : zCnt (zRch fo n b k) n < zCnt (zRch fo n b (k + 1)) n := by
  have mo : ∀ i : Nat, bt (zRch fo n b k) i = true → bt (zRch fo n b (k + 1)) i = true := fun i h => by
    show bt (zRch fo n b k ||| zStp fo (zRch fo n b k) n) i = true
    rw [b_or, h]
    rfl
  have ex : ∃ i : Nat, bt (zRch fo n b k) i ≠ bt (zRch fo n b (k + 1)) i := Classical.byContradiction (fun w => hne (b_ext (fun i _ => Classical.byContradiction (fun v => w ⟨i, fun e => v e.symm⟩))))
  obtain ⟨i, hi⟩ := ex
  have h1 : bt (zRch fo n b k) i = false := by
    cases c : bt (zRch fo n b k) i
    · rfl
    · exact absurd (c.trans (mo i c).symm) hi
  have h2 : bt (zRch fo n b (k + 1)) i = true := by
    cases c : bt (zRch fo n b (k + 1)) i
    · exact absurd (h1.trans c.symm) hi
    · rfl
  exact z_cntL mo h1 h2 n (z_cfR hf hb (k + 1) i h2)
theorem z_rchX {fo : Nat → Int32} {n c0 : Nat} {b : Int32} (hf : ∀ l : Nat, l < n → zCf n (fo l)) (hb : zCf n b) (hc : c0 ≤ zCnt b n) : ∃ k : Nat, k + c0 ≤ n ∧ zRch fo n b (k + 1) = zRch fo n b k := by
  refine Classical.byContradiction (fun w => ?_)
  have hne : ∀ k : Nat, k + c0 ≤ n → zRch fo n b (k + 1) ≠ zRch fo n b k := fun k hk e => w ⟨k, hk, e⟩
  have gr : ∀ k : Nat, k + c0 ≤ n + 1 → k + c0 ≤ zCnt (zRch fo n b k) n := by
    intro k
    induction k with
    | zero => intro _; show 0 + c0 ≤ zCnt b n; omega
    | succ k ih =>
      intro hk
      have := ih (by omega)
      have := z_rchG hf hb k (hne k (by omega))
      omega
  have b1 := z_cntB (x := zRch fo n b (n + 1 - c0)) n
  have b2 := z_cntB (x := b) n
  have := gr (n + 1 - c0) (by omega)
  omega
/-- what is reached in the end -/
theorem z_fixE {fo : Nat → Int32} {n m : Nat} {b : Int32} (hf : ∀ l : Nat, l < n → zCf n (fo l)) (hb : zCf n b) (hm : zRch fo n b (m + 1) = zRch fo n b m) : zRch fo n b m = zRch fo n b n := by
  obtain ⟨k, k1, k2⟩ := z_rchX (c0 := 0) hf hb (Nat.zero_le _)
  have p1 := z_rchP k2 (n - k)
  rw [show k + (n - k) = n by omega] at p1
  rw [p1]
  by_cases c : k ≤ m
  · have p2 := z_rchP k2 (m - k)
    rw [show k + (m - k) = m by omega] at p2
    exact p2
  · have p2 := z_rchP hm (k - m)
    rw [show m + (k - m) = k by omega] at p2
    exact p2.symm
/-- the follow bits as a function -/
theorem z_bqX (Q : Nat → Prop) : ∀ m : Nat, m < 12 → ∃ x : Int32, zBq Q ((m : Int) + 1) x := by
  intro m
  induction m with
  | zero => intro _; exact ⟨0, z_bq0 (by omega)⟩
  | succ m ih =>
    intro hm
    obtain ⟨x, h⟩ := ih (by omega)
    have e1 : (zIo ((m : Int) + 1)).toInt = (m : Int) + 1 := z_ioT (by omega) (by omega)
    have e2 : (zIo ((m : Int) + 2)).toInt = (m : Int) + 2 := z_ioT (by omega) (by omega)
    have en : (zIo ((m : Int) + 1)).toInt.toNat = m + 1 := by omega
    by_cases c : Q (m + 1)
    · have w := z_bqS (k := zIo ((m : Int) + 1)) (k2 := zIo ((m : Int) + 2)) (y := x ||| ((1 : Int32) <<< (zIo ((m : Int) + 1) &&& 31))) (by rw [e1]; exact h) (by omega) (by omega) (by omega) (Or.inl ⟨by rw [en]; exact c, _, rfl, rfl⟩)
      rw [e2] at w
      exact ⟨_, by rw [show (((m + 1 : Nat) : Int) + 1) = (m : Int) + 2 by omega]; exact w⟩
    · have w := z_bqS (k := zIo ((m : Int) + 1)) (k2 := zIo ((m : Int) + 2)) (y := x ||| 0) (by rw [e1]; exact h) (by omega) (by omega) (by omega) (Or.inr ⟨by rw [en]; exact c, rfl⟩)
      rw [e2] at w
      exact ⟨_, by rw [show (((m + 1 : Nat) : Int) + 1) = (m : Int) + 2 by omega]; exact w⟩
noncomputable def zFoF (wd mn : Nat → Int32) (jk jw : Int32) (kd fg wh cu : Nat → Int32) (L : Int) (l : Nat) : Int32 := Classical.epsilon (fun x => zBq (zFq wd mn jk jw kd fg wh cu (l : Int)) L x)
theorem z_foFS {wd mn : Nat → Int32} {jk jw : Int32} {kd fg wh cu : Nat → Int32} {L : Int} {l : Nat} (L0 : 0 < L) (L12 : L ≤ 12) : zBq (zFq wd mn jk jw kd fg wh cu (l : Int)) L (zFoF wd mn jk jw kd fg wh cu L l) := by
  obtain ⟨x, h⟩ := z_bqX (zFq wd mn jk jw kd fg wh cu (l : Int)) (L - 1).toNat (by omega)
  rw [show (((L - 1).toNat : Nat) : Int) + 1 = L by omega] at h
  exact Classical.epsilon_spec (p := fun x => zBq (zFq wd mn jk jw kd fg wh cu (l : Int)) L x) ⟨x, h⟩
theorem z_bqU {Q : Nat → Prop} {L : Int} {x y : Int32} (h : zBq Q L x) (h2 : zBq Q L y) : x = y := z_b12E h.1 h2.1 (fun i hi => by
  have e : bt x i = true ↔ bt y i = true := (h.2 i hi).trans (h2.2 i hi).symm
  cases c : bt x i <;> cases d : bt y i
  · rfl
  · rw [c, d] at e; exact absurd (e.mpr rfl) (by decide)
  · rw [c, d] at e; exact absurd (e.mp rfl) (by decide)
  · rfl)
theorem z_foFE {wd mn : Nat → Int32} {jk jw : Int32} {kd fg wh cu : Nat → Int32} {L : Int} {l y : Int32} (h : zBq (zFq wd mn jk jw kd fg wh cu l.toInt) L y) (l0 : 0 ≤ l.toInt) (L0 : 0 < L) (L12 : L ≤ 12) : y = zFoF wd mn jk jw kd fg wh cu L l.toNatClampNeg := by
  refine z_bqU h ?_
  have w := z_foFS (wd := wd) (mn := mn) (jk := jk) (jw := jw) (kd := kd) (fg := fg) (wh := wh) (cu := cu) (l := l.toNatClampNeg) L0 L12
  rw [z_cl l0] at w
  exact w
theorem z_bqC {Q : Nat → Prop} {L : Int} {x : Int32} (h : zBq Q L x) : zCf L.toNat x := fun i hi => by
  by_cases c : i < 12
  · have := (h.2 i c).mp hi
    omega
  · by_cases d : i < 32
    · rw [h.1 i (by omega) d] at hi
      exact absurd hi (by decide)
    · rw [b_big (by omega)] at hi
      exact absurd hi (by decide)
theorem z_cf1 {n : Nat} (h : 0 < n) : zCf n 1 := fun i hi => by
  by_cases d : i < 32
  · have w : ∀ i : Nat, i < 32 → bt (1 : Int32) i = decide (i = 0) := by decide +kernel
    rw [w i d] at hi
    have := of_decide_eq_true hi
    omega
  · rw [b_big (by omega)] at hi
    exact absurd hi (by decide)
theorem z_cnt1 {n : Nat} (h : 0 < n) : 1 ≤ zCnt 1 n := by
  have : ∀ k : Nat, 0 < k → 1 ≤ zCnt 1 k := by
    intro k
    induction k with
    | zero => intro h0; omega
    | succ k ih =>
      intro _
      show 1 ≤ zCnt 1 k + (if bt 1 k = true then 1 else 0)
      by_cases c : k = 0
      · rw [c, if_pos (by decide)]
        omega
      · have := ih (by omega)
        omega
  exact this n h
/-- the net: the fewest steps, rounds, whether it is sure -/
theorem z_stpZ {af : Nat → Int32} {b k k2 t t2 y : Int32} (h : t = zStp af b k.toInt.toNat) (k0 : 0 ≤ k.toInt) (hk : k2.toInt = k.toInt + 1) (hb : (y.toInt = 1 ∧ bt b k.toInt.toNat = true) ∨ (y.toInt = 0 ∧ bt b k.toInt.toNat = false)) (s : (y.toInt = 1 ∧ ∃ w : Int32, w = af k.toNatClampNeg ∧ t2 = t ||| w) ∨ (y.toInt ≠ 1 ∧ (t2 = t ∨ t2 = t ||| 0))) : t2 = zStp af b k2.toInt.toNat := by
  refine z_stpS h k0 hk hb ?_
  rcases s with ⟨s1, w, s2, s3⟩ | ⟨s1, s2⟩
  · exact Or.inl ⟨s1, by rw [s3, s2]⟩
  · rcases s2 with s2 | s2
    · exact Or.inr ⟨s1, s2⟩
    · exact Or.inr ⟨s1, by rw [s2, z_or0]⟩
def zFwI (af : Nat → Int32) (n : Nat) (k : Int) (t : Int32) : Prop := t = zRch af n 1 k.toNat ∧ ∀ q : Nat, (q : Int) < k → bt (zRch af n 1 q) (n - 1) = false
theorem z_fwI0 {af : Nat → Int32} {n : Nat} {k : Int} (h : k = 0) : zFwI af n k 1 := ⟨by rw [h]; rfl, fun q hq => by omega⟩
theorem z_fwIS {af : Nat → Int32} {n : Nat} {k k2 t t2 y u w : Int32} (h : zFwI af n k.toInt t) (k0 : 0 ≤ k.toInt) (hk : k2.toInt = k.toInt + 1) (hu : u.toInt = (n : Int) - 1) (n0 : 0 < n) (hb : (y.toInt = 1 ∧ bt t u.toInt.toNat = true) ∨ (y.toInt = 0 ∧ bt t u.toInt.toNat = false)) (hy : y.toInt ≠ 1) (hs : w = zStp af t n) (h2 : t2 = t ||| w) : zFwI af n k2.toInt t2 := by
  refine ⟨?_, fun q hq => ?_⟩
  · rw [show k2.toInt.toNat = k.toInt.toNat + 1 by omega]
    show t2 = zRch af n 1 k.toInt.toNat ||| zStp af (zRch af n 1 k.toInt.toNat) n
    rw [← h.1, ← hs]
    exact h2
  · by_cases c : q = k.toInt.toNat
    · rw [c, ← h.1, show n - 1 = u.toInt.toNat by omega]
      exact z_btF hb hy
    · exact h.2 q (by omega)
def zFwP (af : Nat → Int32) (n m : Nat) (r : Int) : Prop := (0 ≤ r ∧ r < (m : Int) ∧ bt (zRch af n 1 r.toNat) (n - 1) = true ∧ ∀ q : Nat, (q : Int) < r → bt (zRch af n 1 q) (n - 1) = false) ∨ (r = -9 ∧ ∀ q : Nat, q < m → bt (zRch af n 1 q) (n - 1) = false)
theorem z_fwT {af : Nat → Int32} {n m : Nat} {k t y u : Int32} (h : zFwI af n k.toInt t) (k0 : 0 ≤ k.toInt) (km : k.toInt < (m : Int)) (hu : u.toInt = (n : Int) - 1) (n0 : 0 < n) (hb : (y.toInt = 1 ∧ bt t u.toInt.toNat = true) ∨ (y.toInt = 0 ∧ bt t u.toInt.toNat = false)) (hy : y.toInt = 1) : zFwP af n m k.toInt := Or.inl ⟨k0, km, by rw [← h.1, show n - 1 = u.toInt.toNat by omega]; exact z_btT hb hy, h.2⟩
theorem z_fwN {af : Nat → Int32} {n m : Nat} {k r : Int} {t : Int32} (h : zFwI af n k t) (km : (m : Int) ≤ k) (hr : r = -9) : zFwP af n m r := Or.inr ⟨hr, fun q hq => h.2 q (by omega)⟩
theorem z_fwU9 {fo : Nat → Int32} {n : Nat} {r r2 : Int} (hf : ∀ l : Nat, l < n → zCf n (fo l)) (n0 : 0 < n) (n12 : n ≤ 12) (h : zFwP fo n n r) (h2 : zFwP fo n 12 r2) : r = r2 := by
  obtain ⟨k, k1, k2⟩ := z_rchX (c0 := 1) hf (z_cf1 n0) (z_cnt1 n0)
  have st : ∀ j : Nat, k ≤ j → zRch fo n 1 j = zRch fo n 1 k := fun j hj => by
    have w := z_rchP k2 (j - k)
    rw [show k + (j - k) = j by omega] at w
    exact w
  rcases h with ⟨a0, a1, a2, a3⟩ | ⟨a0, a1⟩ <;> rcases h2 with ⟨b0, b1, b2, b3⟩ | ⟨b0, b1⟩
  · rcases Int.lt_trichotomy r r2 with c | c | c
    · have w := b3 r.toNat (by omega)
      rw [a2] at w
      exact absurd w (by decide)
    · exact c
    · have w := a3 r2.toNat (by omega)
      rw [b2] at w
      exact absurd w (by decide)
  · have w := b1 r.toNat (by omega)
    rw [a2] at w
    exact absurd w (by decide)
  · by_cases c : r2.toNat < n
    · have w := a1 r2.toNat c
      rw [b2] at w
      exact absurd w (by decide)
    · have w := a1 k (by omega)
      rw [← st r2.toNat (by omega), b2] at w
      exact absurd w (by decide)
  · omega
def zRdI (af : Nat → Int32) (n : Nat) (R : Int32) (k : Int) : Prop := ∀ q : Nat, (q : Int) < k → ¬ (bt R q = true ∧ bt (zRch af n (af q) n) q = true)
theorem z_rdI0 {af : Nat → Int32} {n : Nat} {R : Int32} {k : Int} (h : k = 0) : zRdI af n R k := fun q hq => by omega
theorem z_rdN1 {af : Nat → Int32} {n : Nat} {R k k2 y : Int32} (h : zRdI af n R k.toInt) (k0 : 0 ≤ k.toInt) (hk : k2.toInt = k.toInt + 1) (hb : (y.toInt = 1 ∧ bt R k.toInt.toNat = true) ∨ (y.toInt = 0 ∧ bt R k.toInt.toNat = false)) (hy : y.toInt ≠ 1) : zRdI af n R k2.toInt := fun q hq w => by
  by_cases c : q = k.toInt.toNat
  · have v := z_btF hb hy
    rw [← c, w.1] at v
    exact absurd v (by decide)
  · exact h q (by omega) w
theorem z_rdN2 {af : Nat → Int32} {n : Nat} {R k k2 y a w : Int32} (h : zRdI af n R k.toInt) (k0 : 0 ≤ k.toInt) (hk : k2.toInt = k.toInt + 1) (ea : a = af k.toNatClampNeg) (hw : w = zRch af n a n) (hb : (y.toInt = 1 ∧ bt w k.toInt.toNat = true) ∨ (y.toInt = 0 ∧ bt w k.toInt.toNat = false)) (hy : y.toInt ≠ 1) : zRdI af n R k2.toInt := fun q hq v => by
  by_cases c : q = k.toInt.toNat
  · have u := z_btF hb hy
    rw [hw, ea, show k.toNatClampNeg = q from c.symm, ← c, v.2] at u
    exact absurd u (by decide)
  · exact h q (by omega) v
def zRnd (af : Nat → Int32) (n : Nat) : Prop := ∃ q : Nat, q < n ∧ bt (zRch af n 1 n) q = true ∧ bt (zRch af n (af q) n) q = true
theorem z_rdT {af : Nat → Int32} {n : Nat} {R k y y2 a w : Int32} {r : Int} (hR : R = zRch af n 1 n) (k0 : 0 ≤ k.toInt) (kn : k.toInt < (n : Int)) (hb : (y.toInt = 1 ∧ bt R k.toInt.toNat = true) ∨ (y.toInt = 0 ∧ bt R k.toInt.toNat = false)) (hy : y.toInt = 1) (ea : a = af k.toNatClampNeg) (hw : w = zRch af n a n) (hb2 : (y2.toInt = 1 ∧ bt w k.toInt.toNat = true) ∨ (y2.toInt = 0 ∧ bt w k.toInt.toNat = false)) (hy2 : y2.toInt = 1) (hr : r = 1) : zYn (zRnd af n) r := by
  refine Or.inl ⟨hr, k.toInt.toNat, by omega, by rw [← hR]; exact z_btT hb hy, ?_⟩
  have v := z_btT hb2 hy2
  rw [hw, ea] at v
  exact v
theorem z_rdF {af : Nat → Int32} {n : Nat} {R : Int32} {k r : Int} (h : zRdI af n R k) (hR : R = zRch af n 1 n) (kn : (n : Int) ≤ k) (hr : r = 0) : zYn (zRnd af n) r := Or.inr ⟨hr, fun ⟨q, q1, q2, q3⟩ => h q (by omega) ⟨by rw [hR]; exact q2, q3⟩⟩
def zDue (n q : Nat) : Int32 := if q + 1 < n then (1 : Int32) <<< (zIo ((q : Int) + 1) &&& 31) else 0
def zSuI (af : Nat → Int32) (n : Nat) (k : Int) : Prop := ∀ q : Nat, (q : Int) < k → af q = zDue n q
theorem z_suI0 {af : Nat → Int32} {n : Nat} {k : Int} (h : k = 0) : zSuI af n k := fun q hq => by omega
theorem z_due {n : Nat} {k d : Int32} (k0 : 0 ≤ k.toInt) (s : (k.toInt + 1 < (n : Int) ∧ ∃ u : Int32, u.toInt = k.toInt + 1 ∧ d = (1 : Int32) <<< (u &&& 31)) ∨ (¬ k.toInt + 1 < (n : Int) ∧ d = 0)) : d = zDue n k.toInt.toNat := by
  unfold zDue
  rcases s with ⟨s1, u, s2, s3⟩ | ⟨s1, s2⟩
  · rw [if_pos (by omega), s3, z_io (x := u) (v := ((k.toInt.toNat : Nat) : Int) + 1) (by omega)]
  · rw [if_neg (by omega)]
    exact s2
theorem z_suS {af : Nat → Int32} {n : Nat} {k k2 a d : Int32} (h : zSuI af n k.toInt) (k0 : 0 ≤ k.toInt) (hk : k2.toInt = k.toInt + 1) (ea : a = af k.toNatClampNeg) (e : a.toInt = d.toInt) (s : (k.toInt + 1 < (n : Int) ∧ ∃ u : Int32, u.toInt = k.toInt + 1 ∧ d = (1 : Int32) <<< (u &&& 31)) ∨ (¬ k.toInt + 1 < (n : Int) ∧ d = 0)) : zSuI af n k2.toInt := fun q hq => by
  by_cases c : q = k.toInt.toNat
  · rw [c, ← z_due k0 s, ← z_i32 e, ea]
    rfl
  · exact h q (by omega)
theorem z_suT {af : Nat → Int32} {n : Nat} {k r : Int} (h : zSuI af n k) (kn : (n : Int) ≤ k) (hr : r = 1) : zYn (zSuI af n (n : Int)) r := Or.inl ⟨hr, fun q hq => h q (by omega)⟩
theorem z_suF {af : Nat → Int32} {n : Nat} {k a d : Int32} {r : Int} (k0 : 0 ≤ k.toInt) (kn : k.toInt < (n : Int)) (ea : a = af k.toNatClampNeg) (e : a.toInt ≠ d.toInt) (s : (k.toInt + 1 < (n : Int) ∧ ∃ u : Int32, u.toInt = k.toInt + 1 ∧ d = (1 : Int32) <<< (u &&& 31)) ∨ (¬ k.toInt + 1 < (n : Int) ∧ d = 0)) (hr : r = 0) : zYn (zSuI af n (n : Int)) r := Or.inr ⟨hr, fun w => e (by
  have v := w k.toInt.toNat (by omega)
  rw [← z_due k0 s] at v
  rw [ea, ← v]
  rfl)⟩
/-- the reference: what is reached -/
def zRfI (fo : Nat → Int32) (n : Nat) (b was now : Int32) : Prop := (was = -1 ∧ now = b) ∨ ∃ k : Nat, was = zRch fo n b k ∧ now = zRch fo n b (k + 1)
theorem z_rfI0 {fo : Nat → Int32} {n : Nat} {b : Int32} : zRfI fo n b (-1) b := Or.inl ⟨rfl, rfl⟩
theorem z_rfIS {fo : Nat → Int32} {n : Nat} {b was now w t : Int32} (h : zRfI fo n b was now) (hw : w = zStp fo now n) (ht : t = now ||| w) : zRfI fo n b now t := by
  rcases h with ⟨h1, h2⟩ | ⟨k, h1, h2⟩
  · refine Or.inr ⟨0, h2, ?_⟩
    show t = b ||| zStp fo b n
    rw [ht, hw, h2]
  · refine Or.inr ⟨k + 1, h2, ?_⟩
    show t = zRch fo n b (k + 1) ||| zStp fo (zRch fo n b (k + 1)) n
    rw [ht, hw, h2]
theorem z_foC {wd mn : Nat → Int32} {jk jw : Int32} {kd fg wh cu : Nat → Int32} {L : Int} (L12 : L ≤ 12) : ∀ l : Nat, l < L.toNat → zCf L.toNat (zFoF wd mn jk jw kd fg wh cu L l) := fun l hl => z_bqC (z_foFS (by omega) L12)
theorem z_rfE {wd mn : Nat → Int32} {jk jw : Int32} {kd fg wh cu : Nat → Int32} {L : Int} {b was now : Int32} (h : zRfI (zFoF wd mn jk jw kd fg wh cu L) L.toNat b was now) (e : now.toInt = was.toInt) (L12 : L ≤ 12) : zCf L.toNat b → now = zRch (zFoF wd mn jk jw kd fg wh cu L) L.toNat b L.toNat := by
  intro hb
  have e2 := z_i32 e
  rcases h with ⟨h1, h2⟩ | ⟨k, h1, h2⟩
  · have w := hb 31 (by rw [← h2, e2, h1]; decide)
    omega
  · rw [h2]
    rw [h2, h1] at e2
    rw [e2]
    exact z_fixE (z_foC L12) hb e2
/-- net -/
def zNe4 (af : Nat → Int32) (n m : Nat) (p : Int) (r : Int32) : Prop := (p = 0 ∧ r = zRch af n 1 n) ∨ (p = 1 ∧ zFwP af n m r.toInt) ∨ (p = 2 ∧ zYn (zRnd af n) r.toInt) ∨ (p = 3 ∧ zYn (zSuI af n (n : Int)) r.toInt)
def zNeC (P L : Int) (G : Nat → ZQ) (tx sz on cu ow : Nat → Int32) (p r : Int32) : Prop := ((p.toInt < 0 ∨ 3 < p.toInt) ∧ r.toInt = -2) ∨ (0 ≤ p.toInt ∧ p.toInt ≤ 3 ∧ L = 0 ∧ r.toInt = -3) ∨ (0 ≤ p.toInt ∧ p.toInt ≤ 3 ∧ L ≠ 0 ∧ ∃ af : Nat → Int32, zWs P L G tx sz on cu ow af L ∧ zNe4 af L.toNat L.toNat p.toInt r)
def zNeM (wd mn : Nat → Int32) (jk jw : Int32) (kd fg wh cu : Nat → Int32) (L : Int) (p r : Int32) : Prop := ((p.toInt < 0 ∨ 3 < p.toInt) ∧ r.toInt = -2) ∨ (0 ≤ p.toInt ∧ p.toInt ≤ 3 ∧ L = 0 ∧ r.toInt = -3) ∨ (0 ≤ p.toInt ∧ p.toInt ≤ 3 ∧ L ≠ 0 ∧ zNe4 (zFoF wd mn jk jw kd fg wh cu L) L.toNat 12 p.toInt r)
theorem z_ynU9 {p q : Prop} {r r2 : Int} (h : zYn p r) (h2 : zYn q r2) (e : p ↔ q) : r = r2 := by
  rcases h with ⟨a, b⟩ | ⟨a, b⟩ <;> rcases h2 with ⟨c, d⟩ | ⟨c, d⟩
  · omega
  · exact absurd (e.mp b) d
  · exact absurd (e.mpr d) b
  · omega
theorem z_neU {af fo : Nat → Int32} {n : Nat} {p : Int} {r r2 : Int32} (e : ∀ l : Nat, l < n → af l = fo l) (hf : ∀ l : Nat, l < n → zCf n (fo l)) (n0 : 0 < n) (n12 : n ≤ 12) (h : zNe4 af n n p r) (h2 : zNe4 fo n 12 p r2) : r.toInt = r2.toInt := by
  have er : ∀ (b : Int32) (k : Nat), zRch af n b k = zRch fo n b k := fun b k => z_rchC e k
  rcases h with ⟨a, h⟩ | ⟨a, h⟩ | ⟨a, h⟩ | ⟨a, h⟩ <;> rcases h2 with ⟨b, h2⟩ | ⟨b, h2⟩ | ⟨b, h2⟩ | ⟨b, h2⟩ <;> try (exfalso; omega)
  · rw [h, h2, er]
  · refine z_fwU9 hf n0 n12 ?_ h2
    unfold zFwP at h ⊢
    simp only [er] at h
    exact h
  · refine z_ynU9 h h2 ⟨fun ⟨q, q1, q2, q3⟩ => ⟨q, q1, ?_, ?_⟩, fun ⟨q, q1, q2, q3⟩ => ⟨q, q1, ?_, ?_⟩⟩
    · rw [← er]; exact q2
    · rw [← e q q1, ← er]; exact q3
    · rw [er]; exact q2
    · rw [e q q1, er]; exact q3
  · exact z_ynU9 h h2 ⟨fun w q hq => by rw [← e q (by omega)]; exact w q hq, fun w q hq => by rw [e q (by omega)]; exact w q hq⟩
theorem z_neLaw {P L ki M jk jw p r r2 : Int32} {G : Nat → ZQ} {sp cu ow on tx sz a1 a2 a3 a4 a5 a6 a7 a8 : Nat → Int32} {i1 i2 i3 : Int} (hC : zNeC P.toInt L.toInt G tx sz on cu ow p r) (hM : zNeM a8 a5 jk jw a1 a2 a4 a6 M.toInt p r2) (hr : zRe P L ki sp cu ow on tx sz (zSt a1 a2 a3 a4 a5 a6 a7 a8 i1 i2 i3)) (hk : zKn P.toInt G a1 a2) (hc : cu = a6) (hL : L.toInt = M.toInt) (hL0 : 0 ≤ L.toInt) (hL2 : L.toInt ≤ 12) (hj : jk.toInt = -9) : r.toInt = r2.toInt := by
  subst hc
  rcases hC with ⟨a, b⟩ | ⟨a, a2, b, c⟩ | ⟨a, a2, b, af, c, d⟩ <;> rcases hM with ⟨e, f⟩ | ⟨e, e2, f, g⟩ | ⟨e, e2, f, g⟩ <;> try (exfalso; omega)
  · omega
  · omega
  · rw [← hL] at g
    refine z_neU (fun l hl => ?_) (z_foC hL2) (by omega) (by omega) d g
    have e1 : (zIo (l : Int)).toInt = (l : Int) := z_ioT (by omega) (by omega)
    have e3 : (zIo (l : Int)).toNatClampNeg = l := by
      show (zIo (l : Int)).toInt.toNat = l
      omega
    refine z_foEq (M := L) (jw := jw) (p := zIo (l : Int)) (r := af l) ?_ ?_ (z_pyRe hr hL2 hk) (z_reOw hr) (fun l hl => (hr.2.2.1 l (by omega)).2.1) rfl hj (by omega)
    · intro wd mn kd fg wh H hA hw
      rw [e3]
      exact c wd mn kd fg wh H hA hw l (by omega)
    · rw [e1]
      exact z_foFS (by omega) hL2
/-- kinds: all that is neither 1, 4 nor 5 goes as 0 -/
def zKz (k : Int) : Int := if k = 1 ∨ k = 4 ∨ k = 5 then k else 0
theorem z_kz {k : Int} : (0 ≤ zKz k ∧ zKz k ≤ 5) ∧ (zKz k = 1 ↔ k = 1) ∧ (zKz k = 4 ↔ k = 4) ∧ (zKz k = 5 ↔ k = 5) := by
  unfold zKz
  split <;> omega
theorem z_chIz {k j f : Int} {O C S : Nat → Prop} (h : zChI k O C S j f) : zChI (zKz k) O C S j f := by
  obtain ⟨-, e1, -, e5⟩ := z_kz (k := k)
  obtain ⟨h1, h2, h3⟩ := h
  exact ⟨fun q => h1 (e1.mp q), fun q => h2 (e5.mp q), fun q w => h3 (fun v => q (e1.mpr v)) (fun v => w (e5.mpr v))⟩
theorem z_cwZ {dd : Bool} {k L p r : Int} {wh : Nat → Int32} {C S : Nat → Prop} (h : zCwA dd (zKz k) L wh C S p r) : 0 ≤ k → k ≤ 5 → zCwA dd k L wh C S p r := by
  intro k0 k5
  obtain ⟨-, e1, e4, e5⟩ := z_kz (k := k)
  rcases h with h | ⟨h1, h2⟩
  · exact Or.inl h
  · refine Or.inr ⟨h1, ?_⟩
    rcases h2 with ⟨a, b⟩ | ⟨a, b⟩ | ⟨a, b⟩ | ⟨a, b⟩
    · exact Or.inl ⟨e4.mp a, b⟩
    · exact Or.inr (Or.inl ⟨e1.mp a, b⟩)
    · exact Or.inr (Or.inr (Or.inl ⟨e5.mp a, b⟩))
    · refine Or.inr (Or.inr (Or.inr ⟨?_, b⟩))
      omega
noncomputable def zCz (L : Int) (kd wh : Nat → Int32) (C : Nat → Prop) (sd dd : Int32) (q : Nat) : Int := zCom (fun q => bt dd q) (fun q => zKz (kd q).toInt) L wh C (fun j => bt sd j = true) q
theorem z_czE {L r : Int} {kd wh : Nat → Int32} {C : Nat → Prop} {sd dd p : Int32} (p0 : 0 ≤ p.toInt) (h : zCwA (bt dd p.toInt.toNat) (zKz (kd p.toNatClampNeg).toInt) L wh C (fun j => bt sd j = true) p.toInt r) : r = zCz L kd wh C sd dd p.toInt.toNat := by
  have hp : ((p.toInt.toNat : Nat) : Int) = p.toInt := Int.toNat_of_nonneg p0
  show r = zCom (fun q => bt dd q) (fun q => zKz (kd q).toInt) L wh C (fun j => bt sd j = true) p.toInt.toNat
  refine z_comE (dd := fun q => bt dd q) (kd := fun q => zKz (kd q).toInt) ?_
  rw [hp]
  exact h
theorem z_czR {L : Int} {kd wh : Nat → Int32} {C : Nat → Prop} {sd dd : Int32} {q : Nat} (hL : L ≤ 12) : zCz L kd wh C sd dd q = -9 ∨ (0 ≤ zCz L kd wh C sd dd q ∧ zCz L kd wh C sd dd q < L) := z_comR (dd := fun q => bt dd q) (kd := fun q => zKz (kd q).toInt) z_kz.1.1 z_kz.1.2 hL
theorem z_czQ {L : Int} {kd wh : Nat → Int32} {C : Nat → Prop} {sd dd : Int32} {q : Nat} (k0 : 0 ≤ (kd q).toInt) (k5 : (kd q).toInt ≤ 5) : zCz L kd wh C sd dd q = zCom (fun q => bt dd q) (fun q => (kd q).toInt) L wh C (fun j => bt sd j = true) q :=
  z_comE (dd := fun q => bt dd q) (kd := fun q => (kd q).toInt) (z_cwZ (z_comX (dd := fun q => bt dd q) (kd := fun q => zKz (kd q).toInt) z_kz.1.1 z_kz.1.2) k0 k5)
/-- how many come -/
def zNc (com : Nat → Int) : Nat → Int
  | 0 => 0
  | k + 1 => zNc com k + (if com k = -9 then 0 else 1)
theorem z_nc0 {com : Nat → Int} {p n : Int} (hp : p = 0) (hn : n = 0) : n = zNc com p.toNat := by
  rw [hp, hn]
  rfl
theorem z_ncS {com : Nat → Int} {n n2 y : Int} {p p2 : Int32} (h : n = zNc com p.toInt.toNat) (p0 : 0 ≤ p.toInt) (hp : p2.toInt = p.toInt + 1) (hy : y = com p.toInt.toNat) (s : (y ≠ -9 ∧ n2 = n + 1) ∨ (y = -9 ∧ n2 = n)) : n2 = zNc com p2.toInt.toNat := by
  rw [show p2.toInt.toNat = p.toInt.toNat + 1 by omega]
  show n2 = zNc com p.toInt.toNat + (if com p.toInt.toNat = -9 then 0 else 1)
  rw [← h, ← hy]
  rcases s with ⟨s1, s2⟩ | ⟨s1, s2⟩
  · rw [if_neg s1, s2]
  · rw [if_pos s1, s2]
    omega
theorem z_ncP {com : Nat → Int} : ∀ k : Nat, 0 ≤ zNc com k ∧ zNc com k ≤ (k : Int) := by
  intro k
  induction k with
  | zero => exact ⟨Int.le_refl _, Int.le_refl _⟩
  | succ k ih =>
    show 0 ≤ zNc com k + (if com k = -9 then 0 else 1) ∧ zNc com k + (if com k = -9 then 0 else 1) ≤ ((k + 1 : Nat) : Int)
    split <;> omega
theorem z_ncM {com : Nat → Int} {a : Nat} : ∀ d : Nat, zNc com a ≤ zNc com (a + d) := by
  intro d
  induction d with
  | zero => exact Int.le_refl _
  | succ d ih =>
    show zNc com a ≤ zNc com (a + d) + (if com (a + d) = -9 then 0 else 1)
    split <;> omega
theorem z_ncL {com : Nat → Int} {a b : Nat} (h : com a ≠ -9) (hb : a < b) : zNc com a + 1 ≤ zNc com b := by
  have w := z_ncM (com := com) (a := a + 1) (b - (a + 1))
  rw [show a + 1 + (b - (a + 1)) = b by omega] at w
  have u : zNc com (a + 1) = zNc com a + 1 := by
    show zNc com a + (if com a = -9 then 0 else 1) = zNc com a + 1
    rw [if_neg h]
  omega
theorem z_ncC {com com2 : Nat → Int} : ∀ k : Nat, (∀ q : Nat, q < k → com q = com2 q) → zNc com k = zNc com2 k := by
  intro k
  induction k with
  | zero => intro _; rfl
  | succ k ih =>
    intro h
    show zNc com k + (if com k = -9 then 0 else 1) = zNc com2 k + (if com2 k = -9 then 0 else 1)
    rw [ih (fun q hq => h q (by omega)), h k (by omega)]
def zPk (com : Nat → Int) (P k r : Int) : Prop := ∃ p : Nat, (p : Int) < P ∧ com p ≠ -9 ∧ r = com p ∧ zNc com p = k
theorem z_pkX {com : Nat → Int} {k : Int} (k0 : 0 ≤ k) : ∀ n : Nat, k < zNc com n → ∃ p : Nat, p < n ∧ com p ≠ -9 ∧ zNc com p = k := by
  intro n
  induction n with
  | zero => intro h; exact absurd h (by show ¬ k < 0; omega)
  | succ n ih =>
    intro h
    have h : k < zNc com n + (if com n = -9 then 0 else 1) := h
    by_cases c : k < zNc com n
    · obtain ⟨p, p1, p2, p3⟩ := ih c
      exact ⟨p, by omega, p2, p3⟩
    · by_cases d : com n = -9
      · rw [if_pos d] at h
        omega
      · rw [if_neg d] at h
        exact ⟨n, by omega, d, by omega⟩
theorem z_pkC {com com2 : Nat → Int} {P k r : Int} (h : zPk com P k r) (e : ∀ q : Nat, (q : Int) < P → com q = com2 q) : zPk com2 P k r := by
  obtain ⟨p, a1, a2, a3, a4⟩ := h
  exact ⟨p, a1, by rw [← e p a1]; exact a2, by rw [← e p a1]; exact a3, by rw [← z_ncC p (fun q hq => e q (by omega))]; exact a4⟩
theorem z_pkU {com : Nat → Int} {P k r r2 : Int} (h : zPk com P k r) (h2 : zPk com P k r2) : r = r2 := by
  obtain ⟨p, a1, a2, a3, a4⟩ := h
  obtain ⟨q, b1, b2, b3, b4⟩ := h2
  rcases Nat.lt_trichotomy p q with c | c | c
  · have := z_ncL a2 c
    omega
  · rw [a3, b3, c]
  · have := z_ncL b2 c
    omega
def zSd (z : Int32) : Int32 := z * 1103515245 + 12345
def zRm (x n : Int32) : Int32 := x - x / n * n
def zDrw (z : Int32) (c : Int) : Int := (zRm ((z &&& 2147483647) / 65536) (zIo c)).toInt
theorem z_drwE {z i d r n : Int32} (ei : i = z &&& 2147483647) (ed : d = i / 65536) (er : r = d - d / n * n) : r.toInt = zDrw z n.toInt := by
  unfold zDrw zRm
  rw [← z_io (x := n) rfl, er, ed, ei]
theorem z_drwR {z : Int32} {c : Int} (c1 : 1 ≤ c) (c2 : c ≤ 200) : 0 ≤ zDrw z c ∧ zDrw z c < c := by
  unfold zDrw zRm
  have e := z_ioT (v := c) (by omega) c2
  have w := z_remp (x := (z &&& 2147483647) / 65536) (y := zIo c) (z_divp (z_and31 z)).1 (by omega)
  omega
/-- who is drawn -/
def zLc (P : Int) (com : Nat → Int) (z : Int32) (r : Int) (z2 : Int32) : Prop := (zNc com P.toNat = 0 ∧ r = -9 ∧ z2 = z) ∨ (zNc com P.toNat = 1 ∧ z2 = z ∧ zPk com P 0 r) ∨ (2 ≤ zNc com P.toNat ∧ z2 = zSd z ∧ zPk com P (zDrw z2 (zNc com P.toNat)) r)
theorem z_lcC {P : Int} {com com2 : Nat → Int} {z z2 : Int32} {r : Int} (h : zLc P com z r z2) (e : ∀ q : Nat, (q : Int) < P → com q = com2 q) : zLc P com2 z r z2 := by
  have ec : zNc com P.toNat = zNc com2 P.toNat := z_ncC _ (fun q hq => e q (by omega))
  rcases h with ⟨a, b, c⟩ | ⟨a, b, c⟩ | ⟨a, b, c⟩
  · exact Or.inl ⟨by rw [← ec]; exact a, b, c⟩
  · exact Or.inr (Or.inl ⟨by rw [← ec]; exact a, b, z_pkC c e⟩)
  · exact Or.inr (Or.inr ⟨by rw [← ec]; exact a, b, by rw [← ec]; exact z_pkC c e⟩)
theorem z_lcU {P : Int} {com : Nat → Int} {z z2 z3 : Int32} {r r2 : Int} (h : zLc P com z r z2) (h2 : zLc P com z r2 z3) : r = r2 ∧ z2 = z3 := by
  rcases h with ⟨a, b, c⟩ | ⟨a, b, c⟩ | ⟨a, b, c⟩ <;> rcases h2 with ⟨d, e, f⟩ | ⟨d, e, f⟩ | ⟨d, e, f⟩ <;> try (exfalso; omega)
  · exact ⟨by omega, by rw [c, f]⟩
  · exact ⟨z_pkU c f, by rw [b, e]⟩
  · rw [b] at c
    rw [e] at f
    exact ⟨z_pkU c f, by rw [b, e]⟩
theorem z_lcX {P : Int} (P5 : P ≤ 5) (com : Nat → Int) (z : Int32) : ∃ (r : Int) (z2 : Int32), zLc P com z r z2 := by
  have w := z_ncP (com := com) P.toNat
  rcases (show zNc com P.toNat = 0 ∨ zNc com P.toNat = 1 ∨ 2 ≤ zNc com P.toNat by omega) with c | c | c
  · exact ⟨-9, z, Or.inl ⟨c, rfl, rfl⟩⟩
  · obtain ⟨p, p1, p2, p3⟩ := z_pkX (com := com) (k := 0) (by omega) P.toNat (by omega)
    exact ⟨com p, z, Or.inr (Or.inl ⟨c, rfl, p, by omega, p2, rfl, p3⟩)⟩
  · obtain ⟨q0, q1⟩ := z_drwR (z := zSd z) (c := zNc com P.toNat) (by omega) (by omega)
    obtain ⟨p, p1, p2, p3⟩ := z_pkX (com := com) (k := zDrw (zSd z) (zNc com P.toNat)) q0 P.toNat q1
    exact ⟨com p, zSd z, Or.inr (Or.inr ⟨c, rfl, p, by omega, p2, rfl, p3⟩)⟩
theorem z_lcR {P L : Int} {com : Nat → Int} {z z2 : Int32} {r : Int} (h : zLc P com z r z2) (hc : ∀ q : Nat, (q : Int) < P → com q = -9 ∨ (0 ≤ com q ∧ com q < L)) : r = -9 ∨ (0 ≤ r ∧ r < L) := by
  rcases h with ⟨-, b, -⟩ | ⟨-, -, p, p1, -, p3, -⟩ | ⟨-, -, p, p1, -, p3, -⟩
  · exact Or.inl b
  · rw [p3]
    exact hc p p1
  · rw [p3]
    exact hc p p1
noncomputable def zLu (P : Int) (com : Int32 → Int32 → Int32 → Nat → Int) (sd dd la z : Int32) : Int × Int32 := Classical.epsilon (fun r => zLc P (com sd dd la) z r.1 r.2)
theorem z_luE {P r : Int} {com : Int32 → Int32 → Int32 → Nat → Int} {sd dd la z z2 : Int32} (h : zLc P (com sd dd la) z r z2) : (r, z2) = zLu P com sd dd la z := by
  have w := Classical.epsilon_spec (p := fun r : Int × Int32 => zLc P (com sd dd la) z r.1 r.2) ⟨(r, z2), h⟩
  have u := z_lcU h w
  exact Prod.ext u.1 u.2
theorem z_luS {P : Int} (P5 : P ≤ 5) {com : Int32 → Int32 → Int32 → Nat → Int} {sd dd la z : Int32} : zLc P (com sd dd la) z (zLu P com sd dd la z).1 (zLu P com sd dd la z).2 := by
  obtain ⟨r, z2, h⟩ := z_lcX P5 (com sd dd la) z
  exact Classical.epsilon_spec (p := fun r : Int × Int32 => zLc P (com sd dd la) z r.1 r.2) ⟨(r, z2), h⟩
theorem z_luC {P : Int} (P5 : P ≤ 5) {com com2 : Int32 → Int32 → Int32 → Nat → Int} {sd dd la z : Int32} (e : ∀ q : Nat, (q : Int) < P → com sd dd la q = com2 sd dd la q) : zLu P com sd dd la z = zLu P com2 sd dd la z := z_luE (com := com2) (z_lcC (z_luS P5 (com := com)) e)
/-- a night by lot -/
def zLN (F : Int32 → Int32 → Int32 → Int32 → Int × Int32) (k : Nat) (s : (Int32 × Int32 × Int32) × Int32) : Int × Int32 := if k = 0 then (0, s.2) else F s.1.1 s.1.2.1 s.1.2.2 s.2
def zLsq (F : Int32 → Int32 → Int32 → Int32 → Int × Int32) (kl : Nat → Bool) (on : Nat → Int32) (z : Int32) : Nat → (Int32 × Int32 × Int32) × Int32
  | 0 => ((0, 0, -9), z)
  | k + 1 => (zSy kl on (zLsq F kl on z k).1 (zLN F k (zLsq F kl on z k)).1, (zLN F k (zLsq F kl on z k)).2)
def zLl (F : Int32 → Int32 → Int32 → Int32 → Int × Int32) (kl : Nat → Bool) (on : Nat → Int32) (z : Int32) (k : Nat) : Int := (zLN F k (zLsq F kl on z k)).1
def zLI (F : Int32 → Int32 → Int32 → Int32 → Int × Int32) (kl : Nat → Bool) (on : Nat → Int32) (z : Int32) (k : Int) (sd dd la : Int32) : Prop := (sd, dd, la) = (zLsq F kl on z k.toNat).1 ∧ ∀ q : Nat, (q : Int) < k → zLl F kl on z q ≠ -9
theorem z_lI0 {F : Int32 → Int32 → Int32 → Int32 → Int × Int32} {kl : Nat → Bool} {on : Nat → Int32} {z : Int32} {k : Int} (hk : k = 0) : zLI F kl on z k 0 0 (-9) := by
  subst hk
  exact ⟨rfl, fun q hq => by omega⟩
theorem z_lIS {F : Int32 → Int32 → Int32 → Int32 → Int × Int32} {kl : Nat → Bool} {on : Nat → Int32} {z : Int32} {k k2 : Int} {sd dd la ti r sd2 dd2 la2 ti2 : Int32} (h : zLI F kl on z k sd dd la) (k0 : 0 ≤ k) (hk : k2 = k + 1) (hr : r.toInt = zLl F kl on z k.toNat) (r9 : r.toInt ≠ -9) (hs : zSpk (kl r.toInt.toNat = true) (on r.toNatClampNeg) sd dd ti r sd2 dd2 la2 ti2) : zLI F kl on z k2 sd2 dd2 la2 := by
  obtain ⟨h1, h2⟩ := h
  obtain ⟨q1, q2, q3, q4⟩ := hs
  have e2 : k2.toNat = k.toNat + 1 := by omega
  refine ⟨?_, fun q hq => ?_⟩
  · rw [e2]
    show _ = zSy kl on (zLsq F kl on z k.toNat).1 (zLl F kl on z k.toNat)
    rw [← h1, ← hr]
    unfold zSy
    rw [if_neg r9, ← z_io (x := r) rfl]
    rcases q4 with ⟨a, b⟩ | ⟨a, b⟩
    · rw [if_pos a, q1, q2, b]
      try rfl
    · rw [if_neg a, q1, q2, b]
      try rfl
  · by_cases c : (q : Int) < k
    · exact h2 q c
    · rw [show q = k.toNat by omega, ← hr]
      exact r9
def zLE (F : Int32 → Int32 → Int32 → Int32 → Int × Int32) (kl : Nat → Bool) (on : Nat → Int32) (z : Int32) (n : Int) (z2 : Int32) : Prop := 0 ≤ n ∧ n ≤ 60 ∧ (∀ q : Nat, (q : Int) < n → zLl F kl on z q ≠ -9) ∧ ((n = 60 ∧ z2 = (zLsq F kl on z 60).2) ∨ (n < 60 ∧ zLl F kl on z n.toNat = -9 ∧ z2 = (zLsq F kl on z (n.toNat + 1)).2))
theorem z_lEU {F : Int32 → Int32 → Int32 → Int32 → Int × Int32} {kl : Nat → Bool} {on : Nat → Int32} {z z2 z3 : Int32} {n m : Int} (h : zLE F kl on z n z2) (h2 : zLE F kl on z m z3) : n = m ∧ z2 = z3 := by
  obtain ⟨a1, a2, a3, a4⟩ := h
  obtain ⟨b1, b2, b3, b4⟩ := h2
  have e : n = m := by
    rcases Int.lt_trichotomy n m with c | c | c
    · rcases a4 with ⟨a4, -⟩ | ⟨-, a4, -⟩
      · omega
      · exact absurd a4 (b3 n.toNat (by omega))
    · exact c
    · rcases b4 with ⟨b4, -⟩ | ⟨-, b4, -⟩
      · omega
      · exact absurd b4 (a3 m.toNat (by omega))
  subst e
  refine ⟨rfl, ?_⟩
  rcases a4 with ⟨a4, a5⟩ | ⟨a4, -, a5⟩ <;> rcases b4 with ⟨b4, b5⟩ | ⟨b4, -, b5⟩ <;> try (exfalso; omega)
  · rw [a5, b5]
  · rw [a5, b5]
theorem z_lsCq {F F2 : Int32 → Int32 → Int32 → Int32 → Int × Int32} {kl kl2 : Nat → Bool} {on on2 : Nat → Int32} {L : Int} (L0 : 0 < L) (L12 : L ≤ 12) (hF : ∀ sd dd la z : Int32, 0 ≤ la.toInt → la.toInt < L → F sd dd la z = F2 sd dd la z ∧ ((F sd dd la z).1 = -9 ∨ (0 ≤ (F sd dd la z).1 ∧ (F sd dd la z).1 < L))) (hk : ∀ l : Nat, (l : Int) < L → kl l = kl2 l) (ho : ∀ l : Nat, (l : Int) < L → on l = on2 l) (z : Int32) : ∀ k : Nat, zLsq F kl on z k = zLsq F2 kl2 on2 z k ∧ (0 < k → 0 ≤ (zLsq F kl on z k).1.2.2.toInt ∧ (zLsq F kl on z k).1.2.2.toInt < L) := by
  intro k
  induction k with
  | zero => exact ⟨rfl, fun h => absurd h (by decide)⟩
  | succ k ih =>
    obtain ⟨i1, i2⟩ := ih
    have key : zLN F k (zLsq F kl on z k) = zLN F2 k (zLsq F2 kl2 on2 z k) ∧ ((zLN F k (zLsq F kl on z k)).1 = -9 ∨ (0 ≤ (zLN F k (zLsq F kl on z k)).1 ∧ (zLN F k (zLsq F kl on z k)).1 < L)) ∧ ((zLN F k (zLsq F kl on z k)).1 = -9 → 0 < k) := by
      unfold zLN
      by_cases c : k = 0
      · rw [if_pos c, if_pos c, ← i1]
        exact ⟨rfl, Or.inr ⟨Int.le_refl 0, L0⟩, fun h => absurd (show (0 : Int) = -9 from h) (by decide)⟩
      · rw [if_neg c, if_neg c, ← i1]
        have w := hF (zLsq F kl on z k).1.1 (zLsq F kl on z k).1.2.1 (zLsq F kl on z k).1.2.2 (zLsq F kl on z k).2 (i2 (by omega)).1 (i2 (by omega)).2
        exact ⟨w.1, w.2, fun _ => by omega⟩
    obtain ⟨k1, k2, k3⟩ := key
    show (zSy kl on (zLsq F kl on z k).1 (zLN F k (zLsq F kl on z k)).1, (zLN F k (zLsq F kl on z k)).2) = (zSy kl2 on2 (zLsq F2 kl2 on2 z k).1 (zLN F2 k (zLsq F2 kl2 on2 z k)).1, (zLN F2 k (zLsq F2 kl2 on2 z k)).2) ∧ (0 < k + 1 → 0 ≤ (zSy kl on (zLsq F kl on z k).1 (zLN F k (zLsq F kl on z k)).1).2.2.toInt ∧ (zSy kl on (zLsq F kl on z k).1 (zLN F k (zLsq F kl on z k)).1).2.2.toInt < L)
    rw [← k1, ← i1]
    generalize zLN F k (zLsq F kl on z k) = l at k2 k3
    unfold zSy
    by_cases c : l.1 = -9
    · rw [if_pos c, if_pos c]
      exact ⟨rfl, fun _ => i2 (k3 c)⟩
    · rw [if_neg c, if_neg c]
      have lr : 0 ≤ l.1 ∧ l.1 < L := by
        rcases k2 with k2 | k2
        · exact absurd k2 c
        · exact k2
      rw [hk l.1.toNat (by omega), ho l.1.toNat (by omega)]
      refine ⟨rfl, fun _ => ?_⟩
      show 0 ≤ (zIo l.1).toInt ∧ (zIo l.1).toInt < L
      rw [z_ioT lr.1 (by omega)]
      exact lr
theorem z_lEC {F F2 : Int32 → Int32 → Int32 → Int32 → Int × Int32} {kl kl2 : Nat → Bool} {on on2 : Nat → Int32} {L n : Int} {z z2 : Int32} (h : zLE F kl on z n z2) (L0 : 0 < L) (L12 : L ≤ 12) (hF : ∀ sd dd la z : Int32, 0 ≤ la.toInt → la.toInt < L → F sd dd la z = F2 sd dd la z ∧ ((F sd dd la z).1 = -9 ∨ (0 ≤ (F sd dd la z).1 ∧ (F sd dd la z).1 < L))) (hk : ∀ l : Nat, (l : Int) < L → kl l = kl2 l) (ho : ∀ l : Nat, (l : Int) < L → on l = on2 l) : zLE F2 kl2 on2 z n z2 := by
  have es := fun k => z_lsCq L0 L12 hF hk ho z k
  have el : ∀ k : Nat, zLl F kl on z k = zLl F2 kl2 on2 z k := fun k => by
    unfold zLl zLN
    by_cases c : k = 0
    · rw [if_pos c, if_pos c]
    · rw [if_neg c, if_neg c, ← (es k).1, (hF _ _ _ _ ((es k).2 (by omega)).1 ((es k).2 (by omega)).2).1]
  obtain ⟨a1, a2, a3, a4⟩ := h
  refine ⟨a1, a2, fun q hq => by rw [← el q]; exact a3 q hq, ?_⟩
  rw [← (es 60).1, ← el n.toNat, ← (es (n.toNat + 1)).1]
  exact a4
/-- the sum of nights -/
def zLqq (E : Int32 → Int → Int32 → Prop) (z : Int32) : Nat → Int → Int32 → Prop
  | 0 => fun a z2 => a = 0 ∧ z2 = z
  | k + 1 => fun a z2 => ∃ (a1 n : Int) (z1 : Int32), zLqq E z k a1 z1 ∧ E z1 n z2 ∧ a = a1 + n
theorem z_lqU {E E2 : Int32 → Int → Int32 → Prop} {z : Int32} (hE : ∀ (z : Int32) (n m : Int) (z2 z3 : Int32), E z n z2 → E2 z m z3 → n = m ∧ z2 = z3) : ∀ (k : Nat) (a a2 : Int) (z2 z3 : Int32), zLqq E z k a z2 → zLqq E2 z k a2 z3 → a = a2 ∧ z2 = z3 := by
  intro k
  induction k with
  | zero =>
    intro a a2 z2 z3 h h2
    have h : a = 0 ∧ z2 = z := h
    have h2 : a2 = 0 ∧ z3 = z := h2
    exact ⟨by rw [h.1, h2.1], by rw [h.2, h2.2]⟩
  | succ k ih =>
    intro a a2 z2 z3 h h2
    obtain ⟨b1, n, z1, c1, c2, c3⟩ := h
    obtain ⟨b2, m, y1, d1, d2, d3⟩ := h2
    obtain ⟨e1, e2⟩ := ih _ _ _ _ c1 d1
    subst e2
    obtain ⟨f1, f2⟩ := hE _ _ _ _ _ c2 d2
    exact ⟨by omega, f2⟩
/-- the class: who is drawn -/
def zDlI (P L : Int) (G : Nat → ZQ) (ow af : Nat → Int32) (sd dd la : Int32) (k : Nat) (c : Int) : Prop := ∀ (sp kd fg wh : Nat → Int32) (C : Nat → Prop), zNlH P L G sp ow af la kd fg wh C → c = zNc (zCq L kd wh C sd dd (-9 : Int32).toInt) k
theorem z_dlI0 {P L : Int} {G : Nat → ZQ} {ow af : Nat → Int32} {sd dd la k : Int32} {c : Int} (hk : k.toInt = 0) (hc : c = 0) : zDlI P L G ow af sd dd la k.toInt.toNat c := fun _ _ _ _ _ _ => z_nc0 hk hc
theorem z_dlW {P L : Int} {G : Nat → ZQ} {sp ow af kd fg wh : Nat → Int32} {C : Nat → Prop} {sd dd la p : Int32} {r : Int} (H : zNlH P L G sp ow af la kd fg wh C) (p0 : 0 ≤ p.toInt) (pP : p.toInt < P) (hw : zCmC P L G ow af sd dd la p r) : r = zCq L kd wh C sd dd (-9 : Int32).toInt p.toInt.toNat := z_cqE H p0 pP (Or.inr ⟨by have e : (-9 : Int32).toInt = -9 := (by decide); omega, hw⟩)
theorem z_dlS {P L : Int} {G : Nat → ZQ} {ow af : Nat → Int32} {sd dd la p p2 : Int32} {c c2 r : Int} (h : zDlI P L G ow af sd dd la p.toInt.toNat c) (p0 : 0 ≤ p.toInt) (pP : p.toInt < P) (hp : p2.toInt = p.toInt + 1) (hw : zCmC P L G ow af sd dd la p r) (s : (r ≠ -9 ∧ c2 = c + 1) ∨ (r = -9 ∧ c2 = c)) : zDlI P L G ow af sd dd la p2.toInt.toNat c2 := fun sp kd fg wh C H => z_ncS (h sp kd fg wh C H) p0 hp (z_dlW H p0 pP hw) s
theorem z_dlE {P L : Int} {G : Nat → ZQ} {ow af : Nat → Int32} {sd dd la : Int32} {k k2 : Nat} {c : Int} (h : zDlI P L G ow af sd dd la k c) (e : k = k2) : zDlI P L G ow af sd dd la k2 c := e ▸ h
def zDlJ (P L : Int) (G : Nat → ZQ) (ow af : Nat → Int32) (sd dd la : Int32) (k : Nat) (c D : Int) : Prop := ∀ (sp kd fg wh : Nat → Int32) (C : Nat → Prop), zNlH P L G sp ow af la kd fg wh C → D - c = zNc (zCq L kd wh C sd dd (-9 : Int32).toInt) k
theorem z_dlJ0 {P L : Int} {G : Nat → ZQ} {ow af : Nat → Int32} {sd dd la k : Int32} {c : Int} (hk : k.toInt = 0) : zDlJ P L G ow af sd dd la k.toInt.toNat c c := fun _ _ _ _ _ _ => z_nc0 hk (by omega)
theorem z_dlJS {P L : Int} {G : Nat → ZQ} {ow af : Nat → Int32} {sd dd la p p2 : Int32} {c c2 D r : Int} (h : zDlJ P L G ow af sd dd la p.toInt.toNat c D) (p0 : 0 ≤ p.toInt) (pP : p.toInt < P) (hp : p2.toInt = p.toInt + 1) (hw : zCmC P L G ow af sd dd la p r) (s : (r ≠ -9 ∧ c2 = c - 1) ∨ (r = -9 ∧ c2 = c)) : zDlJ P L G ow af sd dd la p2.toInt.toNat c2 D := fun sp kd fg wh C H => z_ncS (h sp kd fg wh C H) p0 hp (z_dlW H p0 pP hw) (by omega)
def zDlC (P L : Int) (G : Nat → ZQ) (ow af : Nat → Int32) (sd dd la z : Int32) (r : Int) (z2 : Int32) : Prop := ∀ (sp kd fg wh : Nat → Int32) (C : Nat → Prop), zNlH P L G sp ow af la kd fg wh C → zLc P (zCq L kd wh C sd dd (-9 : Int32).toInt) z r z2
def zDlD (z z2 : Int32) (c D : Int) : Prop := (c < 2 ∧ D = 0 ∧ z2 = z) ∨ (2 ≤ c ∧ 0 ≤ D ∧ D < c ∧ z2 = zSd z ∧ D = zDrw z2 c)
theorem z_dlT {P L : Int} {G : Nat → ZQ} {ow af : Nat → Int32} {sd dd la p z z2 : Int32} {c l D r : Int} (h1 : zDlI P L G ow af sd dd la P.toNat c) (hJ : zDlJ P L G ow af sd dd la p.toInt.toNat l D) (p0 : 0 ≤ p.toInt) (pP : p.toInt < P) (hw : zCmC P L G ow af sd dd la p r) (w9 : r ≠ -9) (l0 : l = 0) (s : zDlD z z2 c D) : zDlC P L G ow af sd dd la z r z2 := fun sp kd fg wh C H => by
  have e1 := h1 sp kd fg wh C H
  have e2 := hJ sp kd fg wh C H
  have e3 := z_dlW H p0 pP hw
  have e4 := z_ncL (com := zCq L kd wh C sd dd (-9 : Int32).toInt) (a := p.toInt.toNat) (b := P.toNat) (by rw [← e3]; exact w9) (by omega)
  have e5 := z_ncP (com := zCq L kd wh C sd dd (-9 : Int32).toInt) p.toInt.toNat
  have pk : zPk (zCq L kd wh C sd dd (-9 : Int32).toInt) P D r := ⟨p.toInt.toNat, by omega, by rw [← e3]; exact w9, e3, by omega⟩
  rcases s with ⟨a, b, d⟩ | ⟨a, b, b2, d, f⟩
  · exact Or.inr (Or.inl ⟨by omega, d, by rw [b] at pk; exact pk⟩)
  · refine Or.inr (Or.inr ⟨by omega, d, ?_⟩)
    rw [← e1, ← f]
    exact pk
theorem z_dlN {P L : Int} {G : Nat → ZQ} {ow af : Nat → Int32} {sd dd la p z z2 : Int32} {c l D r : Int} (h1 : zDlI P L G ow af sd dd la P.toNat c) (hJ : zDlJ P L G ow af sd dd la p.toInt.toNat l D) (pP : p.toInt = P) (l0 : 0 ≤ l) (hr : r = -9) (s : zDlD z z2 c D) : zDlC P L G ow af sd dd la z r z2 := fun sp kd fg wh C H => by
  have e1 := h1 sp kd fg wh C H
  have e2 := hJ sp kd fg wh C H
  rw [pP] at e2
  have e5 := z_ncP (com := zCq L kd wh C sd dd (-9 : Int32).toInt) P.toNat
  rcases s with ⟨a, b, d⟩ | ⟨a, b, b2, d, f⟩
  · exact Or.inl ⟨by omega, hr, d⟩
  · exfalso
    omega
/-- the class: a night by lot -/
noncomputable def zFl (P L : Int) (kd wh : Nat → Int32) (C : Nat → Nat → Prop) : Int32 → Int32 → Int32 → Int32 → Int × Int32 := zLu P (zCc L kd wh C (-9 : Int32).toInt)
def zGlI (P L : Int) (G : Nat → ZQ) (ow af on : Nat → Int32) (ki z : Int32) (k : Int) (sd dd la ti z2 : Int32) : Prop := ∀ (sp kd fg wh : Nat → Int32) (C : Nat → Nat → Prop), zGoH P L G sp ow af on kd fg wh C → ti.toInt = k ∧ zLI (zFl P L kd wh C) (fun l => bt ki l) on z k sd dd la ∧ z2 = (zLsq (zFl P L kd wh C) (fun l => bt ki l) on z k.toNat).2 ∧ (0 < k → 0 ≤ la.toInt ∧ la.toInt < L)
theorem z_glI0 {P L : Int} {G : Nat → ZQ} {ow af on : Nat → Int32} {ki z : Int32} {k : Int} (hk : k = 0) : zGlI P L G ow af on ki z k 0 0 (-9) 0 z := fun sp kd fg wh C H => ⟨by rw [hk]; decide, z_lI0 hk, by rw [hk]; rfl, fun h => by omega⟩
theorem z_glN {P L k r : Int} {G : Nat → ZQ} {sp ow af on kd fg wh : Nat → Int32} {C : Nat → Nat → Prop} {ki z sd dd la z2 z3 : Int32} (H : zGoH P L G sp ow af on kd fg wh C) (hI : zLI (zFl P L kd wh C) (fun l => bt ki l) on z k sd dd la) (hz : z2 = (zLsq (zFl P L kd wh C) (fun l => bt ki l) on z k.toNat).2) (k0 : 0 ≤ k) (hl : 0 < k → 0 ≤ la.toInt ∧ la.toInt < L) (s : (k = 0 ∧ r = 0 ∧ z3 = z2) ∨ (k ≠ 0 ∧ zDlC P L G ow af sd dd la z2 r z3)) : (r, z3) = zLN (zFl P L kd wh C) k.toNat (zLsq (zFl P L kd wh C) (fun l => bt ki l) on z k.toNat) ∧ (r = -9 ∨ (0 ≤ r ∧ r < L)) := by
  obtain ⟨⟨L0, L12⟩, hK, hA, hq, ho, hC⟩ := H
  unfold zLN
  rcases s with ⟨s1, s2, s3⟩ | ⟨s1, s2⟩
  · rw [if_pos (by omega), s2, s3, hz]
    exact ⟨rfl, Or.inr ⟨Int.le_refl 0, L0⟩⟩
  · obtain ⟨la0, laL⟩ := hl (by omega)
    have hla := z_cl la0
    have b := s2 sp kd fg wh (C la.toNatClampNeg) ⟨⟨la0, laL⟩, hK, hA, hq, fun j hj => hC la.toNatClampNeg (by omega) j hj⟩
    refine ⟨?_, z_lcR b (fun q hq2 => z_cqR (hK q hq2).2.2.2.1.1 (hK q hq2).2.2.2.1.2 L12)⟩
    rw [if_neg (by omega), ← hI.1, ← hz]
    exact z_luE (com := zCc L kd wh C (-9 : Int32).toInt) b
theorem z_glS {P L k k2 : Int} {G : Nat → ZQ} {ow af on : Nat → Int32} {ki z sd dd la ti r sd2 dd2 la2 ti2 z2 z3 : Int32} (h : zGlI P L G ow af on ki z k sd dd la ti z2) (k0 : 0 ≤ k) (k1 : k < 1000) (hk : k2 = k + 1) (s : (k = 0 ∧ r.toInt = 0 ∧ z3 = z2) ∨ (k ≠ 0 ∧ zDlC P L G ow af sd dd la z2 r.toInt z3)) (r9 : r.toInt ≠ -9) (hs : 0 ≤ r.toInt → r.toInt < L → 0 ≤ (on r.toNatClampNeg).toInt → (on r.toNatClampNeg).toInt < 5 → zSpk (bt ki r.toInt.toNat = true) (on r.toNatClampNeg) sd dd ti r sd2 dd2 la2 ti2) : zGlI P L G ow af on ki z k2 sd2 dd2 la2 ti2 z3 := fun sp kd fg wh C H => by
  obtain ⟨h1, h2, h3, h4⟩ := h sp kd fg wh C H
  obtain ⟨e, q⟩ := z_glN H h2 h3 k0 h4 s
  have q : 0 ≤ r.toInt ∧ r.toInt < L := by
    rcases q with q | q
    · exact absurd q r9
    · exact q
  have hr := z_cl q.1
  have o := H.2.2.2.2.1 r.toNatClampNeg (by omega)
  have w := hs q.1 q.2 o.1 o.2
  refine ⟨?_, z_lIS h2 k0 hk (congrArg Prod.fst e) r9 w, ?_, fun _ => by rw [w.2.1]; exact q⟩
  · rw [w.2.2.1, z_add rfl (show (1 : Int32).toInt = 1 by decide) (by omega) (by omega)]
    omega
  · rw [show k2.toNat = k.toNat + 1 by omega]
    exact congrArg Prod.snd e
def zGlC (P L : Int) (G : Nat → ZQ) (ow af on : Nat → Int32) (ki z r z2 : Int32) : Prop := ∀ (sp kd fg wh : Nat → Int32) (C : Nat → Nat → Prop), zGoH P L G sp ow af on kd fg wh C → zLE (zFl P L kd wh C) (fun l => bt ki l) on z r.toInt z2
theorem z_glX {P L k : Int} {G : Nat → ZQ} {ow af on : Nat → Int32} {ki z sd dd la ti r z2 z3 : Int32} (h : zGlI P L G ow af on ki z k sd dd la ti z2) (k0 : 0 ≤ k) (k6 : k < 60) (s : (k = 0 ∧ r.toInt = 0 ∧ z3 = z2) ∨ (k ≠ 0 ∧ zDlC P L G ow af sd dd la z2 r.toInt z3)) (r9 : r.toInt = -9) : zGlC P L G ow af on ki z ti z3 := fun sp kd fg wh C H => by
  obtain ⟨h1, h2, h3, h4⟩ := h sp kd fg wh C H
  obtain ⟨e, -⟩ := z_glN H h2 h3 k0 h4 s
  rw [h1]
  refine ⟨k0, by omega, h2.2, Or.inr ⟨k6, ?_, congrArg Prod.snd e⟩⟩
  have w : r.toInt = zLl (zFl P L kd wh C) (fun l => bt ki l) on z k.toNat := congrArg Prod.fst e
  rw [← w]
  exact r9
theorem z_glE {P L k : Int} {G : Nat → ZQ} {ow af on : Nat → Int32} {ki z sd dd la ti z2 : Int32} (h : zGlI P L G ow af on ki z k sd dd la ti z2) (k6 : k = 60) : zGlC P L G ow af on ki z ti z2 := fun sp kd fg wh C H => by
  obtain ⟨h1, h2, h3, h4⟩ := h sp kd fg wh C H
  subst k6
  rw [h1]
  exact ⟨by omega, by omega, h2.2, Or.inl ⟨rfl, h3⟩⟩
def zLoI (P L : Int) (G : Nat → ZQ) (ow af on : Nat → Int32) (ki z : Int32) (k : Int) (a z2 : Int32) : Prop := ∀ (sp kd fg wh : Nat → Int32) (C : Nat → Nat → Prop), zGoH P L G sp ow af on kd fg wh C → zLqq (zLE (zFl P L kd wh C) (fun l => bt ki l) on) z k.toNat a.toInt z2 ∧ 0 ≤ a.toInt ∧ a.toInt ≤ 60 * k
theorem z_loI0 {P L : Int} {G : Nat → ZQ} {ow af on : Nat → Int32} {ki z : Int32} {k : Int} (hk : k = 0) : zLoI P L G ow af on ki z k 0 z := fun sp kd fg wh C H => by
  subst hk
  exact ⟨⟨by decide, rfl⟩, by decide, by decide⟩
theorem z_loS {P L k k2 : Int} {G : Nat → ZQ} {ow af on : Nat → Int32} {ki z a a2 r z2 z3 : Int32} (h : zLoI P L G ow af on ki z k a z2) (k0 : 0 ≤ k) (k20 : k ≤ 20) (hk : k2 = k + 1) (hn : zGlC P L G ow af on ki z2 r z3) (ea : a2 = a + r) : zLoI P L G ow af on ki z k2 a2 z3 := fun sp kd fg wh C H => by
  obtain ⟨h1, h2, h3⟩ := h sp kd fg wh C H
  have w := hn sp kd fg wh C H
  obtain ⟨w1, w2, -, -⟩ := id w
  have e : a2.toInt = a.toInt + r.toInt := by rw [ea]; exact z_add rfl rfl (by omega) (by omega)
  refine ⟨?_, by omega, by omega⟩
  rw [show k2.toNat = k.toNat + 1 by omega]
  exact ⟨_, _, _, h1, w, e⟩
def zLtC (P L : Int) (G : Nat → ZQ) (tx sz on cu ow : Nat → Int32) (ki p z r : Int32) : Prop := (p.toInt < 1 ∧ r.toInt = -4) ∨ (20 < p.toInt ∧ r.toInt = -6) ∨ (1 ≤ p.toInt ∧ p.toInt ≤ 20 ∧ L = 0 ∧ r.toInt = -3) ∨ (1 ≤ p.toInt ∧ p.toInt ≤ 20 ∧ 0 < L ∧ ∃ (af : Nat → Int32) (z2 : Int32), zWe P L G tx sz on cu 0 af L ∧ zLoI P L G ow af on ki z p.toInt r z2)
/-- the reference: nights by lot -/
noncomputable def zCw9 (L : Int) (wd mn : Nat → Int32) (jk jw : Int32) (kd fg wh cu : Nat → Int32) (sd dd la : Int32) : Nat → Int := zCz L kd wh (fun j => zIcR wd mn jk jw kd fg wh cu la.toInt (j : Int)) sd dd
noncomputable def zFm (P L : Int) (wd mn : Nat → Int32) (jk jw : Int32) (kd fg wh cu : Nat → Int32) : Int32 → Int32 → Int32 → Int32 → Int × Int32 := zLu P (zCw9 L wd mn jk jw kd fg wh cu)
theorem z_lmT {P : Int} {com : Nat → Int} {p z z2 : Int32} {c l D r : Int} (h1 : c = zNc com P.toNat) (hJ : D - l = zNc com p.toInt.toNat) (p0 : 0 ≤ p.toInt) (pP : p.toInt < P) (hw : r = com p.toInt.toNat) (w9 : r ≠ -9) (l0 : l = 0) (s : zDlD z z2 c D) : zLc P com z r z2 := by
  have e4 := z_ncL (com := com) (a := p.toInt.toNat) (b := P.toNat) (by rw [← hw]; exact w9) (by omega)
  have e5 := z_ncP (com := com) p.toInt.toNat
  have pk : zPk com P D r := ⟨p.toInt.toNat, by omega, by rw [← hw]; exact w9, hw, by omega⟩
  rcases s with ⟨a, b, d⟩ | ⟨a, b, b2, d, f⟩
  · exact Or.inr (Or.inl ⟨by omega, d, by rw [b] at pk; exact pk⟩)
  · refine Or.inr (Or.inr ⟨by omega, d, ?_⟩)
    rw [← h1, ← f]
    exact pk
def zLnI (P L : Int) (wd mn : Nat → Int32) (jk jw : Int32) (kd fg wh cu kl : Nat → Int32) (z0 : Int32) (k l : Int) (sd dd la z : Int32) : Prop := zLI (zFm P L wd mn jk jw kd fg wh cu) (zKb kl) wh z0 k sd dd la ∧ ((k < 60 ∧ (l, z) = zLN (zFm P L wd mn jk jw kd fg wh cu) k.toNat (zLsq (zFm P L wd mn jk jw kd fg wh cu) (zKb kl) wh z0 k.toNat)) ∨ (k = 60 ∧ l = -9 ∧ z = (zLsq (zFm P L wd mn jk jw kd fg wh cu) (zKb kl) wh z0 60).2)) ∧ (l = -9 ∨ 0 ≤ l)
theorem z_lnI0 {P L : Int} {wd mn : Nat → Int32} {jk jw : Int32} {kd fg wh cu kl : Nat → Int32} {z0 : Int32} {k l : Int} (hk : k = 0) (hl : l = 0) : zLnI P L wd mn jk jw kd fg wh cu kl z0 k l 0 0 (-9) z0 := by
  subst hk hl
  exact ⟨z_lI0 rfl, Or.inl ⟨by omega, rfl⟩, Or.inr (Int.le_refl 0)⟩
theorem z_lnS {P L k k2 r : Int} {wd mn : Nat → Int32} {jk jw : Int32} {kd fg wh cu kl : Nat → Int32} {z0 z1 z2 l sd dd la ti sd2 dd2 la2 ti2 : Int32} (h : zLnI P L wd mn jk jw kd fg wh cu kl z0 k l.toInt sd dd la z1) (l0 : 0 ≤ l.toInt) (k0 : 0 ≤ k) (k6 : k < 60) (hk : k2 = k + 1) (hs : zSpk ((kl l.toNatClampNeg).toInt = 1) (wh l.toNatClampNeg) sd dd ti l sd2 dd2 la2 ti2) (hn : (k2 < 60 ∧ zLc P (zCz L kd wh (fun j => zIcR wd mn jk jw kd fg wh cu la2.toInt (j : Int)) sd2 dd2) z1 r z2) ∨ (60 ≤ k2 ∧ r = -9 ∧ z2 = z1)) (hL : L ≤ 12) : zLnI P L wd mn jk jw kd fg wh cu kl z0 k2 r sd2 dd2 la2 z2 := by
  obtain ⟨h1, h2, -⟩ := h
  rcases h2 with ⟨-, h2⟩ | ⟨h2, -⟩
  · have e : (kl l.toNatClampNeg).toInt = 1 ↔ zKb kl l.toInt.toNat = true := by unfold zKb; exact ⟨fun q => decide_eq_true q, fun q => of_decide_eq_true q⟩
    have n2 := z_lIS h1 k0 hk (congrArg Prod.fst h2) (by omega) (z_spkP hs e)
    have ez : z1 = (zLsq (zFm P L wd mn jk jw kd fg wh cu) (zKb kl) wh z0 k2.toNat).2 := by
      rw [show k2.toNat = k.toNat + 1 by omega]
      exact congrArg Prod.snd h2
    refine ⟨n2, ?_, ?_⟩
    · rcases hn with ⟨a, b⟩ | ⟨a, b, c⟩
      · refine Or.inl ⟨a, ?_⟩
        unfold zLN
        rw [if_neg (by omega), ← n2.1, ← ez]
        exact z_luE (com := zCw9 L wd mn jk jw kd fg wh cu) b
      · refine Or.inr ⟨by omega, b, ?_⟩
        rw [c, ez, show k2.toNat = 60 by omega]
    · rcases hn with ⟨a, b⟩ | ⟨a, b, c⟩
      · have w := z_lcR b (fun q hq => z_czR hL)
        omega
      · exact Or.inl b
  · omega
theorem z_lnE {P L k l : Int} {wd mn : Nat → Int32} {jk jw : Int32} {kd fg wh cu kl : Nat → Int32} {z0 z1 sd dd la : Int32} (h : zLnI P L wd mn jk jw kd fg wh cu kl z0 k l sd dd la z1) (k0 : 0 ≤ k) (hx : l < 0 ∨ 60 ≤ k) : zLE (zFm P L wd mn jk jw kd fg wh cu) (zKb kl) wh z0 k z1 := by
  obtain ⟨h1, h2, h3⟩ := h
  rcases h2 with ⟨a, b⟩ | ⟨a, b, c⟩
  · refine ⟨k0, by omega, h1.2, Or.inr ⟨a, ?_, congrArg Prod.snd b⟩⟩
    have w : l = zLl (zFm P L wd mn jk jw kd fg wh cu) (zKb kl) wh z0 k.toNat := congrArg Prod.fst b
    omega
  · exact ⟨k0, by omega, h1.2, Or.inl ⟨a, c⟩⟩
def zLmI (P L : Int) (wd mn : Nat → Int32) (jk jw : Int32) (kd fg wh cu kl : Nat → Int32) (z : Int32) (k : Int) (a z2 : Int32) : Prop := zLqq (zLE (zFm P L wd mn jk jw kd fg wh cu) (zKb kl) wh) z k.toNat a.toInt z2 ∧ 0 ≤ a.toInt ∧ a.toInt ≤ 60 * k
theorem z_lmI0 {P L : Int} {wd mn : Nat → Int32} {jk jw : Int32} {kd fg wh cu kl : Nat → Int32} {z : Int32} {k : Int} (hk : k = 0) : zLmI P L wd mn jk jw kd fg wh cu kl z k 0 z := by
  subst hk
  exact ⟨⟨by decide, rfl⟩, by decide, by decide⟩
theorem z_lmS {P L k k2 l : Int} {wd mn : Nat → Int32} {jk jw : Int32} {kd fg wh cu kl : Nat → Int32} {z a a2 n z1 z2 sd dd la : Int32} (h : zLmI P L wd mn jk jw kd fg wh cu kl z k a z1) (k0 : 0 ≤ k) (k20 : k ≤ 20) (hk : k2 = k + 1) (hn : zLnI P L wd mn jk jw kd fg wh cu kl z1 n.toInt l sd dd la z2) (n0 : 0 ≤ n.toInt) (hx : l < 0 ∨ 60 ≤ n.toInt) (ea : a2 = a + n) : zLmI P L wd mn jk jw kd fg wh cu kl z k2 a2 z2 := by
  obtain ⟨h1, h2, h3⟩ := h
  have w := z_lnE hn n0 hx
  obtain ⟨w1, w2, -, -⟩ := id w
  have e : a2.toInt = a.toInt + n.toInt := by rw [ea]; exact z_add rfl rfl (by omega) (by omega)
  refine ⟨?_, by omega, by omega⟩
  rw [show k2.toNat = k.toNat + 1 by omega]
  exact ⟨_, _, _, h1, w, e⟩
theorem z_lmE {P L k k2 : Int} {wd mn : Nat → Int32} {jk jw : Int32} {kd fg wh cu kl : Nat → Int32} {z a z2 : Int32} (h : zLmI P L wd mn jk jw kd fg wh cu kl z k a z2) (e : k = k2) : zLmI P L wd mn jk jw kd fg wh cu kl z k2 a z2 := e ▸ h
theorem z_loE {P L : Int} {G : Nat → ZQ} {ow af on : Nat → Int32} {ki z : Int32} {k k2 : Int} {a z2 : Int32} (h : zLoI P L G ow af on ki z k a z2) (e : k = k2) : zLoI P L G ow af on ki z k2 a z2 := e ▸ h
def zLtM (P L : Int) (wd mn : Nat → Int32) (jk jw : Int32) (kd fg sp wh cu kl : Nat → Int32) (p z r : Int32) : Prop := (p.toInt < 1 ∧ r.toInt = -4) ∨ (20 < p.toInt ∧ r.toInt = -6) ∨ (1 ≤ p.toInt ∧ p.toInt ≤ 20 ∧ L = 0 ∧ r.toInt = -3) ∨ (1 ≤ p.toInt ∧ p.toInt ≤ 20 ∧ 0 < L ∧ ∃ z2 : Int32, zLmI P L wd mn jk jw kd fg wh cu kl z p.toInt r z2)
theorem z_ltF {P L ki jk jw : Int32} {G : Nat → ZQ} {sp cu ow on tx sz af a1 a2 a4 a5 a7 a8 : Nat → Int32} {i1 i2 i3 : Int} (hr : zRe P L ki sp cu ow on tx sz (zSt a1 a2 sp a4 a5 cu a7 a8 i1 i2 i3)) (hk : zKn P.toInt G a1 a2) (hL2 : L.toInt ≤ 12) (hP5 : P.toInt ≤ 5) (hj : jk.toInt = -9) (hwe : zWe P.toInt L.toInt G tx sz on cu 0 af L.toInt) (sd dd la z : Int32) (l0 : 0 ≤ la.toInt) (l1 : la.toInt < L.toInt) : zFl P.toInt L.toInt a1 a4 (fun la j => bt (af la) j = true) sd dd la z = zFm P.toInt L.toInt a8 a5 jk jw a1 a2 a4 cu sd dd la z ∧ ((zFl P.toInt L.toInt a1 a4 (fun la j => bt (af la) j = true) sd dd la z).1 = -9 ∨ (0 ≤ (zFl P.toInt L.toInt a1 a4 (fun la j => bt (af la) j = true) sd dd la z).1 ∧ (zFl P.toInt L.toInt a1 a4 (fun la j => bt (af la) j = true) sd dd la z).1 < L.toInt)) := by
  have H := z_pyRe hr hL2 hk
  have hw : ∀ l : Nat, (l : Int) < L.toInt → a4 l = on l := fun l hl => (hr.2.2.1 l (by omega)).2.1
  have e9 : (-9 : Int32).toInt = -9 := by decide
  have e0 : (0 : Int32).toInt = 0 := by decide
  have row := hwe (by decide) (by decide) a8 a5 a1 a2 H la.toNatClampNeg (by have := z_cl l0; omega)
  rw [e0] at row
  refine ⟨z_luC hP5 (fun q hq => ?_), z_lcR (z_luS hP5 (com := zCc L.toInt a1 a4 (fun la j => bt (af la) j = true) (-9 : Int32).toInt)) (fun q hq => z_cqR (hk q hq).2.2.2.1.1 (hk q hq).2.2.2.1.2 hL2)⟩
  show zCq L.toInt a1 a4 (fun j => bt (af la.toNatClampNeg) j = true) sd dd (-9 : Int32).toInt q = zCz L.toInt a1 a4 (fun j => zIcR a8 a5 jk jw a1 a2 a4 cu la.toInt (j : Int)) sd dd q
  rw [z_czQ (hk q hq).2.2.2.1.1 (hk q hq).2.2.2.1.2]
  unfold zCq
  rw [if_neg (by omega)]
  exact z_comC rfl (fun j hjL ho => z_cueE row H hw hj l0 (by omega) hjL)
theorem z_ltLaw {P L ki Q M jk jw p z r r2 : Int32} {G : Nat → ZQ} {sp cu ow on tx sz a1 a2 a3 a4 a5 a6 a7 a8 : Nat → Int32} {i1 i2 i3 : Int} (hC : zLtC P.toInt L.toInt G tx sz on cu ow ki p z r) (hM : zLtM Q.toInt M.toInt a8 a5 jk jw a1 a2 a3 a4 a6 a7 p z r2) (hr : zRe P L ki sp cu ow on tx sz (zSt a1 a2 a3 a4 a5 a6 a7 a8 i1 i2 i3)) (hk : zKn P.toInt G a1 a2) (hs : sp = a3) (hc : cu = a6) (hP : P.toInt = Q.toInt) (hL : L.toInt = M.toInt) (hL2 : L.toInt ≤ 12) (hP5 : P.toInt ≤ 5) (hP0 : 0 ≤ P.toInt) (hj : jk.toInt = -9) (hsr : zSrR P.toInt sp) : r.toInt = r2.toInt := by
  subst hs hc
  rw [← hP, ← hL] at hM
  rcases hC with ⟨a, b⟩ | ⟨a, b⟩ | ⟨a, a2, b, c⟩ | ⟨a, a2, b, af, z2, c, d⟩ <;> rcases hM with ⟨e, f⟩ | ⟨e, f⟩ | ⟨e, e2, f, g⟩ | ⟨e, e2, f, z3, g⟩ <;> try (exfalso; omega)
  · omega
  · omega
  · omega
  · obtain ⟨d1, -, -⟩ := d _ _ _ _ _ (z_goHr hr hk hL2 hP5 hsr b)
    refine (z_lqU (fun z n m y2 y3 h1 h2 => ?_) _ _ _ _ _ d1 g.1).1
    exact z_lEU (z_lEC h1 b hL2 (z_ltF hr hk hL2 hP5 hj c) (z_kbE hr hL2) (fun l hl => (hr.2.2.1 l (by omega)).2.1.symm)) h2
/-- home: powers and divisors -/
theorem z_bm64 {v : Int} (h1 : -9223372036854775808 ≤ v) (h2 : v ≤ 9223372036854775807) : v.bmod (2 ^ 64) = v := by rw [Int.bmod_def]; omega
theorem z_pwNq {n k : Nat} (hn : n ≤ 100) (hk : k ≤ 8) : n ^ k ≤ 10000000000000000 := Nat.le_trans (Nat.pow_le_pow_left hn k) (Nat.le_trans (Nat.pow_le_pow_right (by decide) hk) (by decide))
def zPwI (b : Int32) (k : Int) (x : Int64) : Prop := 0 ≤ b.toInt → b.toInt ≤ 100 → k ≤ 8 → x.toInt = ((b.toInt.toNat ^ k.toNat : Nat) : Int)
theorem z_pw0 {b : Int32} {k : Int} (hk : k = 0) : zPwI b k 1 := fun _ _ _ => by
  subst hk
  show (1 : Int64).toInt = ((b.toInt.toNat ^ 0 : Nat) : Int)
  rw [Nat.pow_zero]
  decide
theorem z_mul64 {x w y : Int64} {b : Int} {n k : Nat} (ey : y = x * w) (hx : x.toInt = ((n ^ k : Nat) : Int)) (hw : w.toInt = b) (b0 : 0 ≤ b) (hb : b.toNat = n) (hn : n ≤ 100) (hk : k + 1 ≤ 8) : y.toInt = ((n ^ (k + 1) : Nat) : Int) := by
  have bd := z_pwNq hn hk
  have e2 : ((n ^ k : Nat) : Int) * b = ((n ^ (k + 1) : Nat) : Int) := by
    rw [Nat.pow_succ, Int.natCast_mul, ← hb, Int.toNat_of_nonneg b0]
  rw [ey, Int64.toInt_mul, hx, hw, e2]
  exact z_bm64 (by omega) (by omega)
theorem z_pwS {b : Int32} {k k2 : Int} {x x2 w : Int64} (h : zPwI b k x) (k0 : 0 ≤ k) (hk : k2 = k + 1) (ew : w = b.toInt64) (ex : x2 = x * w) : zPwI b k2 x2 := fun b0 b1 k8 => by
  have e := h b0 b1 (by omega)
  rw [show k2.toNat = k.toNat + 1 by omega]
  exact z_mul64 ex e (by rw [ew, Int32.toInt_toInt64]) b0 rfl (by omega) (by omega)
theorem z_pwE {b : Int32} {k m : Int} {x : Int64} (h : zPwI b k x) (b0 : 0 ≤ b.toInt) (b1 : b.toInt ≤ 100) (e : k = m) (m8 : m ≤ 8) : x.toInt = ((b.toInt.toNat ^ m.toNat : Nat) : Int) := by
  rw [← e]
  exact h b0 b1 (by omega)
theorem z_rmN {x y r : Int32} (er : r = x - x / y * y) (hx : 0 ≤ x.toInt) (hy : 1 ≤ y.toInt) : r.toInt = ((x.toInt.toNat % y.toInt.toNat : Nat) : Int) := by
  have hh := z_hi x
  have hl := z_hi y
  have e : (x - x / y * y).toInt = x.toInt.tmod y.toInt := by
    rw [Int32.toInt_sub, Int32.toInt_mul, Int32.toInt_div, Int.bmod_mul_bmod, Int.sub_bmod_bmod]
    have e1 : x.toInt - x.toInt.tdiv y.toInt * y.toInt = x.toInt.tmod y.toInt := by
      have := Int.tmod_add_tdiv_mul x.toInt y.toInt
      omega
    have h1 := Int.tmod_nonneg y.toInt hx
    have h2 := Int.tmod_lt_of_pos x.toInt (show 0 < y.toInt by omega)
    rw [e1]
    exact z_bm (by omega) (by omega)
  rw [er, e, Int.tmod_eq_emod_of_nonneg hx, Int.natCast_emod, Int.toNat_of_nonneg hx, Int.toNat_of_nonneg (by omega)]
theorem z_dvN {x y q : Int32} (eq : q = x / y) (hx : 0 ≤ x.toInt) (hy : 1 ≤ y.toInt) : q.toInt = ((x.toInt.toNat / y.toInt.toNat : Nat) : Int) := by
  have hh := z_hi x
  have h1 : x.toInt / y.toInt ≤ x.toInt := Int.ediv_le_self _ hx
  have h2 : 0 ≤ x.toInt / y.toInt := Int.ediv_nonneg hx (by omega)
  rw [eq, Int32.toInt_div, Int.tdiv_eq_ediv_of_nonneg hx, z_bm (by omega) (by omega), Int.natCast_ediv, Int.toNat_of_nonneg hx, Int.toNat_of_nonneg (by omega)]
/-- the greatest divisor, from above -/
def zGdI (a b : Int32) (d : Int) : Prop := 1 ≤ a.toInt → 1 ≤ b.toInt → 1 ≤ d ∧ ∀ e : Nat, d < (e : Int) → ¬ (e ∣ a.toInt.toNat ∧ e ∣ b.toInt.toNat)
theorem z_gd0 {a b d : Int32} (h0 : d.toInt ≤ a.toInt) (h1 : d.toInt ≤ b.toInt) (h2 : d.toInt = a.toInt ∨ d.toInt = b.toInt) : zGdI a b d.toInt := fun a1 b1 => ⟨by omega, fun e he w => by
  have w1 := Nat.le_of_dvd (by omega) w.1
  have w2 := Nat.le_of_dvd (by omega) w.2
  omega⟩
theorem z_rmDv {x y r : Int32} (er : r = x - x / y * y) (hx : 0 ≤ x.toInt) (hy : 1 ≤ y.toInt) : r.toInt = 0 ↔ y.toInt.toNat ∣ x.toInt.toNat := by
  have e := z_rmN er hx hy
  constructor
  · intro h
    exact Nat.dvd_of_mod_eq_zero (by omega)
  · intro h
    have := Nat.mod_eq_zero_of_dvd h
    omega
theorem z_gdS {a b d d2 r : Int32} (h : zGdI a b d.toInt) (d1 : 1 < d.toInt) (hd : d2.toInt = d.toInt - 1) (s : (r = a - a / d * d ∧ r.toInt ≠ 0) ∨ (r = b - b / d * d ∧ r.toInt ≠ 0)) : zGdI a b d2.toInt := fun a1 b1 => by
  obtain ⟨h1, h2⟩ := h a1 b1
  refine ⟨by omega, fun e he w => ?_⟩
  by_cases c : (e : Int) = d.toInt
  · have ee : d.toInt.toNat = e := by omega
    rcases s with ⟨s1, s2⟩ | ⟨s1, s2⟩
    · exact s2 ((z_rmDv s1 (by omega) (by omega)).mpr (by rw [ee]; exact w.1))
    · exact s2 ((z_rmDv s1 (by omega) (by omega)).mpr (by rw [ee]; exact w.2))
  · exact h2 e (by omega) w
theorem z_gdT {a b d r1 r2 : Int32} (h : zGdI a b d.toInt) (a1 : 1 ≤ a.toInt) (b1 : 1 ≤ b.toInt) (d1 : 1 < d.toInt) (e1 : r1 = a - a / d * d) (q1 : r1.toInt = 0) (e2 : r2 = b - b / d * d) (q2 : r2.toInt = 0) : d.toInt = ((Nat.gcd a.toInt.toNat b.toInt.toNat : Nat) : Int) := by
  obtain ⟨h1, h2⟩ := h a1 b1
  have v1 := (z_rmDv e1 (by omega) (by omega)).mp q1
  have v2 := (z_rmDv e2 (by omega) (by omega)).mp q2
  have g0 : 0 < Nat.gcd a.toInt.toNat b.toInt.toNat := Nat.gcd_pos_of_pos_left _ (by omega)
  have g1 := Nat.le_of_dvd g0 (Nat.dvd_gcd v1 v2)
  by_cases c : d.toInt < ((Nat.gcd a.toInt.toNat b.toInt.toNat : Nat) : Int)
  · exact absurd ⟨Nat.gcd_dvd_left _ _, Nat.gcd_dvd_right _ _⟩ (h2 _ c)
  · omega
theorem z_gdE {a b : Int32} {d r : Int} (h : zGdI a b d) (a1 : 1 ≤ a.toInt) (b1 : 1 ≤ b.toInt) (d1 : d ≤ 1) (hr : r = 1) : r = ((Nat.gcd a.toInt.toNat b.toInt.toNat : Nat) : Int) := by
  obtain ⟨h1, h2⟩ := h a1 b1
  have g0 : 0 < Nat.gcd a.toInt.toNat b.toInt.toNat := Nat.gcd_pos_of_pos_left _ (by omega)
  by_cases c : d < ((Nat.gcd a.toInt.toNat b.toInt.toNat : Nat) : Int)
  · exact absurd ⟨Nat.gcd_dvd_left _ _, Nat.gcd_dvd_right _ _⟩ (h2 _ c)
  · omega
/-- the reference's divisor -/
theorem z_rm64 {x y r : Int64} (er : r = x - x / y * y) (hx : 0 ≤ x.toInt) (hy : 1 ≤ y.toInt) : r.toInt = ((x.toInt.toNat % y.toInt.toNat : Nat) : Int) := by
  have hh := Int64.toInt_lt x
  have hl := Int64.toInt_lt y
  have e : (x - x / y * y).toInt = x.toInt.tmod y.toInt := by
    rw [Int64.toInt_sub, Int64.toInt_mul, Int64.toInt_div, Int.bmod_mul_bmod, Int.sub_bmod_bmod]
    have e1 : x.toInt - x.toInt.tdiv y.toInt * y.toInt = x.toInt.tmod y.toInt := by
      have := Int.tmod_add_tdiv_mul x.toInt y.toInt
      omega
    have h1 := Int.tmod_nonneg y.toInt hx
    have h2 := Int.tmod_lt_of_pos x.toInt (show 0 < y.toInt by omega)
    rw [e1]
    exact z_bm64 (by omega) (by omega)
  rw [er, e, Int.tmod_eq_emod_of_nonneg hx, Int.natCast_emod, Int.toNat_of_nonneg hx, Int.toNat_of_nonneg (by omega)]
def zEuI (a b x y : Int64) : Prop := 0 ≤ a.toInt → 0 ≤ b.toInt → (0 ≤ x.toInt ∧ 0 ≤ y.toInt) ∧ Nat.gcd x.toInt.toNat y.toInt.toNat = Nat.gcd a.toInt.toNat b.toInt.toNat
theorem z_euI0 {a b : Int64} : zEuI a b a b := fun a0 b0 => ⟨⟨a0, b0⟩, rfl⟩
theorem z_euS {a b x y r : Int64} (h : zEuI a b x y) (y0 : y.toInt ≠ 0) (er : r = x - x / y * y) : zEuI a b y r := fun a0 b0 => by
  obtain ⟨⟨h1, h2⟩, h3⟩ := h a0 b0
  have e := z_rm64 er h1 (by omega)
  refine ⟨⟨h2, by omega⟩, ?_⟩
  rw [← h3, e, Int.toNat_natCast, Nat.gcd_comm x.toInt.toNat, Nat.gcd_rec y.toInt.toNat x.toInt.toNat, Nat.gcd_comm]
theorem z_euE {a b x y : Int64} (h : zEuI a b x y) (a0 : 0 ≤ a.toInt) (b0 : 0 ≤ b.toInt) (y0 : y.toInt = 0) : x.toInt = ((Nat.gcd a.toInt.toNat b.toInt.toNat : Nat) : Int) := by
  obtain ⟨⟨h1, h2⟩, h3⟩ := h a0 b0
  rw [← h3, y0]
  show x.toInt = ((Nat.gcd x.toInt.toNat 0 : Nat) : Int)
  rw [Nat.gcd_zero_right, Int.toNat_of_nonneg h1]
def zHuI (lo : Int32) (l : Int) (u d : Int64) : Prop := 0 ≤ lo.toInt → lo.toInt ≤ 99 → l ≤ 9 → u.toInt = (((100 - lo.toInt).toNat ^ (l - 1).toNat : Nat) : Int) ∧ d.toInt = ((100 ^ (l - 1).toNat : Nat) : Int)
theorem z_hu0 {lo : Int32} {l : Int} (hl : l = 1) : zHuI lo l 1 1 := fun _ _ _ => by
  subst hl
  constructor
  · show (1 : Int64).toInt = (((100 - lo.toInt).toNat ^ 0 : Nat) : Int)
    rw [Nat.pow_zero]
    decide
  · decide
theorem z_huS {lo s : Int32} {l l2 : Int} {u d u2 d2 w : Int64} (h : zHuI lo l u d) (l1 : 1 ≤ l) (hl : l2 = l + 1) (es : s = 100 - lo) (ew : w = s.toInt64) (eu : u2 = u * w) (ed : d2 = d * 100) : zHuI lo l2 u2 d2 := fun a0 a9 l9 => by
  obtain ⟨h1, h2⟩ := h a0 a9 (by omega)
  have e : s.toInt = 100 - lo.toInt := by rw [es]; exact z_sub (by decide) rfl (by omega) (by omega)
  rw [show (l2 - 1).toNat = (l - 1).toNat + 1 by omega]
  exact ⟨z_mul64 eu h1 (by rw [ew, Int32.toInt_toInt64, e]) (by omega) rfl (by omega) (by omega), z_mul64 (b := 100) ed h2 (by decide) (by decide) (by decide) (by decide) (by omega)⟩
theorem z_dv64 {x y q : Int64} (eq : q = x / y) (hx : 0 ≤ x.toInt) (hy : 1 ≤ y.toInt) : q.toInt = ((x.toInt.toNat / y.toInt.toNat : Nat) : Int) := by
  have hh := Int64.toInt_lt x
  have h1 : x.toInt / y.toInt ≤ x.toInt := Int.ediv_le_self _ hx
  have h2 : 0 ≤ x.toInt / y.toInt := Int.ediv_nonneg hx (by omega)
  rw [eq, Int64.toInt_div, Int.tdiv_eq_ediv_of_nonneg hx, z_bm64 (by omega) (by omega), Int.natCast_ediv, Int.toNat_of_nonneg hx, Int.toNat_of_nonneg (by omega)]
/-- how likely -/
def zHmC (h m : Nat) (p : Int) : Int := (((if p = 0 then h / Nat.gcd h 100 else 100 / Nat.gcd h 100) ^ m : Nat) : Int)
def zHmR (h m : Nat) (p : Int) : Int := (((if p = 0 then h ^ m else 100 ^ m) / Nat.gcd (h ^ m) (100 ^ m) : Nat) : Int)
theorem z_hmD : ∀ h : Nat, h < 101 → ∀ m : Nat, m < 9 → 1 ≤ h → (h / Nat.gcd h 100) ^ m = h ^ m / Nat.gcd (h ^ m) (100 ^ m) ∧ (100 / Nat.gcd h 100) ^ m = 100 ^ m / Nat.gcd (h ^ m) (100 ^ m) := by decide +kernel
theorem z_hmU {h m : Nat} {p : Int} (h1 : 1 ≤ h) (h2 : h ≤ 100) (hm : m ≤ 8) : zHmC h m p = zHmR h m p := by
  have w := z_hmD h (by omega) m (by omega) h1
  unfold zHmC zHmR
  by_cases c : p = 0
  · rw [if_pos c, if_pos c, w.1]
  · rw [if_neg c, if_neg c, w.2]
theorem z_hmCE {lo h g b k p : Int32} {L : Int} {r : Int64} (l0 : 0 ≤ lo.toInt) (l9 : lo.toInt ≤ 99) (hh : h.toInt = 100 - lo.toInt) (hg : 1 ≤ h.toInt → 1 ≤ (100 : Int) → g.toInt = ((Nat.gcd h.toInt.toNat 100 : Nat) : Int)) (L1 : 1 ≤ L) (L9 : L ≤ 9) (s : (p.toInt = 0 ∧ b = h / g) ∨ (p.toInt ≠ 0 ∧ b = 100 / g)) (hk : k.toInt = L - 1) (hr : 0 ≤ b.toInt → b.toInt ≤ 100 → 0 ≤ k.toInt → k.toInt ≤ 8 → r.toInt = ((b.toInt.toNat ^ k.toInt.toNat : Nat) : Int)) : r.toInt = zHmC (100 - lo.toInt).toNat (L - 1).toNat p.toInt := by
  have eg := hg (by omega) (by decide)
  have g0 : 0 < Nat.gcd h.toInt.toNat 100 := Nat.gcd_pos_of_pos_right _ (by decide)
  have eh : (100 - lo.toInt).toNat = h.toInt.toNat := by omega
  have egn : g.toInt.toNat = Nat.gcd h.toInt.toNat 100 := by omega
  unfold zHmC
  rw [eh, show (L - 1).toNat = k.toInt.toNat by omega]
  rcases s with ⟨s1, s2⟩ | ⟨s1, s2⟩
  · have e := z_dvN s2 (by omega) (by omega)
    rw [egn] at e
    have le := Nat.div_le_self h.toInt.toNat (Nat.gcd h.toInt.toNat 100)
    rw [if_pos s1, hr (by rw [e]; exact Int.natCast_nonneg _) (by omega) (by omega) (by omega), e, Int.toNat_natCast]
  · have e := z_dvN (x := 100) s2 (by decide) (by omega)
    rw [egn] at e
    have e : b.toInt = ((100 / Nat.gcd h.toInt.toNat 100 : Nat) : Int) := e
    have le := Nat.div_le_self 100 (Nat.gcd h.toInt.toNat 100)
    rw [if_neg s1, hr (by rw [e]; exact Int.natCast_nonneg _) (by omega) (by omega) (by omega), e, Int.toNat_natCast]
theorem z_hmRE {lo p : Int32} {L l : Int} {u d g r x : Int64} (h : zHuI lo l u d) (el : l = L) (L1 : 1 ≤ L) (L9 : L ≤ 9) (s : (p.toInt = 0 ∧ x = u) ∨ (p.toInt ≠ 0 ∧ x = d)) (hg : 0 ≤ u.toInt → 0 ≤ d.toInt → g.toInt = ((Nat.gcd u.toInt.toNat d.toInt.toNat : Nat) : Int)) (er : r = x / g) : 0 ≤ lo.toInt → lo.toInt ≤ 99 → r.toInt = zHmR (100 - lo.toInt).toNat (L - 1).toNat p.toInt := fun a0 a9 => by
  subst el
  obtain ⟨h1, h2⟩ := h a0 a9 L9
  have u0 : 0 ≤ u.toInt := by rw [h1]; exact Int.natCast_nonneg _
  have d9 : 0 ≤ d.toInt := by rw [h2]; exact Int.natCast_nonneg _
  have eg := hg u0 d9
  rw [h1, h2, Int.toNat_natCast, Int.toNat_natCast] at eg
  have d0 : 0 < 100 ^ (l - 1).toNat := Nat.pow_pos (by decide)
  have g0 : 0 < Nat.gcd ((100 - lo.toInt).toNat ^ (l - 1).toNat) (100 ^ (l - 1).toNat) := Nat.gcd_pos_of_pos_right _ d0
  have egn : g.toInt.toNat = Nat.gcd ((100 - lo.toInt).toNat ^ (l - 1).toNat) (100 ^ (l - 1).toNat) := by omega
  unfold zHmR
  rcases s with ⟨s1, s2⟩ | ⟨s1, s2⟩
  · subst s2
    rw [if_pos s1, z_dv64 er u0 (by omega), egn, h1, Int.toNat_natCast]
  · subst s2
    rw [if_neg s1, z_dv64 er d9 (by omega), egn, h2, Int.toNat_natCast]
theorem z_lless {p : Int32} {w y : Int64} (ew : w = p.toInt64) (ey : y = 4000000000000000000 - w) : y.toInt = 4000000000000000000 - p.toInt := by
  have h1 := z_lo p
  have h2 := z_hi p
  rw [ey, Int64.toInt_sub, ew, Int32.toInt_toInt64, show (4000000000000000000 : Int64).toInt = 4000000000000000000 by decide]
  exact z_bm64 (by omega) (by omega)
def zHoR (L p : Int) (w : Prop) (r : Int) : Prop := ((p < 0 ∨ 1 < p) ∧ r = 4000000000000000002) ∨ (0 ≤ p ∧ p ≤ 1 ∧ L = 0 ∧ r = 4000000000000000003) ∨ (0 ≤ p ∧ p ≤ 1 ∧ 9 < L ∧ r = 4000000000000000006) ∨ (0 ≤ p ∧ p ≤ 1 ∧ 0 < L ∧ L ≤ 9 ∧ w)
def zHoC (P L : Int) (G : Nat → ZQ) (tx sz on cu sp ow : Nat → Int32) (ki lo p : Int32) (r : Int64) : Prop := zHoR L p.toInt (∃ y : Int32, zGsC P L G tx sz on cu sp ow ki 3 y ∧ ((y.toInt = 0 ∧ r.toInt = p.toInt) ∨ (y.toInt ≠ 0 ∧ r.toInt = zHmC (100 - lo.toInt).toNat (L - 1).toNat p.toInt))) r.toInt
def zHoM (P L : Int) (wd mn : Nat → Int32) (jk jw : Int32) (kd fg sp wh cu kl : Nat → Int32) (lo p : Int32) (r : Int64) : Prop := zHoR L p.toInt (∃ y : Int32, zGsM P L wd mn jk jw kd fg sp wh cu kl 3 y ∧ ((y.toInt = 0 ∧ r.toInt = p.toInt) ∨ (y.toInt ≠ 0 ∧ (0 ≤ lo.toInt → lo.toInt ≤ 99 → r.toInt = zHmR (100 - lo.toInt).toNat (L - 1).toNat p.toInt)))) r.toInt
theorem z_hoLaw {P L ki Q M jk jw lo lo2 p : Int32} {r r2 : Int64} {G : Nat → ZQ} {sp cu ow on tx sz a1 a2 a3 a4 a5 a6 a7 a8 : Nat → Int32} {i1 i2 i3 : Int} (hC : zHoC P.toInt L.toInt G tx sz on cu sp ow ki lo p r) (hM : zHoM Q.toInt M.toInt a8 a5 jk jw a1 a2 a3 a4 a6 a7 lo2 p r2) (el : lo.toInt = lo2.toInt) (l0 : 0 ≤ lo.toInt) (l9 : lo.toInt ≤ 99) (hr : zRe P L ki sp cu ow on tx sz (zSt a1 a2 a3 a4 a5 a6 a7 a8 i1 i2 i3)) (hk : zKn P.toInt G a1 a2) (hs : sp = a3) (hc : cu = a6) (hP : P.toInt = Q.toInt) (hL : L.toInt = M.toInt) (hL2 : L.toInt ≤ 12) (hP5 : P.toInt ≤ 5) (hP0 : 0 ≤ P.toInt) (hj : jk.toInt = -9) (hsr : zSrR P.toInt sp) : r.toInt = r2.toInt := by
  rcases hC with ⟨a, b⟩ | ⟨a, a2, b, c⟩ | ⟨a, a2, b, c⟩ | ⟨a, a2, b, b2, y, c, d⟩ <;> rcases hM with ⟨e, f⟩ | ⟨e, e2, f, g⟩ | ⟨e, e2, f, g⟩ | ⟨e, e2, f, f2, y2, g, h⟩ <;> try (exfalso; omega)
  · omega
  · omega
  · omega
  · have ey := z_gsLaw c g hr hk hs hc hP hL hL2 hP5 hP0 hj hsr
    rcases d with ⟨d1, d2⟩ | ⟨d1, d2⟩ <;> rcases h with ⟨h1, h2⟩ | ⟨h1, h2⟩ <;> try (exfalso; omega)
    · omega
    · rw [d2, h2 (by omega) (by omega), ← el, ← hL]
      exact z_hmU (by omega) (by omega) (by omega)

