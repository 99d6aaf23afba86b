/-- the net: steps, what is reached -/
def zStp (af : Nat → Int32) (b : Int32) : Nat → Int32
  | 0 => 0
  | k + 1 => if bt b k = true then zStp af b k ||| af k else zStp af b k
theorem z_stpS {af : Nat → Int32} {b k k2 t t2 y : Int32} (h : t = zStp af b k.toInt.toNat) (k0 : 0 ≤ k.toInt) (hk : k2.toInt = k.toInt + 1) (hb : (y.toInt = 1 ∧ bt b k.toInt.toNat = true) ∨ (y.toInt = 0 ∧ bt b k.toInt.toNat = false)) (s : (y.toInt = 1 ∧ t2 = t ||| af k.toNatClampNeg) ∨ (y.toInt ≠ 1 ∧ t2 = t)) : t2 = zStp af b k2.toInt.toNat := by
  rw [show k2.toInt.toNat = k.toInt.toNat + 1 by omega]
  show t2 = if bt b k.toInt.toNat = true then zStp af b k.toInt.toNat ||| af k.toInt.toNat else zStp af b k.toInt.toNat
  rw [← h]
  rcases s with ⟨s1, s2⟩ | ⟨s1, s2⟩
  · rw [if_pos (z_btT hb s1), s2]
    rfl
  · rw [if_neg (by rw [z_btF hb s1]; decide), s2]
theorem z_stp0 {af : Nat → Int32} {b k : Int32} (hk : k.toInt = 0) : (0 : Int32) = zStp af b k.toInt.toNat := by
  rw [hk]
  rfl
def zRch (af : Nat → Int32) (n : Nat) (b : Int32) : Nat → Int32
  | 0 => b
  | k + 1 => zRch af n b k ||| zStp af (zRch af n b k) n
theorem z_rchS {af : Nat → Int32} {n : Nat} {b k k2 t t2 y : Int32} (h : t = zRch af n b k.toInt.toNat) (k0 : 0 ≤ k.toInt) (hk : k2.toInt = k.toInt + 1) (hy : y = zStp af t n) (h2 : t2 = t ||| y) : t2 = zRch af n b k2.toInt.toNat := by
  rw [show k2.toInt.toNat = k.toInt.toNat + 1 by omega]
  show t2 = zRch af n b k.toInt.toNat ||| zStp af (zRch af n b k.toInt.toNat) n
  rw [← h, ← hy]
  exact h2
theorem z_rch0 {af : Nat → Int32} {n : Nat} {b k : Int32} (hk : k.toInt = 0) : b = zRch af n b k.toInt.toNat := by
  rw [hk]
  rfl
theorem z_rchE {af : Nat → Int32} {n : Nat} {b t : Int32} {k L : Int} (h : t = zRch af n b k.toNat) (e : k = L) : t = zRch af n b L.toNat := by
  rw [← e]
  exact h
theorem z_stpE {af : Nat → Int32} {b t : Int32} {k L : Int} (h : t = zStp af b k.toNat) (e : k = L) : t = zStp af b L.toNat := by
  rw [← e]
  exact h
theorem z_stpC {af fo : Nat → Int32} {b : Int32} : ∀ n : Nat, (∀ l : Nat, l < n → af l = fo l) → zStp af b n = zStp fo b n := by
  intro n
  induction n with
  | zero => intro _; rfl
  | succ n ih =>
    intro h
    show (if bt b n = true then zStp af b n ||| af n else zStp af b n) = if bt b n = true then zStp fo b n ||| fo n else zStp fo b n
    rw [ih (fun l hl => h l (by omega)), h n (by omega)]
theorem z_rchC {af fo : Nat → Int32} {n : Nat} {b : Int32} (h : ∀ l : Nat, l < n → af l = fo l) : ∀ k : Nat, zRch af n b k = zRch fo n b k := by
  intro k
  induction k with
  | zero => rfl
  | succ k ih =>
    show zRch af n b k ||| zStp af (zRch af n b k) n = zRch fo n b k ||| zStp fo (zRch fo n b k) n
    rw [ih, z_stpC n h]
/-- only bits below so many -/
def zCf (n : Nat) (x : Int32) : Prop := ∀ i : Nat, bt x i = true → i < n
theorem z_cfO {n : Nat} {x y : Int32} (hx : zCf n x) (hy : zCf n y) : zCf n (x ||| y) := fun i h => by
  rw [b_or] at h
  rcases (Bool.or_eq_true _ _).mp h with h | h
  · exact hx i h
  · exact hy i h
theorem z_cfS {fo : Nat → Int32} {n m : Nat} {b : Int32} (hf : ∀ l : Nat, l < m → zCf n (fo l)) : ∀ k : Nat, k ≤ m → zCf n (zStp fo b k) := by
  intro k
  induction k with
  | zero => intro _ i h; exact absurd h (by show ¬ bt 0 i = true; rw [b_0]; decide)
  | succ k ih =>
    intro hk
    show zCf n (if bt b k = true then zStp fo b k ||| fo k else zStp fo b k)
    split
    · exact z_cfO (ih (by omega)) (hf k (by omega))
    · exact ih (by omega)
theorem z_cfR {fo : Nat → Int32} {n : Nat} {b : Int32} (hf : ∀ l : Nat, l < n → zCf n (fo l)) (hb : zCf n b) : ∀ k : Nat, zCf n (zRch fo n b k) := by
  intro k
  induction k with
  | zero => exact hb
  | succ k ih => exact z_cfO ih (z_cfS hf n (Nat.le_refl n))
theorem z_rchP {fo : Nat → Int32} {n k : Nat} {b : Int32} (h : zRch fo n b (k + 1) = zRch fo n b k) : ∀ j : Nat, zRch fo n b (k + j) = zRch fo n b k := by
  intro j
  induction j with
  | zero => rfl
  | succ j ih =>
    show zRch fo n b (k + j) ||| zStp fo (zRch fo n b (k + j)) n = zRch fo n b k
    rw [ih]
    exact h
def zCnt (x : Int32) : Nat → Nat
  | 0 => 0
  | k + 1 => zCnt x k + (if bt x k = true then 1 else 0)
theorem z_cntB {x : Int32} : ∀ k : Nat, zCnt x k ≤ k := by
  intro k
  induction k with
  | zero => exact Nat.le_refl _
  | succ k ih =>
    show zCnt x k + (if bt x k = true then 1 else 0) ≤ k + 1
    split <;> omega
theorem z_cntM {x y : Int32} (h : ∀ i : Nat, bt x i = true → bt y i = true) : ∀ k : Nat, zCnt x k ≤ zCnt y k := by
  intro k
  induction k with
  | zero => exact Nat.le_refl _
  | succ k ih =>
    show zCnt x k + (if bt x k = true then 1 else 0) ≤ zCnt y k + (if bt y k = true then 1 else 0)
    by_cases c : bt x k = true
    · rw [if_pos c, if_pos (h k c)]
      omega
    · rw [if_neg c]
      omega
theorem z_cntL {x y : Int32} {i : Nat} (h : ∀ i : Nat, bt x i = true → bt y i = true) (hx : bt x i = false) (hy : bt y i = true) : ∀ k : Nat, i < k → zCnt x k < zCnt y k := by
  intro k
  induction k with
  | zero => intro h0; omega
  | succ k ih =>
    intro hk
    show zCnt x k + (if bt x k = true then 1 else 0) < zCnt y k + (if bt y k = true then 1 else 0)
    by_cases c : i = k
    · rw [← c, if_neg (by rw [hx]; decide), if_pos hy]
      have := z_cntM h i
      omega
    · have := ih (by omega)
      by_cases d : bt x k = true
      · rw [if_pos d, if_pos (h k d)]
        omega
      · rw [if_neg d]
        omega
theorem z_rchG {fo : Nat → Int32} {n : Nat} {b : Int32} (hf : ∀ l : Nat, l < n → zCf n (fo l)) (hb : zCf n b) (k : Nat) (hne : zRch fo n b (k + 1) ≠ zRch fo n b k) : zCnt (zRch fo n b k) n < zCnt (zRch fo n b (k + 1)) n := by
  have mo : ∀ i : Nat, bt (zRch fo n b k) i = true → bt (zRch fo n b (k + 1)) i = true := fun i h => by
    show bt (zRch fo n b k ||| zStp fo (zRch fo n b k) n) i = true
    rw [b_or, h]
    rfl
  have ex : ∃ i : Nat, bt (zRch fo n b k) i ≠ bt (zRch fo n b (k + 1)) i := Classical.byContradiction (fun w => hne (b_ext (fun i _ => Classical.byContradiction (fun v => w ⟨i, fun e => v e.symm⟩))))
  obtain ⟨i, hi⟩ := ex
  have h1 : bt (zRch fo n b k) i = false := by
    cases c : bt (zRch fo n b k) i
    · rfl
    · exact absurd (c.trans (mo i c).symm) hi
  have h2 : bt (zRch fo n b (k + 1)) i = true := by
    cases c : bt (zRch fo n b (k + 1)) i
    · exact absurd (h1.trans c.symm) hi
    · rfl
  exact z_cntL mo h1 h2 n (z_cfR hf hb (k + 1) i h2)
theorem z_rchX {fo : Nat → Int32} {n c0 : Nat} {b : Int32} (hf : ∀ l : Nat, l < n → zCf n (fo l)) (hb : zCf n b) (hc : c0 ≤ zCnt b n) : ∃ k : Nat, k + c0 ≤ n ∧ zRch fo n b (k + 1) = zRch fo n b k := by
  refine Classical.byContradiction (fun w => ?_)
  have hne : ∀ k : Nat, k + c0 ≤ n → zRch fo n b (k + 1) ≠ zRch fo n b k := fun k hk e => w ⟨k, hk, e⟩
  have gr : ∀ k : Nat, k + c0 ≤ n + 1 → k + c0 ≤ zCnt (zRch fo n b k) n := by
    intro k
    induction k with
    | zero => intro _; show 0 + c0 ≤ zCnt b n; omega
    | succ k ih =>
      intro hk
      have := ih (by omega)
      have := z_rchG hf hb k (hne k (by omega))
      omega
  have b1 := z_cntB (x := zRch fo n b (n + 1 - c0)) n
  have b2 := z_cntB (x := b) n
  have := gr (n + 1 - c0) (by omega)
  omega
/-- what is reached in the end -/
theorem z_fixE {fo : Nat → Int32} {n m : Nat} {b : Int32} (hf : ∀ l : Nat, l < n → zCf n (fo l)) (hb : zCf n b) (hm : zRch fo n b (m + 1) = zRch fo n b m) : zRch fo n b m = zRch fo n b n := by
  obtain ⟨k, k1, k2⟩ := z_rchX (c0 := 0) hf hb (Nat.zero_le _)
  have p1 := z_rchP k2 (n - k)
  rw [show k + (n - k) = n by omega] at p1
  rw [p1]
  by_cases c : k ≤ m
  · have p2 := z_rchP k2 (m - k)
    rw [show k + (m - k) = m by omega] at p2
    exact p2
  · have p2 := z_rchP hm (k - m)
    rw [show m + (k - m) = k by omega] at p2
    exact p2.symm
/-- the follow bits as a function -/
theorem z_bqX (Q : Nat → Prop) : ∀ m : Nat, m < 12 → ∃ x : Int32, zBq Q ((m : Int) + 1) x := by
  intro m
  induction m with
  | zero => intro _; exact ⟨0, z_bq0 (by omega)⟩
  | succ m ih =>
    intro hm
    obtain ⟨x, h⟩ := ih (by omega)
    have e1 : (zIo ((m : Int) + 1)).toInt = (m : Int) + 1 := z_ioT (by omega) (by omega)
    have e2 : (zIo ((m : Int) + 2)).toInt = (m : Int) + 2 := z_ioT (by omega) (by omega)
    have en : (zIo ((m : Int) + 1)).toInt.toNat = m + 1 := by omega
    by_cases c : Q (m + 1)
    · have w := z_bqS (k := zIo ((m : Int) + 1)) (k2 := zIo ((m : Int) + 2)) (y := x ||| ((1 : Int32) <<< (zIo ((m : Int) + 1) &&& 31))) (by rw [e1]; exact h) (by omega) (by omega) (by omega) (Or.inl ⟨by rw [en]; exact c, _, rfl, rfl⟩)
      rw [e2] at w
      exact ⟨_, by rw [show (((m + 1 : Nat) : Int) + 1) = (m : Int) + 2 by omega]; exact w⟩
    · have w := z_bqS (k := zIo ((m : Int) + 1)) (k2 := zIo ((m : Int) + 2)) (y := x ||| 0) (by rw [e1]; exact h) (by omega) (by omega) (by omega) (Or.inr ⟨by rw [en]; exact c, rfl⟩)
      rw [e2] at w
      exact ⟨_, by rw [show (((m + 1 : Nat) : Int) + 1) = (m : Int) + 2 by omega]; exact w⟩
noncomputable def zFoF (wd mn : Nat → Int32) (jk jw : Int32) (kd fg wh cu : Nat → Int32) (L : Int) (l : Nat) : Int32 := Classical.epsilon (fun x => zBq (zFq wd mn jk jw kd fg wh cu (l : Int)) L x)
theorem z_foFS {wd mn : Nat → Int32} {jk jw : Int32} {kd fg wh cu : Nat → Int32} {L : Int} {l : Nat} (L0 : 0 < L) (L12 : L ≤ 12) : zBq (zFq wd mn jk jw kd fg wh cu (l : Int)) L (zFoF wd mn jk jw kd fg wh cu L l) := by
  obtain ⟨x, h⟩ := z_bqX (zFq wd mn jk jw kd fg wh cu (l : Int)) (L - 1).toNat (by omega)
  rw [show (((L - 1).toNat : Nat) : Int) + 1 = L by omega] at h
  exact Classical.epsilon_spec (p := fun x => zBq (zFq wd mn jk jw kd fg wh cu (l : Int)) L x) ⟨x, h⟩
theorem z_bqU {Q : Nat → Prop} {L : Int} {x y : Int32} (h : zBq Q L x) (h2 : zBq Q L y) : x = y := z_b12E h.1 h2.1 (fun i hi => by
  have e : bt x i = true ↔ bt y i = true := (h.2 i hi).trans (h2.2 i hi).symm
  cases c : bt x i <;> cases d : bt y i
  · rfl
  · rw [c, d] at e; exact absurd (e.mpr rfl) (by decide)
  · rw [c, d] at e; exact absurd (e.mp rfl) (by decide)
  · rfl)
theorem z_foFE {wd mn : Nat → Int32} {jk jw : Int32} {kd fg wh cu : Nat → Int32} {L : Int} {l y : Int32} (h : zBq (zFq wd mn jk jw kd fg wh cu l.toInt) L y) (l0 : 0 ≤ l.toInt) (L0 : 0 < L) (L12 : L ≤ 12) : y = zFoF wd mn jk jw kd fg wh cu L l.toNatClampNeg := by
  refine z_bqU h ?_
  have w := z_foFS (wd := wd) (mn := mn) (jk := jk) (jw := jw) (kd := kd) (fg := fg) (wh := wh) (cu := cu) (l := l.toNatClampNeg) L0 L12
  rw [z_cl l0] at w
  exact w
theorem z_bqC {Q : Nat → Prop} {L : Int} {x : Int32} (h : zBq Q L x) : zCf L.toNat x := fun i hi => by
  by_cases c : i < 12
  · have := (h.2 i c).mp hi
    omega
  · by_cases d : i < 32
    · rw [h.1 i (by omega) d] at hi
      exact absurd hi (by decide)
    · rw [b_big (by omega)] at hi
      exact absurd hi (by decide)
theorem z_cf1 {n : Nat} (h : 0 < n) : zCf n 1 := fun i hi => by
  by_cases d : i < 32
  · have w : ∀ i : Nat, i < 32 → bt (1 : Int32) i = decide (i = 0) := by decide +kernel
    rw [w i d] at hi
    have := of_decide_eq_true hi
    omega
  · rw [b_big (by omega)] at hi
    exact absurd hi (by decide)
theorem z_cnt1 {n : Nat} (h : 0 < n) : 1 ≤ zCnt 1 n := by
  have : ∀ k : Nat, 0 < k → 1 ≤ zCnt 1 k := by
    intro k
    induction k with
    | zero => intro h0; omega
    | succ k ih =>
      intro _
      show 1 ≤ zCnt 1 k + (if bt 1 k = true then 1 else 0)
      by_cases c : k = 0
      · rw [c, if_pos (by decide)]
        omega
      · have := ih (by omega)
        omega
  exact this n h
/-- the net: the fewest steps, rounds, whether it is sure -/
theorem z_stpZ {af : Nat → Int32} {b k k2 t t2 y : Int32} (h : t = zStp af b k.toInt.toNat) (k0 : 0 ≤ k.toInt) (hk : k2.toInt = k.toInt + 1) (hb : (y.toInt = 1 ∧ bt b k.toInt.toNat = true) ∨ (y.toInt = 0 ∧ bt b k.toInt.toNat = false)) (s : (y.toInt = 1 ∧ ∃ w : Int32, w = af k.toNatClampNeg ∧ t2 = t ||| w) ∨ (y.toInt ≠ 1 ∧ (t2 = t ∨ t2 = t ||| 0))) : t2 = zStp af b k2.toInt.toNat := by
  refine z_stpS h k0 hk hb ?_
  rcases s with ⟨s1, w, s2, s3⟩ | ⟨s1, s2⟩
  · exact Or.inl ⟨s1, by rw [s3, s2]⟩
  · rcases s2 with s2 | s2
    · exact Or.inr ⟨s1, s2⟩
    · exact Or.inr ⟨s1, by rw [s2, z_or0]⟩
def zFwI (af : Nat → Int32) (n : Nat) (k : Int) (t : Int32) : Prop := t = zRch af n 1 k.toNat ∧ ∀ q : Nat, (q : Int) < k → bt (zRch af n 1 q) (n - 1) = false
theorem z_fwI0 {af : Nat → Int32} {n : Nat} {k : Int} (h : k = 0) : zFwI af n k 1 := ⟨by rw [h]; rfl, fun q hq => by omega⟩
theorem z_fwIS {af : Nat → Int32} {n : Nat} {k k2 t t2 y u w : Int32} (h : zFwI af n k.toInt t) (k0 : 0 ≤ k.toInt) (hk : k2.toInt = k.toInt + 1) (hu : u.toInt = (n : Int) - 1) (n0 : 0 < n) (hb : (y.toInt = 1 ∧ bt t u.toInt.toNat = true) ∨ (y.toInt = 0 ∧ bt t u.toInt.toNat = false)) (hy : y.toInt ≠ 1) (hs : w = zStp af t n) (h2 : t2 = t ||| w) : zFwI af n k2.toInt t2 := by
  refine ⟨?_, fun q hq => ?_⟩
  · rw [show k2.toInt.toNat = k.toInt.toNat + 1 by omega]
    show t2 = zRch af n 1 k.toInt.toNat ||| zStp af (zRch af n 1 k.toInt.toNat) n
    rw [← h.1, ← hs]
    exact h2
  · by_cases c : q = k.toInt.toNat
    · rw [c, ← h.1, show n - 1 = u.toInt.toNat by omega]
      exact z_btF hb hy
    · exact h.2 q (by omega)
def zFwP (af : Nat → Int32) (n m : Nat) (r : Int) : Prop := (0 ≤ r ∧ r < (m : Int) ∧ bt (zRch af n 1 r.toNat) (n - 1) = true ∧ ∀ q : Nat, (q : Int) < r → bt (zRch af n 1 q) (n - 1) = false) ∨ (r = -9 ∧ ∀ q : Nat, q < m → bt (zRch af n 1 q) (n - 1) = false)
theorem z_fwT {af : Nat → Int32} {n m : Nat} {k t y u : Int32} (h : zFwI af n k.toInt t) (k0 : 0 ≤ k.toInt) (km : k.toInt < (m : Int)) (hu : u.toInt = (n : Int) - 1) (n0 : 0 < n) (hb : (y.toInt = 1 ∧ bt t u.toInt.toNat = true) ∨ (y.toInt = 0 ∧ bt t u.toInt.toNat = false)) (hy : y.toInt = 1) : zFwP af n m k.toInt := Or.inl ⟨k0, km, by rw [← h.1, show n - 1 = u.toInt.toNat by omega]; exact z_btT hb hy, h.2⟩
theorem z_fwN {af : Nat → Int32} {n m : Nat} {k r : Int} {t : Int32} (h : zFwI af n k t) (km : (m : Int) ≤ k) (hr : r = -9) : zFwP af n m r := Or.inr ⟨hr, fun q hq => h.2 q (by omega)⟩
theorem z_fwU9 {fo : Nat → Int32} {n : Nat} {r r2 : Int} (hf : ∀ l : Nat, l < n → zCf n (fo l)) (n0 : 0 < n) (n12 : n ≤ 12) (h : zFwP fo n n r) (h2 : zFwP fo n 12 r2) : r = r2 := by
  obtain ⟨k, k1, k2⟩ := z_rchX (c0 := 1) hf (z_cf1 n0) (z_cnt1 n0)
  have st : ∀ j : Nat, k ≤ j → zRch fo n 1 j = zRch fo n 1 k := fun j hj => by
    have w := z_rchP k2 (j - k)
    rw [show k + (j - k) = j by omega] at w
    exact w
  rcases h with ⟨a0, a1, a2, a3⟩ | ⟨a0, a1⟩ <;> rcases h2 with ⟨b0, b1, b2, b3⟩ | ⟨b0, b1⟩
  · rcases Int.lt_trichotomy r r2 with c | c | c
    · have w := b3 r.toNat (by omega)
      rw [a2] at w
      exact absurd w (by decide)
    · exact c
    · have w := a3 r2.toNat (by omega)
      rw [b2] at w
      exact absurd w (by decide)
  · have w := b1 r.toNat (by omega)
    rw [a2] at w
    exact absurd w (by decide)
  · by_cases c : r2.toNat < n
    · have w := a1 r2.toNat c
      rw [b2] at w
      exact absurd w (by decide)
    · have w := a1 k (by omega)
      rw [← st r2.toNat (by omega), b2] at w
      exact absurd w (by decide)
  · omega
def zRdI (af : Nat → Int32) (n : Nat) (R : Int32) (k : Int) : Prop := ∀ q : Nat, (q : Int) < k → ¬ (bt R q = true ∧ bt (zRch af n (af q) n) q = true)
theorem z_rdI0 {af : Nat → Int32} {n : Nat} {R : Int32} {k : Int} (h : k = 0) : zRdI af n R k := fun q hq => by omega
theorem z_rdN1 {af : Nat → Int32} {n : Nat} {R k k2 y : Int32} (h : zRdI af n R k.toInt) (k0 : 0 ≤ k.toInt) (hk : k2.toInt = k.toInt + 1) (hb : (y.toInt = 1 ∧ bt R k.toInt.toNat = true) ∨ (y.toInt = 0 ∧ bt R k.toInt.toNat = false)) (hy : y.toInt ≠ 1) : zRdI af n R k2.toInt := fun q hq w => by
  by_cases c : q = k.toInt.toNat
  · have v := z_btF hb hy
    rw [← c, w.1] at v
    exact absurd v (by decide)
  · exact h q (by omega) w
theorem z_rdN2 {af : Nat → Int32} {n : Nat} {R k k2 y a w : Int32} (h : zRdI af n R k.toInt) (k0 : 0 ≤ k.toInt) (hk : k2.toInt = k.toInt + 1) (ea : a = af k.toNatClampNeg) (hw : w = zRch af n a n) (hb : (y.toInt = 1 ∧ bt w k.toInt.toNat = true) ∨ (y.toInt = 0 ∧ bt w k.toInt.toNat = false)) (hy : y.toInt ≠ 1) : zRdI af n R k2.toInt := fun q hq v => by
  by_cases c : q = k.toInt.toNat
  · have u := z_btF hb hy
    rw [hw, ea, show k.toNatClampNeg = q from c.symm, ← c, v.2] at u
    exact absurd u (by decide)
  · exact h q (by omega) v
def zRnd (af : Nat → Int32) (n : Nat) : Prop := ∃ q : Nat, q < n ∧ bt (zRch af n 1 n) q = true ∧ bt (zRch af n (af q) n) q = true
theorem z_rdT {af : Nat → Int32} {n : Nat} {R k y y2 a w : Int32} {r : Int} (hR : R = zRch af n 1 n) (k0 : 0 ≤ k.toInt) (kn : k.toInt < (n : Int)) (hb : (y.toInt = 1 ∧ bt R k.toInt.toNat = true) ∨ (y.toInt = 0 ∧ bt R k.toInt.toNat = false)) (hy : y.toInt = 1) (ea : a = af k.toNatClampNeg) (hw : w = zRch af n a n) (hb2 : (y2.toInt = 1 ∧ bt w k.toInt.toNat = true) ∨ (y2.toInt = 0 ∧ bt w k.toInt.toNat = false)) (hy2 : y2.toInt = 1) (hr : r = 1) : zYn (zRnd af n) r := by
  refine Or.inl ⟨hr, k.toInt.toNat, by omega, by rw [← hR]; exact z_btT hb hy, ?_⟩
  have v := z_btT hb2 hy2
  rw [hw, ea] at v
  exact v
theorem z_rdF {af : Nat → Int32} {n : Nat} {R : Int32} {k r : Int} (h : zRdI af n R k) (hR : R = zRch af n 1 n) (kn : (n : Int) ≤ k) (hr : r = 0) : zYn (zRnd af n) r := Or.inr ⟨hr, fun ⟨q, q1, q2, q3⟩ => h q (by omega) ⟨by rw [hR]; exact q2, q3⟩⟩
def zDue (n q : Nat) : Int32 := if q + 1 < n then (1 : Int32) <<< (zIo ((q : Int) + 1) &&& 31) else 0
def zSuI (af : Nat → Int32) (n : Nat) (k : Int) : Prop := ∀ q : Nat, (q : Int) < k → af q = zDue n q
theorem z_suI0 {af : Nat → Int32} {n : Nat} {k : Int} (h : k = 0) : zSuI af n k := fun q hq => by omega
theorem z_due {n : Nat} {k d : Int32} (k0 : 0 ≤ k.toInt) (s : (k.toInt + 1 < (n : Int) ∧ ∃ u : Int32, u.toInt = k.toInt + 1 ∧ d = (1 : Int32) <<< (u &&& 31)) ∨ (¬ k.toInt + 1 < (n : Int) ∧ d = 0)) : d = zDue n k.toInt.toNat := by
  unfold zDue
  rcases s with ⟨s1, u, s2, s3⟩ | ⟨s1, s2⟩
  · rw [if_pos (by omega), s3, z_io (x := u) (v := ((k.toInt.toNat : Nat) : Int) + 1) (by omega)]
  · rw [if_neg (by omega)]
    exact s2
theorem z_suS {af : Nat → Int32} {n : Nat} {k k2 a d : Int32} (h : zSuI af n k.toInt) (k0 : 0 ≤ k.toInt) (hk : k2.toInt = k.toInt + 1) (ea : a = af k.toNatClampNeg) (e : a.toInt = d.toInt) (s : (k.toInt + 1 < (n : Int) ∧ ∃ u : Int32, u.toInt = k.toInt + 1 ∧ d = (1 : Int32) <<< (u &&& 31)) ∨ (¬ k.toInt + 1 < (n : Int) ∧ d = 0)) : zSuI af n k2.toInt := fun q hq => by
  by_cases c : q = k.toInt.toNat
  · rw [c, ← z_due k0 s, ← z_i32 e, ea]
    rfl
  · exact h q (by omega)
theorem z_suT {af : Nat → Int32} {n : Nat} {k r : Int} (h : zSuI af n k) (kn : (n : Int) ≤ k) (hr : r = 1) : zYn (zSuI af n (n : Int)) r := Or.inl ⟨hr, fun q hq => h q (by omega)⟩
theorem z_suF {af : Nat → Int32} {n : Nat} {k a d : Int32} {r : Int} (k0 : 0 ≤ k.toInt) (kn : k.toInt < (n : Int)) (ea : a = af k.toNatClampNeg) (e : a.toInt ≠ d.toInt) (s : (k.toInt + 1 < (n : Int) ∧ ∃ u : Int32, u.toInt = k.toInt + 1 ∧ d = (1 : Int32) <<< (u &&& 31)) ∨ (¬ k.toInt + 1 < (n : Int) ∧ d = 0)) (hr : r = 0) : zYn (zSuI af n (n : Int)) r := Or.inr ⟨hr, fun w => e (by
  have v := w k.toInt.toNat (by omega)
  rw [← z_due k0 s] at v
  rw [ea, ← v]
  rfl)⟩
/-- the reference: what is reached -/
def zRfI (fo : Nat → Int32) (n : Nat) (b was now : Int32) : Prop := (was = -1 ∧ now = b) ∨ ∃ k : Nat, was = zRch fo n b k ∧ now = zRch fo n b (k + 1)
theorem z_rfI0 {fo : Nat → Int32} {n : Nat} {b : Int32} : zRfI fo n b (-1) b := Or.inl ⟨rfl, rfl⟩
theorem z_rfIS {fo : Nat → Int32} {n : Nat} {b was now w t : Int32} (h : zRfI fo n b was now) (hw : w = zStp fo now n) (ht : t = now ||| w) : zRfI fo n b now t := by
  rcases h with ⟨h1, h2⟩ | ⟨k, h1, h2⟩
  · refine Or.inr ⟨0, h2, ?_⟩
    show t = b ||| zStp fo b n
    rw [ht, hw, h2]
  · refine Or.inr ⟨k + 1, h2, ?_⟩
    show t = zRch fo n b (k + 1) ||| zStp fo (zRch fo n b (k + 1)) n
    rw [ht, hw, h2]
theorem z_foC {wd mn : Nat → Int32} {jk jw : Int32} {kd fg wh cu : Nat → Int32} {L : Int} (L12 : L ≤ 12) : ∀ l : Nat, l < L.toNat → zCf L.toNat (zFoF wd mn jk jw kd fg wh cu L l) := fun l hl => z_bqC (z_foFS (by omega) L12)
theorem z_rfE {wd mn : Nat → Int32} {jk jw : Int32} {kd fg wh cu : Nat → Int32} {L : Int} {b was now : Int32} (h : zRfI (zFoF wd mn jk jw kd fg wh cu L) L.toNat b was now) (e : now.toInt = was.toInt) (L12 : L ≤ 12) : zCf L.toNat b → now = zRch (zFoF wd mn jk jw kd fg wh cu L) L.toNat b L.toNat := by
  intro hb
  have e2 := z_i32 e
  rcases h with ⟨h1, h2⟩ | ⟨k, h1, h2⟩
  · have w := hb 31 (by rw [← h2, e2, h1]; decide)
    omega
  · rw [h2]
    rw [h2, h1] at e2
    rw [e2]
    exact z_fixE (z_foC L12) hb e2
/-- net -/
def zNe4 (af : Nat → Int32) (n m : Nat) (p : Int) (r : Int32) : Prop := (p = 0 ∧ r = zRch af n 1 n) ∨ (p = 1 ∧ zFwP af n m r.toInt) ∨ (p = 2 ∧ zYn (zRnd af n) r.toInt) ∨ (p = 3 ∧ zYn (zSuI af n (n : Int)) r.toInt)
def zNeC (P L : Int) (G : Nat → ZQ) (tx sz on cu ow : Nat → Int32) (p r : Int32) : Prop := ((p.toInt < 0 ∨ 3 < p.toInt) ∧ r.toInt = -2) ∨ (0 ≤ p.toInt ∧ p.toInt ≤ 3 ∧ L = 0 ∧ r.toInt = -3) ∨ (0 ≤ p.toInt ∧ p.toInt ≤ 3 ∧ L ≠ 0 ∧ ∃ af : Nat → Int32, zWs P L G tx sz on cu ow af L ∧ zNe4 af L.toNat L.toNat p.toInt r)
def zNeM (wd mn : Nat → Int32) (jk jw : Int32) (kd fg wh cu : Nat → Int32) (L : Int) (p r : Int32) : Prop := ((p.toInt < 0 ∨ 3 < p.toInt) ∧ r.toInt = -2) ∨ (0 ≤ p.toInt ∧ p.toInt ≤ 3 ∧ L = 0 ∧ r.toInt = -3) ∨ (0 ≤ p.toInt ∧ p.toInt ≤ 3 ∧ L ≠ 0 ∧ zNe4 (zFoF wd mn jk jw kd fg wh cu L) L.toNat 12 p.toInt r)
theorem z_ynU9 {p q : Prop} {r r2 : Int} (h : zYn p r) (h2 : zYn q r2) (e : p ↔ q) : r = r2 := by
  rcases h with ⟨a, b⟩ | ⟨a, b⟩ <;> rcases h2 with ⟨c, d⟩ | ⟨c, d⟩
  · omega
  · exact absurd (e.mp b) d
  · exact absurd (e.mpr d) b
  · omega
theorem z_neU {af fo : Nat → Int32} {n : Nat} {p : Int} {r r2 : Int32} (e : ∀ l : Nat, l < n → af l = fo l) (hf : ∀ l : Nat, l < n → zCf n (fo l)) (n0 : 0 < n) (n12 : n ≤ 12) (h : zNe4 af n n p r) (h2 : zNe4 fo n 12 p r2) : r.toInt = r2.toInt := by
  have er : ∀ (b : Int32) (k : Nat), zRch af n b k = zRch fo n b k := fun b k => z_rchC e k
  rcases h with ⟨a, h⟩ | ⟨a, h⟩ | ⟨a, h⟩ | ⟨a, h⟩ <;> rcases h2 with ⟨b, h2⟩ | ⟨b, h2⟩ | ⟨b, h2⟩ | ⟨b, h2⟩ <;> try (exfalso; omega)
  · rw [h, h2, er]
  · refine z_fwU9 hf n0 n12 ?_ h2
    unfold zFwP at h ⊢
    simp only [er] at h
    exact h
  · refine z_ynU9 h h2 ⟨fun ⟨q, q1, q2, q3⟩ => ⟨q, q1, ?_, ?_⟩, fun ⟨q, q1, q2, q3⟩ => ⟨q, q1, ?_, ?_⟩⟩
    · rw [← er]; exact q2
    · rw [← e q q1, ← er]; exact q3
    · rw [er]; exact q2
    · rw [e q q1, er]; exact q3
  · exact z_ynU9 h h2 ⟨fun w q hq => by rw [← e q (by omega)]; exact w q hq, fun w q hq => by rw [e q (by omega)]; exact w q hq⟩
theorem z_neLaw {P L ki M jk jw p r r2 : Int32} {G : Nat → ZQ} {sp cu ow on tx sz a1 a2 a3 a4 a5 a6 a7 a8 : Nat → Int32} {i1 i2 i3 : Int} (hC : zNeC P.toInt L.toInt G tx sz on cu ow p r) (hM : zNeM a8 a5 jk jw a1 a2 a4 a6 M.toInt p r2) (hr : zRe P L ki sp cu ow on tx sz (zSt a1 a2 a3 a4 a5 a6 a7 a8 i1 i2 i3)) (hk : zKn P.toInt G a1 a2) (hc : cu = a6) (hL : L.toInt = M.toInt) (hL0 : 0 ≤ L.toInt) (hL2 : L.toInt ≤ 12) (hj : jk.toInt = -9) : r.toInt = r2.toInt := by
  subst hc
  rcases hC with ⟨a, b⟩ | ⟨a, a2, b, c⟩ | ⟨a, a2, b, af, c, d⟩ <;> rcases hM with ⟨e, f⟩ | ⟨e, e2, f, g⟩ | ⟨e, e2, f, g⟩ <;> try (exfalso; omega)
  · omega
  · omega
  · rw [← hL] at g
    refine z_neU (fun l hl => ?_) (z_foC hL2) (by omega) (by omega) d g
    have e1 : (zIo (l : Int)).toInt = (l : Int) := z_ioT (by omega) (by omega)
    have e3 : (zIo (l : Int)).toNatClampNeg = l := by
      show (zIo (l : Int)).toInt.toNat = l
      omega
    refine z_foEq (M := L) (jw := jw) (p := zIo (l : Int)) (r := af l) ?_ ?_ (z_pyRe hr hL2 hk) (z_reOw hr) (fun l hl => (hr.2.2.1 l (by omega)).2.1) rfl hj (by omega)
    · intro wd mn kd fg wh H hA hw
      rw [e3]
      exact c wd mn kd fg wh H hA hw l (by omega)
    · rw [e1]
      exact z_foFS (by omega) hL2

