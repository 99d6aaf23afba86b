/-- the net: steps, what is reached -/
def zStp (af : Nat → Int32) (b : Int32) : Nat → Int32
  | 0 => 0
  | k + 1 => if bt b k = true then zStp af b k ||| af k else zStp af b k
theorem z_stpS {af : Nat → Int32} {b k k2 t t2 y : Int32} (h : t = zStp af b k.toInt.toNat) (k0 : 0 ≤ k.toInt) (hk : k2.toInt = k.toInt + 1) (hb : (y.toInt = 1 ∧ bt b k.toInt.toNat = true) ∨ (y.toInt = 0 ∧ bt b k.toInt.toNat = false)) (s : (y.toInt = 1 ∧ t2 = t ||| af k.toNatClampNeg) ∨ (y.toInt ≠ 1 ∧ t2 = t)) : t2 = zStp af b k2.toInt.toNat := by
  rw [show k2.toInt.toNat = k.toInt.toNat + 1 by omega]
  show t2 = if bt b k.toInt.toNat = true then zStp af b k.toInt.toNat ||| af k.toInt.toNat else zStp af b k.toInt.toNat
  rw [← h]
  rcases s with ⟨s1, s2⟩ | ⟨s1, s2⟩
  · rw [if_pos (z_btT hb s1), s2]
    rfl
  · rw [if_neg (by rw [z_btF hb s1]; decide), s2]
theorem z_stp0 {af : Nat → Int32} {b k : Int32} (hk : k.toInt = 0) : (0 : Int32) = zStp af b k.toInt.toNat := by
  rw [hk]
  rfl
def zRch (af : Nat → Int32) (n : Nat) (b : Int32) : Nat → Int32
  | 0 => b
  | k + 1 => zRch af n b k ||| zStp af (zRch af n b k) n
theorem z_rchS {af : Nat → Int32} {n : Nat} {b k k2 t t2 y : Int32} (h : t = zRch af n b k.toInt.toNat) (k0 : 0 ≤ k.toInt) (hk : k2.toInt = k.toInt + 1) (hy : y = zStp af t n) (h2 : t2 = t ||| y) : t2 = zRch af n b k2.toInt.toNat := by
  rw [show k2.toInt.toNat = k.toInt.toNat + 1 by omega]
  show t2 = zRch af n b k.toInt.toNat ||| zStp af (zRch af n b k.toInt.toNat) n
  rw [← h, ← hy]
  exact h2
theorem z_rch0 {af : Nat → Int32} {n : Nat} {b k : Int32} (hk : k.toInt = 0) : b = zRch af n b k.toInt.toNat := by
  rw [hk]
  rfl
theorem z_rchE {af : Nat → Int32} {n : Nat} {b t : Int32} {k L : Int} (h : t = zRch af n b k.toNat) (e : k = L) : t = zRch af n b L.toNat := by
  rw [← e]
  exact h
theorem z_stpE {af : Nat → Int32} {b t : Int32} {k L : Int} (h : t = zStp af b k.toNat) (e : k = L) : t = zStp af b L.toNat := by
  rw [← e]
  exact h
theorem z_stpC {af fo : Nat → Int32} {b : Int32} : ∀ n : Nat, (∀ l : Nat, l < n → af l = fo l) → zStp af b n = zStp fo b n := by
  intro n
  induction n with
  | zero => intro _; rfl
  | succ n ih =>
    intro h
    show (if bt b n = true then zStp af b n ||| af n else zStp af b n) = if bt b n = true then zStp fo b n ||| fo n else zStp fo b n
    rw [ih (fun l hl => h l (by omega)), h n (by omega)]
theorem z_rchC {af fo : Nat → Int32} {n : Nat} {b : Int32} (h : ∀ l : Nat, l < n → af l = fo l) : ∀ k : Nat, zRch af n b k = zRch fo n b k := by
  intro k
  induction k with
  | zero => rfl
  | succ k ih =>
    show zRch af n b k ||| zStp af (zRch af n b k) n = zRch fo n b k ||| zStp fo (zRch fo n b k) n
    rw [ih, z_stpC n h]
/-- only bits below so many -/
def zCf (n : Nat) (x : Int32) : Prop := ∀ i : Nat, bt x i = true → i < n
theorem z_cfO {n : Nat} {x y : Int32} (hx : zCf n x) (hy : zCf n y) : zCf n (x ||| y) := fun i h => by
  rw [b_or] at h
  rcases (Bool.or_eq_true _ _).mp h with h | h
  · exact hx i h
  · exact hy i h
theorem z_cfS {fo : Nat → Int32} {n m : Nat} {b : Int32} (hf : ∀ l : Nat, l < m → zCf n (fo l)) : ∀ k : Nat, k ≤ m → zCf n (zStp fo b k) := by
  intro k
  induction k with
  | zero => intro _ i h; exact absurd h (by show ¬ bt 0 i = true; rw [b_0]; decide)
  | succ k ih =>
    intro hk
    show zCf n (if bt b k = true then zStp fo b k ||| fo k else zStp fo b k)
    split
    · exact z_cfO (ih (by omega)) (hf k (by omega))
    · exact ih (by omega)
theorem z_cfR {fo : Nat → Int32} {n : Nat} {b : Int32} (hf : ∀ l : Nat, l < n → zCf n (fo l)) (hb : zCf n b) : ∀ k : Nat, zCf n (zRch fo n b k) := by
  intro k
  induction k with
  | zero => exact hb
  | succ k ih => exact z_cfO ih (z_cfS hf n (Nat.le_refl n))
theorem z_rchP {fo : Nat → Int32} {n k : Nat} {b : Int32} (h : zRch fo n b (k + 1) = zRch fo n b k) : ∀ j : Nat, zRch fo n b (k + j) = zRch fo n b k := by
  intro j
  induction j with
  | zero => rfl
  | succ j ih =>
    show zRch fo n b (k + j) ||| zStp fo (zRch fo n b (k + j)) n = zRch fo n b k
    rw [ih]
    exact h
def zCnt (x : Int32) : Nat → Nat
  | 0 => 0
  | k + 1 => zCnt x k + (if bt x k = true then 1 else 0)
theorem z_cntB {x : Int32} : ∀ k : Nat, zCnt x k ≤ k := by
  intro k
  induction k with
  | zero => exact Nat.le_refl _
  | succ k ih =>
    show zCnt x k + (if bt x k = true then 1 else 0) ≤ k + 1
    split <;> omega
theorem z_cntM {x y : Int32} (h : ∀ i : Nat, bt x i = true → bt y i = true) : ∀ k : Nat, zCnt x k ≤ zCnt y k := by
  intro k
  induction k with
  | zero => exact Nat.le_refl _
  | succ k ih =>
    show zCnt x k + (if bt x k = true then 1 else 0) ≤ zCnt y k + (if bt y k = true then 1 else 0)
    by_cases c : bt x k = true
    · rw [if_pos c, if_pos (h k c)]
      omega
    · rw [if_neg c]
      omega
theorem z_cntL {x y : Int32} {i : Nat} (h : ∀ i : Nat, bt x i = true → bt y i = true) (hx : bt x i = false) (hy : bt y i = true) : ∀ k : Nat, i < k → zCnt x k < zCnt y k := by
  intro k
  induction k with
  | zero => intro h0; omega
  | succ k ih =>
    intro hk
    show zCnt x k + (if bt x k = true then 1 else 0) < zCnt y k + (if bt y k = true then 1 else 0)
    by_cases c : i = k
    · rw [← c, if_neg (by rw [hx]; decide), if_pos hy]
      have := z_cntM h i
      omega
    · have := ih (by omega)
      by_cases d : bt x k = true
      · rw [if_pos d, if_pos (h k d)]
        omega
      · rw [if_neg d]
        omega
theorem z_rchG {fo : Nat → Int32} {n : Nat} {b : Int32} (hf : ∀ l : Nat, l < n → zCf n (fo l)) (hb : zCf n b) (k : Nat) (hne : zRch fo n b (k + 1) ≠ zRch fo n b k) : zCnt (zRch fo n b k) n < zCnt (zRch fo n b (k + 1)) n := by
  have mo : ∀ i : Nat, bt (zRch fo n b k) i = true → bt (zRch fo n b (k + 1)) i = true := fun i h => by
    show bt (zRch fo n b k ||| zStp fo (zRch fo n b k) n) i = true
    rw [b_or, h]
    rfl
  have ex : ∃ i : Nat, bt (zRch fo n b k) i ≠ bt (zRch fo n b (k + 1)) i := Classical.byContradiction (fun w => hne (b_ext (fun i _ => Classical.byContradiction (fun v => w ⟨i, fun e => v e.symm⟩))))
  obtain ⟨i, hi⟩ := ex
  have h1 : bt (zRch fo n b k) i = false := by
    cases c : bt (zRch fo n b k) i
    · rfl
    · exact absurd (c.trans (mo i c).symm) hi
  have h2 : bt (zRch fo n b (k + 1)) i = true := by
    cases c : bt (zRch fo n b (k + 1)) i
    · exact absurd (h1.trans c.symm) hi
    · rfl
  exact z_cntL mo h1 h2 n (z_cfR hf hb (k + 1) i h2)
theorem z_rchX {fo : Nat → Int32} {n c0 : Nat} {b : Int32} (hf : ∀ l : Nat, l < n → zCf n (fo l)) (hb : zCf n b) (hc : c0 ≤ zCnt b n) : ∃ k : Nat, k + c0 ≤ n ∧ zRch fo n b (k + 1) = zRch fo n b k := by
  refine Classical.byContradiction (fun w => ?_)
  have hne : ∀ k : Nat, k + c0 ≤ n → zRch fo n b (k + 1) ≠ zRch fo n b k := fun k hk e => w ⟨k, hk, e⟩
  have gr : ∀ k : Nat, k + c0 ≤ n + 1 → k + c0 ≤ zCnt (zRch fo n b k) n := by
    intro k
    induction k with
    | zero => intro _; show 0 + c0 ≤ zCnt b n; omega
    | succ k ih =>
      intro hk
      have := ih (by omega)
      have := z_rchG hf hb k (hne k (by omega))
      omega
  have b1 := z_cntB (x := zRch fo n b (n + 1 - c0)) n
  have b2 := z_cntB (x := b) n
  have := gr (n + 1 - c0) (by omega)
  omega
/-- what is reached in the end -/
theorem z_fixE {fo : Nat → Int32} {n m : Nat} {b : Int32} (hf : ∀ l : Nat, l < n → zCf n (fo l)) (hb : zCf n b) (hm : zRch fo n b (m + 1) = zRch fo n b m) : zRch fo n b m = zRch fo n b n := by
  obtain ⟨k, k1, k2⟩ := z_rchX (c0 := 0) hf hb (Nat.zero_le _)
  have p1 := z_rchP k2 (n - k)
  rw [show k + (n - k) = n by omega] at p1
  rw [p1]
  by_cases c : k ≤ m
  · have p2 := z_rchP k2 (m - k)
    rw [show k + (m - k) = m by omega] at p2
    exact p2
  · have p2 := z_rchP hm (k - m)
    rw [show m + (k - m) = k by omega] at p2
    exact p2.symm
/-- the follow bits as a function -/
theorem z_bqX (Q : Nat → Prop) : ∀ m : Nat, m < 12 → ∃ x : Int32, zBq Q ((m : Int) + 1) x := by
  intro m
  induction m with
  | zero => intro _; exact ⟨0, z_bq0 (by omega)⟩
  | succ m ih =>
    intro hm
    obtain ⟨x, h⟩ := ih (by omega)
    have e1 : (zIo ((m : Int) + 1)).toInt = (m : Int) + 1 := z_ioT (by omega) (by omega)
    have e2 : (zIo ((m : Int) + 2)).toInt = (m : Int) + 2 := z_ioT (by omega) (by omega)
    have en : (zIo ((m : Int) + 1)).toInt.toNat = m + 1 := by omega
    by_cases c : Q (m + 1)
    · have w := z_bqS (k := zIo ((m : Int) + 1)) (k2 := zIo ((m : Int) + 2)) (y := x ||| ((1 : Int32) <<< (zIo ((m : Int) + 1) &&& 31))) (by rw [e1]; exact h) (by omega) (by omega) (by omega) (Or.inl ⟨by rw [en]; exact c, _, rfl, rfl⟩)
      rw [e2] at w
      exact ⟨_, by rw [show (((m + 1 : Nat) : Int) + 1) = (m : Int) + 2 by omega]; exact w⟩
    · have w := z_bqS (k := zIo ((m : Int) + 1)) (k2 := zIo ((m : Int) + 2)) (y := x ||| 0) (by rw [e1]; exact h) (by omega) (by omega) (by omega) (Or.inr ⟨by rw [en]; exact c, rfl⟩)
      rw [e2] at w
      exact ⟨_, by rw [show (((m + 1 : Nat) : Int) + 1) = (m : Int) + 2 by omega]; exact w⟩
noncomputable def zFoF (wd mn : Nat → Int32) (jk jw : Int32) (kd fg wh cu : Nat → Int32) (L : Int) (l : Nat) : Int32 := Classical.epsilon (fun x => zBq (zFq wd mn jk jw kd fg wh cu (l : Int)) L x)
theorem z_foFS {wd mn : Nat → Int32} {jk jw : Int32} {kd fg wh cu : Nat → Int32} {L : Int} {l : Nat} (L0 : 0 < L) (L12 : L ≤ 12) : zBq (zFq wd mn jk jw kd fg wh cu (l : Int)) L (zFoF wd mn jk jw kd fg wh cu L l) := by
  obtain ⟨x, h⟩ := z_bqX (zFq wd mn jk jw kd fg wh cu (l : Int)) (L - 1).toNat (by omega)
  rw [show (((L - 1).toNat : Nat) : Int) + 1 = L by omega] at h
  exact Classical.epsilon_spec (p := fun x => zBq (zFq wd mn jk jw kd fg wh cu (l : Int)) L x) ⟨x, h⟩
theorem z_bqU {Q : Nat → Prop} {L : Int} {x y : Int32} (h : zBq Q L x) (h2 : zBq Q L y) : x = y := z_b12E h.1 h2.1 (fun i hi => by
  have e : bt x i = true ↔ bt y i = true := (h.2 i hi).trans (h2.2 i hi).symm
  cases c : bt x i <;> cases d : bt y i
  · rfl
  · rw [c, d] at e; exact absurd (e.mpr rfl) (by decide)
  · rw [c, d] at e; exact absurd (e.mp rfl) (by decide)
  · rfl)
theorem z_foFE {wd mn : Nat → Int32} {jk jw : Int32} {kd fg wh cu : Nat → Int32} {L : Int} {l y : Int32} (h : zBq (zFq wd mn jk jw kd fg wh cu l.toInt) L y) (l0 : 0 ≤ l.toInt) (L0 : 0 < L) (L12 : L ≤ 12) : y = zFoF wd mn jk jw kd fg wh cu L l.toNatClampNeg := by
  refine z_bqU h ?_
  have w := z_foFS (wd := wd) (mn := mn) (jk := jk) (jw := jw) (kd := kd) (fg := fg) (wh := wh) (cu := cu) (l := l.toNatClampNeg) L0 L12
  rw [z_cl l0] at w
  exact w
theorem z_bqC {Q : Nat → Prop} {L : Int} {x : Int32} (h : zBq Q L x) : zCf L.toNat x := fun i hi => by
  by_cases c : i < 12
  · have := (h.2 i c).mp hi
    omega
  · by_cases d : i < 32
    · rw [h.1 i (by omega) d] at hi
      exact absurd hi (by decide)
    · rw [b_big (by omega)] at hi
      exact absurd hi (by decide)
theorem z_cf1 {n : Nat} (h : 0 < n) : zCf n 1 := fun i hi => by
  by_cases d : i < 32
  · have w : ∀ i : Nat, i < 32 → bt (1 : Int32) i = decide (i = 0) := by decide +kernel
    rw [w i d] at hi
    have := of_decide_eq_true hi
    omega
  · rw [b_big (by omega)] at hi
    exact absurd hi (by decide)
theorem z_cnt1 {n : Nat} (h : 0 < n) : 1 ≤ zCnt 1 n := by
  have : ∀ k : Nat, 0 < k → 1 ≤ zCnt 1 k := by
    intro k
    induction k with
    | zero => intro h0; omega
    | succ k ih =>
      intro _
      show 1 ≤ zCnt 1 k + (if bt 1 k = true then 1 else 0)
      by_cases c : k = 0
      · rw [c, if_pos (by decide)]
        omega
      · have := ih (by omega)
        omega
  exact this n h
/-- the net: the fewest steps, rounds, whether it is sure -/
theorem z_stpZ {af : Nat → Int32} {b k k2 t t2 y : Int32} (h : t = zStp af b k.toInt.toNat) (k0 : 0 ≤ k.toInt) (hk : k2.toInt = k.toInt + 1) (hb : (y.toInt = 1 ∧ bt b k.toInt.toNat = true) ∨ (y.toInt = 0 ∧ bt b k.toInt.toNat = false)) (s : (y.toInt = 1 ∧ ∃ w : Int32, w = af k.toNatClampNeg ∧ t2 = t ||| w) ∨ (y.toInt ≠ 1 ∧ (t2 = t ∨ t2 = t ||| 0))) : t2 = zStp af b k2.toInt.toNat := by
  refine z_stpS h k0 hk hb ?_
  rcases s with ⟨s1, w, s2, s3⟩ | ⟨s1, s2⟩
  · exact Or.inl ⟨s1, by rw [s3, s2]⟩
  · rcases s2 with s2 | s2
    · exact Or.inr ⟨s1, s2⟩
    · exact Or.inr ⟨s1, by rw [s2, z_or0]⟩
def zFwI (af : Nat → Int32) (n : Nat) (k : Int) (t : Int32) : Prop := t = zRch af n 1 k.toNat ∧ ∀ q : Nat, (q : Int) < k → bt (zRch af n 1 q) (n - 1) = false
theorem z_fwI0 {af : Nat → Int32} {n : Nat} {k : Int} (h : k = 0) : zFwI af n k 1 := ⟨by rw [h]; rfl, fun q hq => by omega⟩
theorem z_fwIS {af : Nat → Int32} {n : Nat} {k k2 t t2 y u w : Int32} (h : zFwI af n k.toInt t) (k0 : 0 ≤ k.toInt) (hk : k2.toInt = k.toInt + 1) (hu : u.toInt = (n : Int) - 1) (n0 : 0 < n) (hb : (y.toInt = 1 ∧ bt t u.toInt.toNat = true) ∨ (y.toInt = 0 ∧ bt t u.toInt.toNat = false)) (hy : y.toInt ≠ 1) (hs : w = zStp af t n) (h2 : t2 = t ||| w) : zFwI af n k2.toInt t2 := by
  refine ⟨?_, fun q hq => ?_⟩
  · rw [show k2.toInt.toNat = k.toInt.toNat + 1 by omega]
    show t2 = zRch af n 1 k.toInt.toNat ||| zStp af (zRch af n 1 k.toInt.toNat) n
    rw [← h.1, ← hs]
    exact h2
  · by_cases c : q = k.toInt.toNat
    · rw [c, ← h.1, show n - 1 = u.toInt.toNat by omega]
      exact z_btF hb hy
    · exact h.2 q (by omega)
def zFwP (af : Nat → Int32) (n m : Nat) (r : Int) : Prop := (0 ≤ r ∧ r < (m : Int) ∧ bt (zRch af n 1 r.toNat) (n - 1) = true ∧ ∀ q : Nat, (q : Int) < r → bt (zRch af n 1 q) (n - 1) = false) ∨ (r = -9 ∧ ∀ q : Nat, q < m → bt (zRch af n 1 q) (n - 1) = false)
theorem z_fwT {af : Nat → Int32} {n m : Nat} {k t y u : Int32} (h : zFwI af n k.toInt t) (k0 : 0 ≤ k.toInt) (km : k.toInt < (m : Int)) (hu : u.toInt = (n : Int) - 1) (n0 : 0 < n) (hb : (y.toInt = 1 ∧ bt t u.toInt.toNat = true) ∨ (y.toInt = 0 ∧ bt t u.toInt.toNat = false)) (hy : y.toInt = 1) : zFwP af n m k.toInt := Or.inl ⟨k0, km, by rw [← h.1, show n - 1 = u.toInt.toNat by omega]; exact z_btT hb hy, h.2⟩
theorem z_fwN {af : Nat → Int32} {n m : Nat} {k r : Int} {t : Int32} (h : zFwI af n k t) (km : (m : Int) ≤ k) (hr : r = -9) : zFwP af n m r := Or.inr ⟨hr, fun q hq => h.2 q (by omega)⟩
theorem z_fwU9 {fo : Nat → Int32} {n : Nat} {r r2 : Int} (hf : ∀ l : Nat, l < n → zCf n (fo l)) (n0 : 0 < n) (n12 : n ≤ 12) (h : zFwP fo n n r) (h2 : zFwP fo n 12 r2) : r = r2 := by
  obtain ⟨k, k1, k2⟩ := z_rchX (c0 := 1) hf (z_cf1 n0) (z_cnt1 n0)
  have st : ∀ j : Nat, k ≤ j → zRch fo n 1 j = zRch fo n 1 k := fun j hj => by
    have w := z_rchP k2 (j - k)
    rw [show k + (j - k) = j by omega] at w
    exact w
  rcases h with ⟨a0, a1, a2, a3⟩ | ⟨a0, a1⟩ <;> rcases h2 with ⟨b0, b1, b2, b3⟩ | ⟨b0, b1⟩
  · rcases Int.lt_trichotomy r r2 with c | c | c
    · have w := b3 r.toNat (by omega)
      rw [a2] at w
      exact absurd w (by decide)
    · exact c
    · have w := a3 r2.toNat (by omega)
      rw [b2] at w
      exact absurd w (by decide)
  · have w := b1 r.toNat (by omega)
    rw [a2] at w
    exact absurd w (by decide)
  · by_cases c : r2.toNat < n
    · have w := a1 r2.toNat c
      rw [b2] at w
      exact absurd w (by decide)
    · have w := a1 k (by omega)
      rw [← st r2.toNat (by omega), b2] at w
      exact absurd w (by decide)
  · omega
def zRdI (af : Nat → Int32) (n : Nat) (R : Int32) (k : Int) : Prop := ∀ q : Nat, (q : Int) < k → ¬ (bt R q = true ∧ bt (zRch af n (af q) n) q = true)
theorem z_rdI0 {af : Nat → Int32} {n : Nat} {R : Int32} {k : Int} (h : k = 0) : zRdI af n R k := fun q hq => by omega
theorem z_rdN1 {af : Nat → Int32} {n : Nat} {R k k2 y : Int32} (h : zRdI af n R k.toInt) (k0 : 0 ≤ k.toInt) (hk : k2.toInt = k.toInt + 1) (hb : (y.toInt = 1 ∧ bt R k.toInt.toNat = true) ∨ (y.toInt = 0 ∧ bt R k.toInt.toNat = false)) (hy : y.toInt ≠ 1) : zRdI af n R k2.toInt := fun q hq w => by
  by_cases c : q = k.toInt.toNat
  · have v := z_btF hb hy
    rw [← c, w.1] at v
    exact absurd v (by decide)
  · exact h q (by omega) w
theorem z_rdN2 {af : Nat → Int32} {n : Nat} {R k k2 y a w : Int32} (h : zRdI af n R k.toInt) (k0 : 0 ≤ k.toInt) (hk : k2.toInt = k.toInt + 1) (ea : a = af k.toNatClampNeg) (hw : w = zRch af n a n) (hb : (y.toInt = 1 ∧ bt w k.toInt.toNat = true) ∨ (y.toInt = 0 ∧ bt w k.toInt.toNat = false)) (hy : y.toInt ≠ 1) : zRdI af n R k2.toInt := fun q hq v => by
  by_cases c : q = k.toInt.toNat
  · have u := z_btF hb hy
    rw [hw, ea, show k.toNatClampNeg = q from c.symm, ← c, v.2] at u
    exact absurd u (by decide)
  · exact h q (by omega) v
def zRnd (af : Nat → Int32) (n : Nat) : Prop := ∃ q : Nat, q < n ∧ bt (zRch af n 1 n) q = true ∧ bt (zRch af n (af q) n) q = true
theorem z_rdT {af : Nat → Int32} {n : Nat} {R k y y2 a w : Int32} {r : Int} (hR : R = zRch af n 1 n) (k0 : 0 ≤ k.toInt) (kn : k.toInt < (n : Int)) (hb : (y.toInt = 1 ∧ bt R k.toInt.toNat = true) ∨ (y.toInt = 0 ∧ bt R k.toInt.toNat = false)) (hy : y.toInt = 1) (ea : a = af k.toNatClampNeg) (hw : w = zRch af n a n) (hb2 : (y2.toInt = 1 ∧ bt w k.toInt.toNat = true) ∨ (y2.toInt = 0 ∧ bt w k.toInt.toNat = false)) (hy2 : y2.toInt = 1) (hr : r = 1) : zYn (zRnd af n) r := by
  refine Or.inl ⟨hr, k.toInt.toNat, by omega, by rw [← hR]; exact z_btT hb hy, ?_⟩
  have v := z_btT hb2 hy2
  rw [hw, ea] at v
  exact v
theorem z_rdF {af : Nat → Int32} {n : Nat} {R : Int32} {k r : Int} (h : zRdI af n R k) (hR : R = zRch af n 1 n) (kn : (n : Int) ≤ k) (hr : r = 0) : zYn (zRnd af n) r := Or.inr ⟨hr, fun ⟨q, q1, q2, q3⟩ => h q (by omega) ⟨by rw [hR]; exact q2, q3⟩⟩
def zDue (n q : Nat) : Int32 := if q + 1 < n then (1 : Int32) <<< (zIo ((q : Int) + 1) &&& 31) else 0
def zSuI (af : Nat → Int32) (n : Nat) (k : Int) : Prop := ∀ q : Nat, (q : Int) < k → af q = zDue n q
theorem z_suI0 {af : Nat → Int32} {n : Nat} {k : Int} (h : k = 0) : zSuI af n k := fun q hq => by omega
theorem z_due {n : Nat} {k d : Int32} (k0 : 0 ≤ k.toInt) (s : (k.toInt + 1 < (n : Int) ∧ ∃ u : Int32, u.toInt = k.toInt + 1 ∧ d = (1 : Int32) <<< (u &&& 31)) ∨ (¬ k.toInt + 1 < (n : Int) ∧ d = 0)) : d = zDue n k.toInt.toNat := by
  unfold zDue
  rcases s with ⟨s1, u, s2, s3⟩ | ⟨s1, s2⟩
  · rw [if_pos (by omega), s3, z_io (x := u) (v := ((k.toInt.toNat : Nat) : Int) + 1) (by omega)]
  · rw [if_neg (by omega)]
    exact s2
theorem z_suS {af : Nat → Int32} {n : Nat} {k k2 a d : Int32} (h : zSuI af n k.toInt) (k0 : 0 ≤ k.toInt) (hk : k2.toInt = k.toInt + 1) (ea : a = af k.toNatClampNeg) (e : a.toInt = d.toInt) (s : (k.toInt + 1 < (n : Int) ∧ ∃ u : Int32, u.toInt = k.toInt + 1 ∧ d = (1 : Int32) <<< (u &&& 31)) ∨ (¬ k.toInt + 1 < (n : Int) ∧ d = 0)) : zSuI af n k2.toInt := fun q hq => by
  by_cases c : q = k.toInt.toNat
  · rw [c, ← z_due k0 s, ← z_i32 e, ea]
    rfl
  · exact h q (by omega)
theorem z_suT {af : Nat → Int32} {n : Nat} {k r : Int} (h : zSuI af n k) (kn : (n : Int) ≤ k) (hr : r = 1) : zYn (zSuI af n (n : Int)) r := Or.inl ⟨hr, fun q hq => h q (by omega)⟩
theorem z_suF {af : Nat → Int32} {n : Nat} {k a d : Int32} {r : Int} (k0 : 0 ≤ k.toInt) (kn : k.toInt < (n : Int)) (ea : a = af k.toNatClampNeg) (e : a.toInt ≠ d.toInt) (s : (k.toInt + 1 < (n : Int) ∧ ∃ u : Int32, u.toInt = k.toInt + 1 ∧ d = (1 : Int32) <<< (u &&& 31)) ∨ (¬ k.toInt + 1 < (n : Int) ∧ d = 0)) (hr : r = 0) : zYn (zSuI af n (n : Int)) r := Or.inr ⟨hr, fun w => e (by
  have v := w k.toInt.toNat (by omega)
  rw [← z_due k0 s] at v
  rw [ea, ← v]
  rfl)⟩
/-- the reference: what is reached -/
def zRfI (fo : Nat → Int32) (n : Nat) (b was now : Int32) : Prop := (was = -1 ∧ now = b) ∨ ∃ k : Nat, was = zRch fo n b k ∧ now = zRch fo n b (k + 1)
theorem z_rfI0 {fo : Nat → Int32} {n : Nat} {b : Int32} : zRfI fo n b (-1) b := Or.inl ⟨rfl, rfl⟩
theorem z_rfIS {fo : Nat → Int32} {n : Nat} {b was now w t : Int32} (h : zRfI fo n b was now) (hw : w = zStp fo now n) (ht : t = now ||| w) : zRfI fo n b now t := by
  rcases h with ⟨h1, h2⟩ | ⟨k, h1, h2⟩
  · refine Or.inr ⟨0, h2, ?_⟩
    show t = b ||| zStp fo b n
    rw [ht, hw, h2]
  · refine Or.inr ⟨k + 1, h2, ?_⟩
    show t = zRch fo n b (k + 1) ||| zStp fo (zRch fo n b (k + 1)) n
    rw [ht, hw, h2]
theorem z_foC {wd mn : Nat → Int32} {jk jw : Int32} {kd fg wh cu : Nat → Int32} {L : Int} (L12 : L ≤ 12) : ∀ l : Nat, l < L.toNat → zCf L.toNat (zFoF wd mn jk jw kd fg wh cu L l) := fun l hl => z_bqC (z_foFS (by omega) L12)
theorem z_rfE {wd mn : Nat → Int32} {jk jw : Int32} {kd fg wh cu : Nat → Int32} {L : Int} {b was now : Int32} (h : zRfI (zFoF wd mn jk jw kd fg wh cu L) L.toNat b was now) (e : now.toInt = was.toInt) (L12 : L ≤ 12) : zCf L.toNat b → now = zRch (zFoF wd mn jk jw kd fg wh cu L) L.toNat b L.toNat := by
  intro hb
  have e2 := z_i32 e
  rcases h with ⟨h1, h2⟩ | ⟨k, h1, h2⟩
  · have w := hb 31 (by rw [← h2, e2, h1]; decide)
    omega
  · rw [h2]
    rw [h2, h1] at e2
    rw [e2]
    exact z_fixE (z_foC L12) hb e2
/-- net -/
def zNe4 (af : Nat → Int32) (n m : Nat) (p : Int) (r : Int32) : Prop := (p = 0 ∧ r = zRch af n 1 n) ∨ (p = 1 ∧ zFwP af n m r.toInt) ∨ (p = 2 ∧ zYn (zRnd af n) r.toInt) ∨ (p = 3 ∧ zYn (zSuI af n (n : Int)) r.toInt)
def zNeC (P L : Int) (G : Nat → ZQ) (tx sz on cu ow : Nat → Int32) (p r : Int32) : Prop := ((p.toInt < 0 ∨ 3 < p.toInt) ∧ r.toInt = -2) ∨ (0 ≤ p.toInt ∧ p.toInt ≤ 3 ∧ L = 0 ∧ r.toInt = -3) ∨ (0 ≤ p.toInt ∧ p.toInt ≤ 3 ∧ L ≠ 0 ∧ ∃ af : Nat → Int32, zWs P L G tx sz on cu ow af L ∧ zNe4 af L.toNat L.toNat p.toInt r)
def zNeM (wd mn : Nat → Int32) (jk jw : Int32) (kd fg wh cu : Nat → Int32) (L : Int) (p r : Int32) : Prop := ((p.toInt < 0 ∨ 3 < p.toInt) ∧ r.toInt = -2) ∨ (0 ≤ p.toInt ∧ p.toInt ≤ 3 ∧ L = 0 ∧ r.toInt = -3) ∨ (0 ≤ p.toInt ∧ p.toInt ≤ 3 ∧ L ≠ 0 ∧ zNe4 (zFoF wd mn jk jw kd fg wh cu L) L.toNat 12 p.toInt r)
theorem z_ynU9 {p q : Prop} {r r2 : Int} (h : zYn p r) (h2 : zYn q r2) (e : p ↔ q) : r = r2 := by
  rcases h with ⟨a, b⟩ | ⟨a, b⟩ <;> rcases h2 with ⟨c, d⟩ | ⟨c, d⟩
  · omega
  · exact absurd (e.mp b) d
  · exact absurd (e.mpr d) b
  · omega
theorem z_neU {af fo : Nat → Int32} {n : Nat} {p : Int} {r r2 : Int32} (e : ∀ l : Nat, l < n → af l = fo l) (hf : ∀ l : Nat, l < n → zCf n (fo l)) (n0 : 0 < n) (n12 : n ≤ 12) (h : zNe4 af n n p r) (h2 : zNe4 fo n 12 p r2) : r.toInt = r2.toInt := by
  have er : ∀ (b : Int32) (k : Nat), zRch af n b k = zRch fo n b k := fun b k => z_rchC e k
  rcases h with ⟨a, h⟩ | ⟨a, h⟩ | ⟨a, h⟩ | ⟨a, h⟩ <;> rcases h2 with ⟨b, h2⟩ | ⟨b, h2⟩ | ⟨b, h2⟩ | ⟨b, h2⟩ <;> try (exfalso; omega)
  · rw [h, h2, er]
  · refine z_fwU9 hf n0 n12 ?_ h2
    unfold zFwP at h ⊢
    simp only [er] at h
    exact h
  · refine z_ynU9 h h2 ⟨fun ⟨q, q1, q2, q3⟩ => ⟨q, q1, ?_, ?_⟩, fun ⟨q, q1, q2, q3⟩ => ⟨q, q1, ?_, ?_⟩⟩
    · rw [← er]; exact q2
    · rw [← e q q1, ← er]; exact q3
    · rw [er]; exact q2
    · rw [e q q1, er]; exact q3
  · exact z_ynU9 h h2 ⟨fun w q hq => by rw [← e q (by omega)]; exact w q hq, fun w q hq => by rw [e q (by omega)]; exact w q hq⟩
theorem z_neLaw {P L ki M jk jw p r r2 : Int32} {G : Nat → ZQ} {sp cu ow on tx sz a1 a2 a3 a4 a5 a6 a7 a8 : Nat → Int32} {i1 i2 i3 : Int} (hC : zNeC P.toInt L.toInt G tx sz on cu ow p r) (hM : zNeM a8 a5 jk jw a1 a2 a4 a6 M.toInt p r2) (hr : zRe P L ki sp cu ow on tx sz (zSt a1 a2 a3 a4 a5 a6 a7 a8 i1 i2 i3)) (hk : zKn P.toInt G a1 a2) (hc : cu = a6) (hL : L.toInt = M.toInt) (hL0 : 0 ≤ L.toInt) (hL2 : L.toInt ≤ 12) (hj : jk.toInt = -9) : r.toInt = r2.toInt := by
  subst hc
  rcases hC with ⟨a, b⟩ | ⟨a, a2, b, c⟩ | ⟨a, a2, b, af, c, d⟩ <;> rcases hM with ⟨e, f⟩ | ⟨e, e2, f, g⟩ | ⟨e, e2, f, g⟩ <;> try (exfalso; omega)
  · omega
  · omega
  · rw [← hL] at g
    refine z_neU (fun l hl => ?_) (z_foC hL2) (by omega) (by omega) d g
    have e1 : (zIo (l : Int)).toInt = (l : Int) := z_ioT (by omega) (by omega)
    have e3 : (zIo (l : Int)).toNatClampNeg = l := by
      show (zIo (l : Int)).toInt.toNat = l
      omega
    refine z_foEq (M := L) (jw := jw) (p := zIo (l : Int)) (r := af l) ?_ ?_ (z_pyRe hr hL2 hk) (z_reOw hr) (fun l hl => (hr.2.2.1 l (by omega)).2.1) rfl hj (by omega)
    · intro wd mn kd fg wh H hA hw
      rw [e3]
      exact c wd mn kd fg wh H hA hw l (by omega)
    · rw [e1]
      exact z_foFS (by omega) hL2
/-- orders of lines: the next one -/
def zLiq (g : Nat → Nat) : Nat → Nat
  | 0 => 0
  | i + 1 => if g (i + 2) < g (i + 1) then zLiq g i else i + 1
def zLj (g : Nat → Nat) (v : Nat) : Nat → Nat
  | 0 => 0
  | j + 1 => if g (j + 1) < v then zLj g v j else j + 1
def zNq (g : Nat → Nat) (n i j q : Nat) : Nat := if q < i then g q else if q = i then g j else if n + i - q = j then g i else g (n + i - q)
def zNxl (n : Nat) (p : List Nat) : Option (List Nat) := if zLiq (fun q => p.getD q 0) (n - 2) = 0 then none else some ((List.range n).map (zNq (fun q => p.getD q 0) n (zLiq (fun q => p.getD q 0) (n - 2)) (zLj (fun q => p.getD q 0) (p.getD (zLiq (fun q => p.getD q 0) (n - 2)) 0) (n - 1))))
theorem z_liB {g : Nat → Nat} : ∀ k : Nat, zLiq g k ≤ k := by
  intro k
  induction k with
  | zero => exact Nat.le_refl _
  | succ k ih =>
    show (if g (k + 2) < g (k + 1) then zLiq g k else k + 1) ≤ k + 1
    split <;> omega
theorem z_ljB {g : Nat → Nat} {v : Nat} : ∀ k : Nat, zLj g v k ≤ k := by
  intro k
  induction k with
  | zero => exact Nat.le_refl _
  | succ k ih =>
    show (if g (k + 1) < v then zLj g v k else k + 1) ≤ k + 1
    split <;> omega
theorem z_liC {g h : Nat → Nat} {n : Nat} (e : ∀ q : Nat, q < n → g q = h q) : ∀ k : Nat, (k = 0 ∨ k + 1 < n) → zLiq g k = zLiq h k := by
  intro k
  induction k with
  | zero => intro _; rfl
  | succ k ih =>
    intro hk
    show (if g (k + 2) < g (k + 1) then zLiq g k else k + 1) = if h (k + 2) < h (k + 1) then zLiq h k else k + 1
    rw [e (k + 2) (by omega), e (k + 1) (by omega), ih (by omega)]
theorem z_ljC {g h : Nat → Nat} {n v : Nat} (e : ∀ q : Nat, q < n → g q = h q) : ∀ k : Nat, k < n → zLj g v k = zLj h v k := by
  intro k
  induction k with
  | zero => intro _; rfl
  | succ k ih =>
    intro hk
    show (if g (k + 1) < v then zLj g v k else k + 1) = if h (k + 1) < v then zLj h v k else k + 1
    rw [e (k + 1) (by omega), ih (by omega)]
theorem z_nqC {g h : Nat → Nat} {n i j q : Nat} (e : ∀ q : Nat, q < n → g q = h q) (hi : i < n) (hj : j < n) (hq : q < n) : zNq g n i j q = zNq h n i j q := by
  unfold zNq
  by_cases c : q < i
  · rw [if_pos c, if_pos c, e q hq]
  · rw [if_neg c, if_neg c]
    by_cases d : q = i
    · rw [if_pos d, if_pos d, e j hj]
    · rw [if_neg d, if_neg d, e i hi, e (n + i - q) (by omega)]
def zOg (f : Nat → Int32) (q : Nat) : Nat := (f q).toInt.toNat
def zRp (n : Nat) (f : Nat → Int32) (p : List Nat) : Prop := ∀ q : Nat, q < n → zOg f q = p.getD q 0
def zNxC (n : Nat) (f : Nat → Int32) (r : Int) (f2 : Nat → Int32) : Prop := (r = 0 ∧ zLiq (zOg f) (n - 2) = 0) ∨ (r = 1 ∧ zLiq (zOg f) (n - 2) ≠ 0 ∧ ∀ q : Nat, q < n → zOg f2 q = zNq (zOg f) n (zLiq (zOg f) (n - 2)) (zLj (zOg f) (zOg f (zLiq (zOg f) (n - 2))) (n - 1)) q)
theorem z_rgD {n q : Nat} {F : Nat → Nat} (hq : q < n) : ((List.range n).map F).getD q 0 = F q := by
  rw [List.getD_eq_getElem?_getD, List.getElem?_map, List.getElem?_range hq]
  rfl
theorem z_nxR {n : Nat} {f f2 : Nat → Int32} {r : Int} {p : List Nat} (h : zNxC n f r f2) (hp : zRp n f p) (n1 : 1 ≤ n) : (r = 0 ∧ zNxl n p = none) ∨ (r = 1 ∧ ∃ p2 : List Nat, zNxl n p = some p2 ∧ zRp n f2 p2) := by
  have ei : zLiq (zOg f) (n - 2) = zLiq (fun q => p.getD q 0) (n - 2) := z_liC hp (n - 2) (by omega)
  have bi := z_liB (g := fun q => p.getD q 0) (n - 2)
  unfold zNxl
  rcases h with ⟨a, b⟩ | ⟨a, b, c⟩
  · rw [ei] at b
    exact Or.inl ⟨a, if_pos b⟩
  · rw [ei] at b c
    refine Or.inr ⟨a, _, if_neg b, fun q hq => ?_⟩
    have e9 : zOg f (zLiq (fun q => p.getD q 0) (n - 2)) = p.getD (zLiq (fun q => p.getD q 0) (n - 2)) 0 := hp _ (by omega)
    have bj := z_ljB (g := fun q => p.getD q 0) (v := p.getD (zLiq (fun q => p.getD q 0) (n - 2)) 0) (n - 1)
    rw [c q hq, z_rgD hq, e9, z_ljC hp (n - 1) (by omega)]
    exact z_nqC hp (by omega) (by omega) hq
/-- all orders, in their order -/
def zPj (F : Nat → List (List Nat)) (ok : Nat → Bool) : Nat → List (List Nat)
  | 0 => []
  | j + 1 => zPj F ok j ++ (if decide (j ≠ 0) && ok j then (F j).map (List.cons j) else [])
def zPq (n : Nat) : Nat → (Nat → Bool) → List (List Nat)
  | 0, _ => [[]]
  | k + 1, u => zPj (fun x => zPq n k (fun q => u q || decide (q = x))) (fun j => !u j) n
def zPm (n : Nat) : List (List Nat) := (zPq n (n - 1) (fun q => decide (q = 0))).map (List.cons 0)
def zBe : List Nat → List Nat → Bool
  | [], [] => true
  | a :: s, b :: t => Nat.beq a b && zBe s t
  | _, _ => false
theorem z_beE : ∀ s t : List Nat, zBe s t = true → s = t := by
  intro s
  induction s with
  | nil =>
    intro t h
    cases t with
    | nil => rfl
    | cons b t => exact absurd h (by show ¬ false = true; decide)
  | cons a s ih =>
    intro t h
    cases t with
    | nil => exact absurd h (by show ¬ false = true; decide)
    | cons b t =>
      have h : (Nat.beq a b && zBe s t) = true := h
      rw [Bool.and_eq_true] at h
      rw [Nat.eq_of_beq_eq_true h.1, ih t h.2]
def zCh1 (n : Nat) (p : List Nat) : List (List Nat) → Bool
  | [] => (zNxl n p).isNone
  | q :: _ => (match zNxl n p with | none => false | some r => zBe r q)
def zChn (n : Nat) : List (List Nat) → Bool
  | [] => true
  | p :: t => zCh1 n p t && zChn n t
theorem z_chnK : ∀ n : Nat, n < 8 → 1 ≤ n → (zChn n (zPm n) && (match zPm n with | [] => false | p :: _ => zBe p (List.range n))) = true := by decide +kernel
theorem z_chnS {n : Nat} : ∀ (P : List (List Nat)), zChn n P = true → ∀ (t : Nat) (p : List Nat), P[t]? = some p → (zNxl n p = none ∧ t + 1 = P.length) ∨ (∃ q : List Nat, zNxl n p = some q ∧ P[t + 1]? = some q) := by
  intro P
  induction P with
  | nil => intro _ t p h; exact absurd h (by rw [List.getElem?_nil]; exact fun w => by cases w)
  | cons x s ih =>
    intro hc t p h
    have hc : (zCh1 n x s && zChn n s) = true := hc
    rw [Bool.and_eq_true] at hc
    obtain ⟨c1, c2⟩ := hc
    cases t with
    | zero =>
      rw [List.getElem?_cons_zero] at h
      obtain rfl : x = p := Option.some.inj h
      cases s with
      | nil =>
        refine Or.inl ⟨?_, rfl⟩
        cases e : zNxl n x with
        | none => rfl
        | some r =>
          have c1 : (zNxl n x).isNone = true := c1
          rw [e] at c1
          exact absurd c1 (by show ¬ false = true; decide)
      | cons q s =>
        refine Or.inr ⟨q, ?_, rfl⟩
        cases e : zNxl n x with
        | none =>
          have c1 : (match zNxl n x with | none => false | some r => zBe r q) = true := c1
          rw [e] at c1
          exact absurd c1 (by show ¬ false = true; decide)
        | some r =>
          have c1 : (match zNxl n x with | none => false | some r => zBe r q) = true := c1
          rw [e] at c1
          rw [z_beE r q c1]
    | succ t =>
      rw [List.getElem?_cons_succ] at h
      rcases ih c2 t p h with ⟨a, b⟩ | ⟨q, a, b⟩
      · exact Or.inl ⟨a, by rw [List.length_cons, ← b]⟩
      · exact Or.inr ⟨q, a, by rw [List.getElem?_cons_succ]; exact b⟩
theorem z_chnP {n : Nat} (n1 : 1 ≤ n) (n7 : n ≤ 7) {t : Nat} {p : List Nat} (h : (zPm n)[t]? = some p) : (zNxl n p = none ∧ t + 1 = (zPm n).length) ∨ (∃ q : List Nat, zNxl n p = some q ∧ (zPm n)[t + 1]? = some q) := by
  have w := z_chnK n (by omega) n1
  rw [Bool.and_eq_true] at w
  exact z_chnS _ w.1 t p h
theorem z_chn0 {n : Nat} (n1 : 1 ≤ n) (n7 : n ≤ 7) : (zPm n)[0]? = some (List.range n) := by
  have w := z_chnK n (by omega) n1
  rw [Bool.and_eq_true] at w
  have w2 := w.2
  generalize zPm n = P at w2
  cases P with
  | nil => exact absurd w2 (by show ¬ false = true; decide)
  | cons p t => rw [List.getElem?_cons_zero, z_beE p (List.range n) w2]
/-- what stands in an order -/
theorem z_pjM {F : Nat → List (List Nat)} {ok : Nat → Bool} {p : List Nat} : ∀ m : Nat, p ∈ zPj F ok m → ∃ (j : Nat) (s : List Nat), j < m ∧ 1 ≤ j ∧ ok j = true ∧ s ∈ F j ∧ p = j :: s := by
  intro m
  induction m with
  | zero => intro h; exact absurd h List.not_mem_nil
  | succ m ih =>
    intro h
    have h : p ∈ zPj F ok m ++ (if decide (m ≠ 0) && ok m then (F m).map (List.cons m) else []) := h
    rcases List.mem_append.mp h with h | h
    · obtain ⟨j, s, a, b, c, d, e⟩ := ih h
      exact ⟨j, s, by omega, b, c, d, e⟩
    · by_cases c : (decide (m ≠ 0) && ok m) = true
      · rw [if_pos c] at h
        obtain ⟨s, s1, s2⟩ := List.mem_map.mp h
        rw [Bool.and_eq_true] at c
        have c1 := of_decide_eq_true c.1
        exact ⟨m, s, by omega, by omega, c.2, s1, s2.symm⟩
      · rw [if_neg c] at h
        exact absurd h List.not_mem_nil
theorem z_pqL {n : Nat} : ∀ (k : Nat) (u : Nat → Bool) (p : List Nat), p ∈ zPq n k u → p.length = k ∧ ∀ x : Nat, x ∈ p → x < n := by
  intro k
  induction k with
  | zero =>
    intro u p h
    have h : p ∈ [[]] := h
    rw [List.mem_singleton] at h
    subst h
    exact ⟨rfl, fun x hx => absurd hx List.not_mem_nil⟩
  | succ k ih =>
    intro u p h
    obtain ⟨j, s, a, b, c, d, e⟩ := z_pjM n h
    obtain ⟨i1, i2⟩ := ih _ s d
    subst e
    refine ⟨by rw [List.length_cons, i1], fun x hx => ?_⟩
    rcases List.mem_cons.mp hx with hx | hx
    · omega
    · exact i2 x hx
/-- whether each comes in behind the one ahead -/
def zFtR (R : Nat → Nat → Bool) : Nat → List Nat → Bool
  | _, [] => true
  | a, x :: t => R a x && zFtR R x t
theorem z_ftC {R R2 : Nat → Nat → Bool} {n : Nat} (e : ∀ a x : Nat, a < n → x < n → R a x = R2 a x) : ∀ (t : List Nat) (a : Nat), a < n → (∀ x : Nat, x ∈ t → x < n) → zFtR R a t = zFtR R2 a t := by
  intro t
  induction t with
  | nil => intro _ _ _; rfl
  | cons x t ih =>
    intro a ha h
    show (R a x && zFtR R x t) = (R2 a x && zFtR R2 x t)
    have hx := h x (List.mem_cons_self)
    rw [e a x ha hx, ih x hx (fun y hy => h y (List.mem_cons_of_mem _ hy))]
theorem z_ftE {R : Nat → Nat → Bool} : ∀ (t : List Nat) (a : Nat), zFtR R a t = true ↔ ∀ q : Nat, q < t.length → R ((a :: t).getD q 0) (t.getD q 0) = true := by
  intro t
  induction t with
  | nil => intro a; exact ⟨fun _ q hq => absurd hq (Nat.not_lt_zero _), fun _ => rfl⟩
  | cons x t ih =>
    intro a
    have e : zFtR R a (x :: t) = (R a x && zFtR R x t) := rfl
    rw [e, Bool.and_eq_true, ih x]
    constructor
    · rintro ⟨h1, h2⟩ q hq
      cases q with
      | zero => exact h1
      | succ q => exact h2 q (by rw [List.length_cons] at hq; omega)
    · intro h
      exact ⟨h 0 (by rw [List.length_cons]; omega), fun q hq => h (q + 1) (by rw [List.length_cons]; omega)⟩
/-- sums -/
def zSg (t : Nat → Int) : Nat → Int
  | 0 => 0
  | j + 1 => zSg t j + (if j = 0 then 0 else t j)
theorem z_sgC {t s : Nat → Int} : ∀ m : Nat, (∀ j : Nat, j < m → 1 ≤ j → t j = s j) → zSg t m = zSg s m := by
  intro m
  induction m with
  | zero => intro _; rfl
  | succ m ih =>
    intro h
    show zSg t m + (if m = 0 then 0 else t m) = zSg s m + (if m = 0 then 0 else s m)
    rw [ih (fun j hj h1 => h j (by omega) h1)]
    by_cases c : m = 0
    · rw [if_pos c, if_pos c]
    · rw [if_neg c, if_neg c, h m (by omega) (by omega)]
theorem z_sgB {t : Nat → Int} {B : Int} (h : ∀ j : Nat, 0 ≤ t j ∧ t j ≤ B) : ∀ m : Nat, 0 ≤ zSg t m ∧ zSg t m ≤ B * (m : Int) := by
  intro m
  induction m with
  | zero => exact ⟨Int.le_refl _, by show (0 : Int) ≤ B * ((0 : Nat) : Int); rw [show ((0 : Nat) : Int) = 0 from rfl, Int.mul_zero]; exact Int.le_refl _⟩
  | succ m ih =>
    have w := h m
    have e : B * ((m + 1 : Nat) : Int) = B * (m : Int) + B := by rw [show ((m + 1 : Nat) : Int) = (m : Int) + 1 from rfl, Int.mul_add, Int.mul_one]
    show 0 ≤ zSg t m + (if m = 0 then 0 else t m) ∧ zSg t m + (if m = 0 then 0 else t m) ≤ B * ((m + 1 : Nat) : Int)
    rw [e]
    split <;> omega
theorem z_sgM {t : Nat → Int} (h : ∀ j : Nat, 0 ≤ t j) {a : Nat} : ∀ d : Nat, zSg t a ≤ zSg t (a + d) := by
  intro d
  induction d with
  | zero => exact Int.le_refl _
  | succ d ih =>
    have w := h (a + d)
    show zSg t a ≤ zSg t (a + d) + (if a + d = 0 then 0 else t (a + d))
    split <;> omega
/-- how many orders there are behind a line -/
def zObq (R : Nat → Nat → Bool) (n : Nat) : Nat → Nat → (Nat → Bool) → Int
  | 0, _, _ => 1
  | k + 1, a, u => zSg (fun j => if (!u j && R a j) = true then zObq R n k j (fun q => u q || decide (q = j)) else 0) n
theorem z_obB {R : Nat → Nat → Bool} {n : Nat} : ∀ (k a : Nat) (u : Nat → Bool), 0 ≤ zObq R n k a u ∧ zObq R n k a u ≤ (((n ^ k : Nat)) : Int) := by
  intro k
  induction k with
  | zero => intro a u; exact ⟨by show (0 : Int) ≤ 1; decide, by show (1 : Int) ≤ ((n ^ 0 : Nat) : Int); rw [Nat.pow_zero]; decide⟩
  | succ k ih =>
    intro a u
    have w := z_sgB (t := fun j => if (!u j && R a j) = true then zObq R n k j (fun q => u q || decide (q = j)) else 0) (B := ((n ^ k : Nat) : Int)) (fun j => by
      show 0 ≤ (if (!u j && R a j) = true then zObq R n k j (fun q => u q || decide (q = j)) else 0) ∧ (if (!u j && R a j) = true then zObq R n k j (fun q => u q || decide (q = j)) else 0) ≤ ((n ^ k : Nat) : Int)
      have v := ih j (fun q => u q || decide (q = j))
      split <;> omega) n
    refine ⟨w.1, Int.le_trans w.2 ?_⟩
    rw [Nat.pow_succ, Int.natCast_mul]
    exact Int.le_refl _
/-- the orders that fit -/
def zFL (R : Nat → Nat → Bool) (n k a : Nat) (u : Nat → Bool) : List (List Nat) := (zPq n k u).filter (zFtR R a)
theorem z_pjF {R : Nat → Nat → Bool} {a : Nat} {F : Nat → List (List Nat)} {ok : Nat → Bool} : ∀ m : Nat, (zPj F ok m).filter (zFtR R a) = zPj (fun j => (F j).filter (zFtR R j)) (fun j => ok j && R a j) m := by
  intro m
  induction m with
  | zero => rfl
  | succ m ih =>
    show (zPj F ok m ++ (if decide (m ≠ 0) && ok m then (F m).map (List.cons m) else [])).filter (zFtR R a) = zPj (fun j => (F j).filter (zFtR R j)) (fun j => ok j && R a j) m ++ (if decide (m ≠ 0) && (ok m && R a m) then ((F m).filter (zFtR R m)).map (List.cons m) else [])
    rw [List.filter_append, ih]
    congr 1
    by_cases c : (decide (m ≠ 0) && ok m) = true
    · rw [if_pos c, List.filter_map]
      by_cases d : R a m = true
      · rw [if_pos (by rw [Bool.and_eq_true] at c ⊢; exact ⟨c.1, by rw [Bool.and_eq_true]; exact ⟨c.2, d⟩⟩)]
        congr 1
        refine List.filter_congr (fun s _ => ?_)
        show (R a m && zFtR R m s) = zFtR R m s
        rw [d, Bool.true_and]
      · rw [if_neg (by rw [Bool.and_eq_true, Bool.and_eq_true]; exact fun w => d w.2.2)]
        have e : (F m).filter (zFtR R a ∘ List.cons m) = [] := List.filter_eq_nil_iff.mpr (fun s _ w => d (by
          have w : (R a m && zFtR R m s) = true := w
          rw [Bool.and_eq_true] at w
          exact w.1))
        rw [e]
        rfl
    · rw [if_neg c, if_neg (by rw [Bool.and_eq_true, Bool.and_eq_true]; rw [Bool.and_eq_true] at c; exact fun w => c ⟨w.1, w.2.1⟩)]
      rfl
theorem z_flS {R : Nat → Nat → Bool} {n k a : Nat} {u : Nat → Bool} : zFL R n (k + 1) a u = zPj (fun j => zFL R n k j (fun q => u q || decide (q = j))) (fun j => !u j && R a j) n := z_pjF n
theorem z_pjL {F : Nat → List (List Nat)} {ok : Nat → Bool} : ∀ m : Nat, ((zPj F ok m).length : Int) = zSg (fun j => if ok j = true then ((F j).length : Int) else 0) m := by
  intro m
  induction m with
  | zero => rfl
  | succ m ih =>
    show ((zPj F ok m ++ (if decide (m ≠ 0) && ok m then (F m).map (List.cons m) else [])).length : Int) = zSg (fun j => if ok j = true then ((F j).length : Int) else 0) m + (if m = 0 then 0 else if ok m = true then ((F m).length : Int) else 0)
    rw [List.length_append, Int.natCast_add, ih]
    congr 1
    by_cases c : m = 0
    · subst c
      rfl
    · rw [if_neg c]
      by_cases d : ok m = true
      · rw [if_pos (by rw [Bool.and_eq_true]; exact ⟨decide_eq_true c, d⟩), if_pos d, List.length_map]
      · rw [if_neg (by rw [Bool.and_eq_true]; exact fun w => d w.2), if_neg d]
        rfl
theorem z_obL {R : Nat → Nat → Bool} {n : Nat} : ∀ (k a : Nat) (u : Nat → Bool), zObq R n k a u = ((zFL R n k a u).length : Int) := by
  intro k
  induction k with
  | zero => intro a u; rfl
  | succ k ih =>
    intro a u
    rw [z_flS, z_pjL]
    exact z_sgC n (fun j _ _ => by
      show (if (!u j && R a j) = true then zObq R n k j (fun q => u q || decide (q = j)) else 0) = if (!u j && R a j) = true then ((zFL R n k j (fun q => u q || decide (q = j))).length : Int) else 0
      rw [ih])
theorem z_pjN {F : Nat → List (List Nat)} {ok : Nat → Bool} {j : Nat} {k l : Nat} {s : Nat → Int} (hs : ∀ j : Nat, s j = if ok j = true then ((F j).length : Int) else 0) (j1 : 1 ≤ j) (hk : (k : Int) = zSg s j + (l : Int)) (hl : (l : Int) < s j) : ∀ m : Nat, j < m → (zPj F ok m)[k]? = ((F j)[l]?).map (List.cons j) := by
  have es : s = fun j => if ok j = true then ((F j).length : Int) else 0 := funext hs
  have s0 : ∀ q : Nat, 0 ≤ s q := fun q => by rw [hs q]; split <;> omega
  intro m
  induction m with
  | zero => intro h; omega
  | succ m ih =>
    intro h
    have ln := z_pjL (F := F) (ok := ok) m
    rw [← es] at ln
    show (zPj F ok m ++ (if decide (m ≠ 0) && ok m then (F m).map (List.cons m) else []))[k]? = ((F j)[l]?).map (List.cons j)
    by_cases c : j < m
    · have w := z_sgM s0 (a := j + 1) (m - (j + 1))
      rw [show j + 1 + (m - (j + 1)) = m by omega] at w
      have w2 : zSg s (j + 1) = zSg s j + s j := by
        show zSg s j + (if j = 0 then 0 else s j) = zSg s j + s j
        rw [if_neg (by omega)]
      rw [List.getElem?_append_left (by omega)]
      exact ih c
    · obtain rfl : j = m := by omega
      have ok1 : ok j = true := by
        cases d : ok j
        · rw [hs j, d] at hl
          rw [if_neg (by decide)] at hl
          omega
        · rfl
      rw [List.getElem?_append_right (by omega), if_pos (by rw [Bool.and_eq_true]; exact ⟨decide_eq_true (by omega), ok1⟩), List.getElem?_map, show k - (zPj F ok j).length = l by omega]
/-- the reference: the next order -/
theorem z_niS {f : Nat → Int32} {i i2 j y1 y2 : Int32} {N : Nat} (h : N = zLiq (zOg f) i.toInt.toNat) (i0 : 0 < i.toInt) (hj : j.toInt = i.toInt + 1) (e1 : y1 = f i.toNatClampNeg) (e2 : y2 = f j.toNatClampNeg) (hgt : y2.toInt < y1.toInt) (y0 : 0 ≤ y2.toInt) (hi : i2.toInt = i.toInt - 1) : N = zLiq (zOg f) i2.toInt.toNat := by
  have ei : i.toInt.toNat = i2.toInt.toNat + 1 := by omega
  have ej : j.toNatClampNeg = i2.toInt.toNat + 2 := by show j.toInt.toNat = _; omega
  have ei2 : i.toNatClampNeg = i2.toInt.toNat + 1 := ei
  rw [h, ei]
  show (if zOg f (i2.toInt.toNat + 2) < zOg f (i2.toInt.toNat + 1) then zLiq (zOg f) i2.toInt.toNat else i2.toInt.toNat + 1) = _
  rw [ei2] at e1
  rw [ej] at e2
  rw [if_pos (by unfold zOg; rw [← e1, ← e2]; omega)]
theorem z_niX {f : Nat → Int32} {i j y1 y2 : Int32} {N : Nat} (h : N = zLiq (zOg f) i.toInt.toNat) (i0 : 0 < i.toInt) (hj : j.toInt = i.toInt + 1) (e1 : y1 = f i.toNatClampNeg) (e2 : y2 = f j.toNatClampNeg) (hle : y1.toInt ≤ y2.toInt) : N = i.toInt.toNat := by
  obtain ⟨k, ek⟩ : ∃ k : Nat, i.toInt.toNat = k + 1 := ⟨i.toInt.toNat - 1, by omega⟩
  have ej : j.toNatClampNeg = k + 2 := by show j.toInt.toNat = _; omega
  have ei2 : i.toNatClampNeg = k + 1 := ek
  rw [h, ek]
  show (if zOg f (k + 2) < zOg f (k + 1) then zLiq (zOg f) k else k + 1) = _
  rw [ei2] at e1
  rw [ej] at e2
  rw [if_neg (by unfold zOg; rw [← e1, ← e2]; omega)]
theorem z_ni0q {f : Nat → Int32} {N : Nat} {i : Int} (h : N = zLiq (zOg f) i.toNat) (i0 : i ≤ 0) : N = 0 := by
  rw [h, show i.toNat = 0 by omega]
  rfl
theorem z_njS {f : Nat → Int32} {i j j2 yi yj : Int32} {N : Nat} (h : N = zLj (zOg f) (zOg f i.toInt.toNat) j.toInt.toNat) (j1 : 1 ≤ j.toInt) (e1 : yj = f j.toNatClampNeg) (e2 : yi = f i.toNatClampNeg) (hlt : yj.toInt < yi.toInt) (y0 : 0 ≤ yj.toInt) (hj : j2.toInt = j.toInt - 1) : N = zLj (zOg f) (zOg f i.toInt.toNat) j2.toInt.toNat := by
  have ej : j.toInt.toNat = j2.toInt.toNat + 1 := by omega
  have ej2 : j.toNatClampNeg = j2.toInt.toNat + 1 := ej
  rw [h, ej]
  show (if zOg f (j2.toInt.toNat + 1) < zOg f i.toInt.toNat then zLj (zOg f) (zOg f i.toInt.toNat) j2.toInt.toNat else j2.toInt.toNat + 1) = _
  rw [ej2] at e1
  have e2 : yi = f i.toInt.toNat := e2
  rw [if_pos (by unfold zOg; rw [← e1, ← e2]; omega)]
theorem z_njX {f : Nat → Int32} {i j yi yj : Int32} {N : Nat} (h : N = zLj (zOg f) (zOg f i.toInt.toNat) j.toInt.toNat) (j1 : 1 ≤ j.toInt) (e1 : yj = f j.toNatClampNeg) (e2 : yi = f i.toNatClampNeg) (hle : yi.toInt ≤ yj.toInt) : N = j.toInt.toNat := by
  obtain ⟨k, ek⟩ : ∃ k : Nat, j.toInt.toNat = k + 1 := ⟨j.toInt.toNat - 1, by omega⟩
  have ej2 : j.toNatClampNeg = k + 1 := ek
  rw [h, ek]
  show (if zOg f (k + 1) < zOg f i.toInt.toNat then zLj (zOg f) (zOg f i.toInt.toNat) k else k + 1) = _
  rw [ej2] at e1
  have e2 : yi = f i.toInt.toNat := e2
  rw [if_neg (by unfold zOg; rw [← e1, ← e2]; omega)]
/-- fits -/
def zDf (R : Nat → Nat → Prop) (n : Nat) (f : Nat → Int32) : Prop := ∀ q : Nat, 1 ≤ q → q < n → R (zOg f (q - 1)) (zOg f q)
noncomputable def zRb (R : Nat → Nat → Prop) (a x : Nat) : Bool := @decide (R a x) (Classical.propDecidable _)
theorem z_rbT {R : Nat → Nat → Prop} {a x : Nat} : zRb R a x = true ↔ R a x := by
  unfold zRb
  exact @decide_eq_true_iff (R a x) (Classical.propDecidable _)
noncomputable def zFt (R : Nat → Nat → Prop) (p : List Nat) : Bool := zFtR (zRb R) 0 p.tail
theorem z_pmM {n : Nat} {p : List Nat} (h : p ∈ zPm n) : ∃ s : List Nat, p = 0 :: s ∧ s ∈ zPq n (n - 1) (fun q => decide (q = 0)) := by
  obtain ⟨s, s1, s2⟩ := List.mem_map.mp h
  exact ⟨s, s2.symm, s1⟩
theorem z_dfE {R : Nat → Nat → Prop} {n : Nat} {f : Nat → Int32} {p : List Nat} (hp : p ∈ zPm n) (hr : zRp n f p) (n1 : 1 ≤ n) : zDf R n f ↔ zFt R p = true := by
  obtain ⟨s, rfl, hs⟩ := z_pmM hp
  have ls := (z_pqL _ _ s hs).1
  show zDf R n f ↔ zFtR (zRb R) 0 s = true
  rw [z_ftE]
  constructor
  · intro h q hq
    have w := h (q + 1) (by omega) (by omega)
    rw [hr (q + 1) (by omega), Nat.add_sub_cancel, hr q (by omega)] at w
    exact z_rbT.mpr w
  · intro h q q1 qn
    obtain ⟨q, rfl⟩ : ∃ k : Nat, q = k + 1 := ⟨q - 1, by omega⟩
    rw [Nat.add_sub_cancel, hr (q + 1) qn, hr q (by omega)]
    exact z_rbT.mp (h q (by omega))
theorem z_flN {ft : List Nat → Bool} {p : List Nat} : ∀ (P : List (List Nat)) (t : Nat), P[t]? = some p → ft p = true → (P.filter ft)[(P.take t).countP ft]? = some p := by
  intro P
  induction P with
  | nil => intro t h; exact absurd h (by rw [List.getElem?_nil]; exact fun w => by cases w)
  | cons x s ih =>
    intro t h hf
    cases t with
    | zero =>
      rw [List.getElem?_cons_zero] at h
      obtain rfl : x = p := Option.some.inj h
      rw [List.filter_cons, if_pos hf]
      rfl
    | succ t =>
      rw [List.getElem?_cons_succ] at h
      rw [List.take_succ_cons, List.countP_cons, List.filter_cons]
      by_cases c : ft x = true
      · rw [if_pos c, if_pos c, List.getElem?_cons_succ]
        exact ih t h hf
      · rw [if_neg c, if_neg c]
        exact ih t h hf
theorem z_pmLn : ∀ n : Nat, n < 8 → 1 ≤ n → (zPm n).length ≤ 720 := by decide +kernel
def zFbI (n : Nat) (ft : List Nat → Bool) (f : Nat → Int32) (c more : Int32) (asked : Int) : Prop := 1 ≤ n → n ≤ 7 → (0 ≤ asked → c.toInt ≤ asked) ∧ (0 ≤ c.toInt ∧ c.toInt ≤ 720) ∧ ((more.toInt = 1 ∧ ∃ (t : Nat) (p : List Nat), (zPm n)[t]? = some p ∧ zRp n f p ∧ c.toInt = ((((zPm n).take t).countP ft : Nat) : Int)) ∨ (more.toInt = 0 ∧ c.toInt = (((zPm n).countP ft : Nat) : Int)))
theorem z_cntT {ft : List Nat → Bool} {P : List (List Nat)} {t : Nat} {p : List Nat} (h : P[t]? = some p) : (P.take (t + 1)).countP ft = (P.take t).countP ft + (if ft p = true then 1 else 0) := by
  rw [List.take_succ, h, List.countP_append]
  show _ + ([p].countP ft) = _
  rw [List.countP_singleton]
theorem z_fbS {R : Nat → Nat → Prop} {n : Nat} {f f2 : Nat → Int32} {c c2 more y r : Int32} {asked : Int} (h : zFbI n (zFt R) f c more asked) (hm : more.toInt ≠ 0) (hy : zYn (zDf R n f) y.toInt) (s : (y.toInt ≠ 0 ∧ c.toInt ≠ asked ∧ c2 = c + 1) ∨ (y.toInt = 0 ∧ c2 = c)) (hn : zNxC n f r.toInt f2) : zFbI n (zFt R) f2 c2 r asked := fun n1 n7 => by
  obtain ⟨h1, ⟨h2, h2b⟩, h3⟩ := h n1 n7
  rcases h3 with ⟨-, t, p, a, b, d⟩ | ⟨h3, -⟩
  · have mem : p ∈ zPm n := List.mem_of_getElem? a
    have df := z_dfE (R := R) mem b n1
    have ct := z_cntT (ft := zFt R) a
    have le : ((zPm n).take (t + 1)).countP (zFt R) ≤ 720 := Nat.le_trans (List.countP_le_length) (Nat.le_trans (by rw [List.length_take]; exact Nat.min_le_right _ _) (z_pmLn n (by omega) n1))
    have ec : c2.toInt = ((((zPm n).take (t + 1)).countP (zFt R) : Nat) : Int) ∧ (0 ≤ asked → c2.toInt ≤ asked) := by
      rcases s with ⟨s1, s2, s3⟩ | ⟨s1, s2⟩
      · have fit : zFt R p = true := by
          rcases hy with ⟨-, hy⟩ | ⟨hy, -⟩
          · exact df.mp hy
          · exact absurd hy s1
        rw [if_pos fit] at ct
        have e : c2.toInt = c.toInt + 1 := by rw [s3]; exact z_add rfl (by decide) (by omega) (by omega)
        exact ⟨by omega, fun q => by have := h1 q; omega⟩
      · have fit : ¬ zFt R p = true := by
          rcases hy with ⟨hy, -⟩ | ⟨-, hy⟩
          · omega
          · exact fun w => hy (df.mpr w)
        rw [if_neg fit] at ct
        subst s2
        exact ⟨by omega, h1⟩
    refine ⟨ec.2, ⟨by omega, by omega⟩, ?_⟩
    rcases z_nxR hn b n1 with ⟨n2, n3⟩ | ⟨n2, p2, n3, n4⟩ <;> rcases z_chnP n1 n7 a with ⟨m1, m2⟩ | ⟨q, m1, m2⟩
    · refine Or.inr ⟨n2, ?_⟩
      rw [ec.1, m2, List.take_length]
    · rw [n3] at m1
      cases m1
    · rw [n3] at m1
      cases m1
    · rw [n3] at m1
      obtain rfl : p2 = q := Option.some.inj m1
      exact Or.inl ⟨n2, t + 1, p2, m2, n4, ec.1⟩
  · exact absurd h3 hm
def zFbC (n : Nat) (ft : List Nat → Bool) (asked : Int) (r : Int32) (f : Nat → Int32) : Prop := 1 ≤ n → n ≤ 7 → (0 ≤ asked ∧ r.toInt = asked + 1 ∧ asked ≤ 720 ∧ ∃ p : List Nat, ((zPm n).filter ft)[asked.toNat]? = some p ∧ zRp n f p) ∨ (r.toInt = (((zPm n).countP ft : Nat) : Int) ∧ (0 ≤ asked → r.toInt ≤ asked))
theorem z_fbT {R : Nat → Nat → Prop} {n : Nat} {f : Nat → Int32} {c more y r : Int32} {asked : Int} (h : zFbI n (zFt R) f c more asked) (hm : more.toInt ≠ 0) (hy : zYn (zDf R n f) y.toInt) (y0 : y.toInt ≠ 0) (ha : c.toInt = asked) (er : r = c + 1) : zFbC n (zFt R) asked r f := fun n1 n7 => by
  obtain ⟨h1, ⟨h2, h2b⟩, h3⟩ := h n1 n7
  rcases h3 with ⟨-, t, p, a, b, d⟩ | ⟨h3, -⟩
  · have e : r.toInt = c.toInt + 1 := by rw [er]; exact z_add rfl (by decide) (by omega) (by omega)
    have fit : zFt R p = true := by
      rcases hy with ⟨-, hy⟩ | ⟨hy, -⟩
      · exact (z_dfE (List.mem_of_getElem? a) b n1).mp hy
      · exact absurd hy y0
    refine Or.inl ⟨by omega, by omega, by omega, p, ?_, b⟩
    rw [← ha, d, Int.toNat_natCast]
    exact z_flN _ t a fit
  · exact absurd h3 hm
theorem z_fbE {ft : List Nat → Bool} {n : Nat} {f : Nat → Int32} {c more : Int32} {asked : Int} (h : zFbI n ft f c more asked) (hm : more.toInt = 0) : zFbC n ft asked c f := fun n1 n7 => by
  obtain ⟨h1, -, h3⟩ := h n1 n7
  rcases h3 with ⟨h3, -⟩ | ⟨-, h3⟩
  · omega
  · exact Or.inr ⟨h3, h1⟩
/-- the class: bits -/
theorem z_us {u j : Int32} (j0 : 0 ≤ j.toInt) (j1 : j.toInt < 12) : (fun q => bt (u ||| ((1 : Int32) <<< (j &&& 31))) q) = fun q => bt u q || decide (q = j.toInt.toNat) := funext (fun q => by
  by_cases c : q < 32
  · exact z_btO j0 j1 c
  · rw [b_big (by omega), b_big (by omega), Bool.false_or]
    exact (decide_eq_false (by omega)).symm)
theorem z_us1 : (fun q => bt (1 : Int32) q) = fun q => decide (q = 0) := funext (fun q => by
  by_cases c : q < 32
  · have w : ∀ i : Nat, i < 32 → bt (1 : Int32) i = decide (i = 0) := by decide +kernel
    exact w q c
  · rw [b_big (by omega)]
    exact (decide_eq_false (by omega)).symm)
theorem z_fr {a u : Int32} {q : Nat} (hq : q < 32) : bt (a &&& (u ^^^ (-1))) q = (!bt u q && bt a q) := by
  rw [b_and, b_xor, b_m1 q hq]
  cases bt a q <;> cases bt u q <;> rfl
def zRa (af : Nat → Int32) (a x : Nat) : Bool := bt (af a) x
/-- what comes behind with each line next -/
def zTt (af : Nat → Int32) (n k a : Nat) (u : Int32) (j : Nat) : Int := if (!bt u j && zRa af a j) = true then zObq (zRa af) n k j (fun q => bt u q || decide (q = j)) else 0
theorem z_ttB {af : Nat → Int32} {n k a j : Nat} {u : Int32} (n7 : n ≤ 7) (k6 : k ≤ 6) : 0 ≤ zTt af n k a u j ∧ zTt af n k a u j ≤ 117649 := by
  have w := z_obB (R := zRa af) (n := n) k j (fun q => bt u q || decide (q = j))
  have v : n ^ k ≤ 117649 := Nat.le_trans (Nat.pow_le_pow_left n7 k) (Nat.le_trans (Nat.pow_le_pow_right (by decide) k6) (by decide))
  have v2 : ((n ^ k : Nat) : Int) ≤ 117649 := Int.ofNat_le.mpr v
  unfold zTt
  split
  · exact ⟨w.1, Int.le_trans w.2 v2⟩
  · exact ⟨by decide, by decide⟩
def zOrI (af : Nat → Int32) (L : Int) (a u d : Int32) (j : Int) (all : Int32) : Prop := 1 ≤ d.toInt → d.toInt < L → L ≤ 7 → 0 ≤ a.toInt → a.toInt < L → all.toInt = zSg (zTt af L.toNat (L - d.toInt - 1).toNat a.toInt.toNat u) j.toNat
theorem z_or0q {af : Nat → Int32} {L : Int} {a u d : Int32} {j : Int} (hj : j = 1) : zOrI af L a u d j 0 := fun _ _ _ _ _ => by
  rw [hj]
  show (0 : Int32).toInt = 0 + (if (0 : Nat) = 0 then 0 else _)
  rw [if_pos rfl]
  decide
theorem z_sgS1 {t : Nat → Int} {j j2 : Int} (j1 : 1 ≤ j) (hj : j2 = j + 1) : zSg t j2.toNat = zSg t j.toNat + t j.toNat := by
  rw [show j2.toNat = j.toNat + 1 by omega]
  show zSg t j.toNat + (if j.toNat = 0 then 0 else t j.toNat) = _
  rw [if_neg (by omega)]
theorem z_orS {af : Nat → Int32} {L : Int} {a u d j j2 all all2 fr y : Int32} (h : zOrI af L a u d j.toInt all) (j1 : 1 ≤ j.toInt) (jL : j.toInt < L) (hj : j2.toInt = j.toInt + 1) (hf : 0 ≤ a.toInt → a.toInt < L → fr = af a.toNatClampNeg &&& (u ^^^ (-1))) (hb : (y.toInt = 1 ∧ bt fr j.toInt.toNat = true) ∨ (y.toInt = 0 ∧ bt fr j.toInt.toNat = false)) (s : (y.toInt ≠ 1 ∧ all2 = all) ∨ (y.toInt = 1 ∧ ∃ (x w d2 r : Int32), x = (1 : Int32) <<< (j &&& 31) ∧ w = u ||| x ∧ d2.toInt = d.toInt + 1 ∧ (1 ≤ d2.toInt → L ≤ 7 → 0 ≤ j.toInt → j.toInt < L → r.toInt = zObq (zRa af) L.toNat (L - d2.toInt).toNat j.toInt.toNat (fun q => bt w q)) ∧ all2 = all + r)) : zOrI af L a u d j2.toInt all2 := fun d1 dL L7 a0 aL => by
  have e := h d1 dL L7 a0 aL
  rw [hf a0 aL, z_fr (by omega)] at hb
  have bd := z_sgB (t := zTt af L.toNat (L - d.toInt - 1).toNat a.toInt.toNat u) (B := 117649) (fun j => z_ttB (by omega) (by omega)) j.toInt.toNat
  have bt9 := z_ttB (af := af) (n := L.toNat) (k := (L - d.toInt - 1).toNat) (a := a.toInt.toNat) (u := u) (j := j.toInt.toNat) (by omega) (by omega)
  rw [z_sgS1 j1 hj]
  rcases s with ⟨s1, s2⟩ | ⟨s1, x, w, d2, r, s2, s3, s4, s5, s6⟩
  · have t0 : zTt af L.toNat (L - d.toInt - 1).toNat a.toInt.toNat u j.toInt.toNat = 0 := by
      unfold zTt
      rw [if_neg (by
        have v := z_btF hb s1
        show ¬ (!bt u j.toInt.toNat && bt (af a.toInt.toNat) j.toInt.toNat) = true
        rw [show af a.toInt.toNat = af a.toNatClampNeg from rfl, v]
        decide)]
    rw [s2, e, t0]
    omega
  · have er := s5 (by omega) L7 (by omega) jL
    rw [s3, s2, z_us (by omega) (by omega), show L - d2.toInt = L - d.toInt - 1 by omega] at er
    have t1 : zTt af L.toNat (L - d.toInt - 1).toNat a.toInt.toNat u j.toInt.toNat = r.toInt := by
      rw [er]
      unfold zTt
      rw [if_pos (by
        have v := z_btT hb s1
        show (!bt u j.toInt.toNat && bt (af a.toInt.toNat) j.toInt.toNat) = true
        exact v)]
    rw [t1] at bt9 ⊢
    rw [s6, ← e]
    exact z_add rfl rfl (by omega) (by omega)
theorem z_orE {af : Nat → Int32} {L : Int} {a u d : Int32} {j : Int} {all : Int32} (h : zOrI af L a u d j all) (hj : j = L ∨ (L ≤ 1 ∧ j = 1)) (dL : d.toInt < L) : 1 ≤ d.toInt → L ≤ 7 → 0 ≤ a.toInt → a.toInt < L → all.toInt = zObq (zRa af) L.toNat (L - d.toInt).toNat a.toInt.toNat (fun q => bt u q) := fun d1 L7 a0 aL => by
  have e := h d1 dL L7 a0 aL
  rw [show j = L by omega] at e
  rw [e, show (L - d.toInt).toNat = (L - d.toInt - 1).toNat + 1 by omega]
  rfl
theorem z_or1 {af : Nat → Int32} {L : Int} {a u d : Int32} {r : Int} (hd : L ≤ d.toInt ∨ 7 ≤ d.toInt) (hr : r = 1) : 1 ≤ d.toInt → L ≤ 7 → 0 ≤ a.toInt → a.toInt < L → r = zObq (zRa af) L.toNat (L - d.toInt).toNat a.toInt.toNat (fun q => bt u q) := fun _ L7 _ _ => by
  rw [show (L - d.toInt).toNat = 0 by omega, hr]
  rfl
/-- the class: the line of an order -/
def zLwI (af : Nat → Int32) (L : Int) (K d la us lf : Int32) : Prop := 1 ≤ L → L ≤ 7 → 0 ≤ K.toInt → ∀ p : List Nat, (zFL (zRa af) L.toNat (L - 1).toNat 0 (fun q => bt (1 : Int32) q))[K.toInt.toNat]? = some p → (0 ≤ la.toInt ∧ la.toInt < L) ∧ la.toInt = (((0 :: p).getD (d.toInt - 1).toNat 0 : Nat) : Int) ∧ 0 ≤ lf.toInt ∧ (zFL (zRa af) L.toNat (L - d.toInt).toNat la.toInt.toNat (fun q => bt us q))[lf.toInt.toNat]? = some (p.drop (d.toInt - 1).toNat)
theorem z_lw0 {af : Nat → Int32} {L : Int} {K : Int32} : zLwI af L K 1 0 1 K := fun L1 L7 K0 p hp => by
  have e1 : (1 : Int32).toInt = 1 := by decide
  have e0 : (0 : Int32).toInt = 0 := by decide
  rw [e1, e0]
  exact ⟨⟨by omega, by omega⟩, rfl, K0, hp⟩
def zLxI (af : Nat → Int32) (L : Int) (la us d lf0 : Int32) (j ch lf : Int) : Prop := 1 ≤ L → L ≤ 7 → (1 ≤ d.toInt ∧ d.toInt < L) → (0 ≤ la.toInt ∧ la.toInt < L) → 0 ≤ lf0.toInt → 0 ≤ lf ∧ ((ch = -9 ∧ lf0.toInt = lf + zSg (zTt af L.toNat (L - d.toInt - 1).toNat la.toInt.toNat us) j.toNat) ∨ (1 ≤ ch ∧ ch < L ∧ lf0.toInt = lf + zSg (zTt af L.toNat (L - d.toInt - 1).toNat la.toInt.toNat us) ch.toNat ∧ lf < zTt af L.toNat (L - d.toInt - 1).toNat la.toInt.toNat us ch.toNat))
theorem z_lx0 {af : Nat → Int32} {L : Int} {la us d lf0 : Int32} {j ch : Int} (hj : j = 1) (hc : ch = -9) : zLxI af L la us d lf0 j ch lf0.toInt := fun _ _ _ _ l0 => ⟨l0, Or.inl ⟨hc, by
  rw [hj]
  show lf0.toInt = lf0.toInt + (0 + (if (0 : Nat) = 0 then 0 else _))
  rw [if_pos rfl]
  omega⟩⟩
theorem z_lxS {af : Nat → Int32} {L : Int} {la us d lf0 lf lf2 j j2 fr y b : Int32} {ch ch2 : Int} (h : zLxI af L la us d lf0 j.toInt ch lf.toInt) (hc : ch = -9) (j1 : 1 ≤ j.toInt) (jL : j.toInt < L) (hj : j2.toInt = j.toInt + 1) (hf : 0 ≤ la.toInt → la.toInt < L → fr = af la.toNatClampNeg &&& (us ^^^ (-1))) (hb : (y.toInt = 1 ∧ bt fr j.toInt.toNat = true) ∨ (y.toInt = 0 ∧ bt fr j.toInt.toNat = false)) (s : (y.toInt ≠ 1 ∧ b.toInt = 0) ∨ (y.toInt = 1 ∧ ∃ (x w d2 : Int32), x = (1 : Int32) <<< (j &&& 31) ∧ w = us ||| x ∧ d2.toInt = d.toInt + 1 ∧ (1 ≤ d2.toInt → L ≤ 7 → 0 ≤ j.toInt → j.toInt < L → b.toInt = zObq (zRa af) L.toNat (L - d2.toInt).toNat j.toInt.toNat (fun q => bt w q)))) (t : (lf.toInt < b.toInt ∧ ch2 = j.toInt ∧ lf2 = lf) ∨ (b.toInt ≤ lf.toInt ∧ ch2 = -9 ∧ lf2 = lf - b)) : zLxI af L la us d lf0 j2.toInt ch2 lf2.toInt := fun L1 L7 hd hla l0 => by
  obtain ⟨h0, h1⟩ := h L1 L7 hd hla l0
  rcases h1 with ⟨-, h1⟩ | ⟨h1, -⟩
  · rw [hf hla.1 hla.2, z_fr (by omega)] at hb
    have tb : zTt af L.toNat (L - d.toInt - 1).toNat la.toInt.toNat us j.toInt.toNat = b.toInt := by
      rcases s with ⟨s1, s2⟩ | ⟨s1, x, w, d2, s2, s3, s4, s5⟩
      · unfold zTt
        rw [if_neg (by
          have v := z_btF hb s1
          show ¬ (!bt us j.toInt.toNat && bt (af la.toInt.toNat) j.toInt.toNat) = true
          rw [show af la.toInt.toNat = af la.toNatClampNeg from rfl, v]
          decide), s2]
      · have er := s5 (by omega) L7 (by omega) jL
        rw [s3, s2, z_us (by omega) (by omega), show L - d2.toInt = L - d.toInt - 1 by omega] at er
        rw [er]
        unfold zTt
        rw [if_pos (by
          have v := z_btT hb s1
          show (!bt us j.toInt.toNat && bt (af la.toInt.toNat) j.toInt.toNat) = true
          exact v)]
    have bd := z_ttB (af := af) (n := L.toNat) (k := (L - d.toInt - 1).toNat) (a := la.toInt.toNat) (u := us) (j := j.toInt.toNat) (by omega) (by omega)
    rcases t with ⟨t1, t2, t3⟩ | ⟨t1, t2, t3⟩
    · rw [t3]
      refine ⟨h0, Or.inr ⟨by omega, by omega, ?_, ?_⟩⟩
      · rw [t2]
        exact h1
      · rw [t2, tb]
        exact t1
    · have e : lf2.toInt = lf.toInt - b.toInt := by rw [t3]; exact z_sub rfl rfl (by have := z_lo lf; omega) (by have := z_hi lf; omega)
      refine ⟨by omega, Or.inl ⟨t2, ?_⟩⟩
      rw [z_sgS1 j1 hj, tb]
      omega
  · omega
theorem z_fbk {af : Nat → Int32} {L : Int} {la us d : Int32} (hd : 1 ≤ d.toInt ∧ d.toInt < L) : zFL (zRa af) L.toNat (L - d.toInt).toNat la.toInt.toNat (fun q => bt us q) = zPj (fun j => zFL (zRa af) L.toNat (L - d.toInt - 1).toNat j (fun q => bt us q || decide (q = j))) (fun j => !bt us j && zRa af la.toInt.toNat j) L.toNat := by
  rw [show (L - d.toInt).toNat = (L - d.toInt - 1).toNat + 1 by omega]
  exact z_flS
theorem z_ttL {af : Nat → Int32} {n k a : Nat} {u : Int32} (j : Nat) : zTt af n k a u j = if (!bt u j && zRa af a j) = true then ((zFL (zRa af) n k j (fun q => bt u q || decide (q = j))).length : Int) else 0 := by
  unfold zTt
  rw [z_obL]
theorem z_lwX {af : Nat → Int32} {L : Int} {K d la us lf0 : Int32} {j ch lf : Int} (h : zLwI af L K d la us lf0) (hx : zLxI af L la us d lf0 j ch lf) (hc : ch = -9) (hj : j = L ∨ (L ≤ 1 ∧ j = 1)) (d1 : 1 ≤ d.toInt) (dL : d.toInt < L) (L7 : L ≤ 7) (K0 : 0 ≤ K.toInt) {p : List Nat} (hp : (zFL (zRa af) L.toNat (L - 1).toNat 0 (fun q => bt (1 : Int32) q))[K.toInt.toNat]? = some p) : False := by
  obtain ⟨h1, h2, h3, h4⟩ := h (by omega) L7 K0 p hp
  obtain ⟨x0, x1⟩ := hx (by omega) L7 ⟨d1, dL⟩ h1 h3
  rcases x1 with ⟨-, x1⟩ | ⟨x1, -⟩
  · rw [z_fbk ⟨d1, dL⟩] at h4
    have ln := z_pjL (F := fun j => zFL (zRa af) L.toNat (L - d.toInt - 1).toNat j (fun q => bt us q || decide (q = j))) (ok := fun j => !bt us j && zRa af la.toInt.toNat j) L.toNat
    have e : zSg (zTt af L.toNat (L - d.toInt - 1).toNat la.toInt.toNat us) L.toNat = zSg (fun j => if (!bt us j && zRa af la.toInt.toNat j) = true then ((zFL (zRa af) L.toNat (L - d.toInt - 1).toNat j (fun q => bt us q || decide (q = j))).length : Int) else 0) L.toNat := z_sgC _ (fun j _ _ => z_ttL j)
    rw [show j = L by omega, e] at x1
    have lt := (List.getElem?_eq_some_iff.mp h4).1
    omega
  · omega
theorem z_lwS {af : Nat → Int32} {L : Int} {K d d2 la us us2 lf0 lf ch x : Int32} {j : Int} (h : zLwI af L K d la us lf0) (hx : zLxI af L la us d lf0 j ch.toInt lf.toInt) (hc : ch.toInt ≠ -9) (d1 : 1 ≤ d.toInt) (dL : d.toInt < L) (hd : d2.toInt = d.toInt + 1) (ex : x = (1 : Int32) <<< (ch &&& 31)) (eu : us2 = us ||| x) : zLwI af L K d2 ch us2 lf := fun L1 L7 K0 p hp => by
  obtain ⟨h1, h2, h3, h4⟩ := h L1 L7 K0 p hp
  obtain ⟨x0, x1⟩ := hx L1 L7 ⟨d1, dL⟩ h1 h3
  rcases x1 with ⟨x1, -⟩ | ⟨x1, x2, x3, x4⟩
  · exact absurd x1 hc
  · rw [z_fbk ⟨d1, dL⟩] at h4
    have nth := z_pjN (F := fun j => zFL (zRa af) L.toNat (L - d.toInt - 1).toNat j (fun q => bt us q || decide (q = j))) (ok := fun j => !bt us j && zRa af la.toInt.toNat j) (j := ch.toInt.toNat) (k := lf0.toInt.toNat) (l := lf.toInt.toNat) (s := zTt af L.toNat (L - d.toInt - 1).toNat la.toInt.toNat us) (fun j => z_ttL j) (by omega) (by omega) (by omega) L.toNat (by omega)
    rw [nth] at h4
    obtain ⟨s, hs1, hs2⟩ := Option.map_eq_some_iff.mp h4
    have dr : p.drop (d.toInt - 1).toNat = ch.toInt.toNat :: s := hs2.symm
    have dr2 : p.drop ((d.toInt - 1).toNat + 1) = s := by
      have w := congrArg List.tail dr
      rw [List.tail_drop] at w
      exact w
    have gd : p.getD (d.toInt - 1).toNat 0 = ch.toInt.toNat := by
      rw [List.getD_eq_getElem?_getD]
      have w : (p.drop (d.toInt - 1).toNat)[0]? = p[(d.toInt - 1).toNat]? := by rw [List.getElem?_drop, Nat.add_zero]
      rw [← w, dr]
      rfl
    refine ⟨⟨by omega, x2⟩, ?_, x0, ?_⟩
    · rw [show (d2.toInt - 1).toNat = (d.toInt - 1).toNat + 1 by omega]
      show ch.toInt = ((p.getD (d.toInt - 1).toNat 0 : Nat) : Int)
      rw [gd]
      omega
    · rw [show (d2.toInt - 1).toNat = (d.toInt - 1).toNat + 1 by omega, dr2, eu, ex, z_us (by omega) (by omega), show L - d2.toInt = L - d.toInt - 1 by omega]
      exact hs1
def zLwC (af : Nat → Int32) (L : Int) (K i : Int32) (r : Int) : Prop := 1 ≤ L → L ≤ 7 → 0 ≤ K.toInt → 0 ≤ i.toInt → i.toInt < L → ∀ p : List Nat, (zFL (zRa af) L.toNat (L - 1).toNat 0 (fun q => bt (1 : Int32) q))[K.toInt.toNat]? = some p → r = (((0 :: p).getD i.toInt.toNat 0 : Nat) : Int)
theorem z_lwE {af : Nat → Int32} {L : Int} {K d i la us lf : Int32} (h : zLwI af L K d la us lf) (hd : d.toInt = i.toInt + 1) : zLwC af L K i la.toInt := fun L1 L7 K0 i0 iL p hp => by
  obtain ⟨-, h2, -⟩ := h L1 L7 K0 p hp
  rw [h2, hd, show (i.toInt + 1 - 1).toNat = i.toInt.toNat by omega]
/-- books, book -/
def zBkR (L : Int) (c : Prop) (w : Prop) (r : Int) : Prop := (c ∧ r = -4) ∨ (¬ c ∧ L = 0 ∧ r = -3) ∨ (¬ c ∧ 7 < L ∧ r = -6) ∨ (¬ c ∧ 0 < L ∧ L ≤ 7 ∧ w)
def zBsC (P L : Int) (G : Nat → ZQ) (tx sz on cu : Nat → Int32) (r : Int) : Prop := zBkR L False (∃ af : Nat → Int32, zWe P L G tx sz on cu 0 af L ∧ (1 ≤ L → L ≤ 7 → r = zObq (zRa af) L.toNat (L - 1).toNat 0 (fun q => bt (1 : Int32) q))) r
def zBsM (R : Nat → Nat → Prop) (L : Int) (r : Int) : Prop := zBkR L False (∃ (r9 : Int32) (f : Nat → Int32), r = r9.toInt ∧ zFbC L.toNat (zFt R) (-9) r9 f) r
theorem z_bkF {R : Nat → Nat → Prop} {af : Nat → Int32} {n : Nat} (e : ∀ a x : Nat, a < n → x < n → (bt (af a) x = true ↔ R a x)) (n1 : 1 ≤ n) : (zPm n).filter (zFt R) = (zFL (zRa af) n (n - 1) 0 (fun q => bt (1 : Int32) q)).map (List.cons 0) := by
  unfold zPm zFL
  rw [List.filter_map, z_us1]
  congr 1
  refine List.filter_congr (fun s hs => ?_)
  show zFtR (zRb R) 0 s = zFtR (zRa af) 0 s
  refine z_ftC (n := n) (fun a x ha hx => ?_) s 0 (by omega) (z_pqL _ _ s hs).2
  have w := e a x ha hx
  cases c : zRb R a x <;> cases d : zRa af a x
  · rfl
  · exact absurd (z_rbT.mpr (w.mp d)) (by rw [c]; decide)
  · exact absurd (w.mpr (z_rbT.mp c)) (fun v => by rw [show bt (af a) x = zRa af a x from rfl, d] at v; exact absurd v (by decide))
  · rfl
theorem z_bkN {R : Nat → Nat → Prop} {af : Nat → Int32} {n : Nat} (e : ∀ a x : Nat, a < n → x < n → (bt (af a) x = true ↔ R a x)) (n1 : 1 ≤ n) : (((zPm n).countP (zFt R) : Nat) : Int) = zObq (zRa af) n (n - 1) 0 (fun q => bt (1 : Int32) q) := by
  rw [List.countP_eq_length_filter, z_bkF e n1, List.length_map, z_obL]
def zBcC (P L : Int) (G : Nat → ZQ) (tx sz on cu : Nat → Int32) (k i : Int32) (r : Int) : Prop := zBkR L (k.toInt < 0 ∨ i.toInt < 0) (∃ (af : Nat → Int32) (o : Int), zWe P L G tx sz on cu 0 af L ∧ (((L ≤ i.toInt ∨ (o ≤ k.toInt ∧ (1 ≤ L → L ≤ 7 → o = zObq (zRa af) L.toNat (L - 1).toNat 0 (fun q => bt (1 : Int32) q)))) ∧ r = -9) ∨ (i.toInt < L ∧ k.toInt < o ∧ (1 ≤ L → L ≤ 7 → o = zObq (zRa af) L.toNat (L - 1).toNat 0 (fun q => bt (1 : Int32) q)) ∧ zLwC af L k i r))) r
def zBcM (R : Nat → Nat → Prop) (L : Int) (k i : Int32) (r : Int) : Prop := zBkR L (k.toInt < 0 ∨ i.toInt < 0) ((L ≤ i.toInt ∧ r = -9) ∨ (i.toInt < L ∧ ∃ (r9 y : Int32) (f : Nat → Int32), zFbC L.toNat (zFt R) k.toInt r9 f ∧ y = k + 1 ∧ ((r9.toInt = y.toInt ∧ ∃ w : Int32, w = f i.toNatClampNeg ∧ 0 ≤ w.toInt ∧ r = w.toInt) ∨ (r9.toInt ≠ y.toInt ∧ r = -9)))) r
theorem z_bsU {R : Nat → Nat → Prop} {P L M : Int} {G : Nat → ZQ} {tx sz on cu : Nat → Int32} {r r2 : Int} (hC : zBsC P L G tx sz on cu r) (hM : zBsM R M r2) (hL : L = M) (e : ∀ af : Nat → Int32, zWe P L G tx sz on cu 0 af L → ∀ a x : Nat, a < L.toNat → x < L.toNat → (bt (af a) x = true ↔ R a x)) : r = r2 := by
  subst hL
  rcases hC with ⟨a, -⟩ | ⟨-, a, b⟩ | ⟨-, a, b⟩ | ⟨-, a, b, af, c, d⟩ <;> rcases hM with ⟨w, -⟩ | ⟨-, w, v⟩ | ⟨-, w, v⟩ | ⟨-, w, v, r9, f, q1, q2⟩ <;> first | exact a.elim | exact w.elim | omega | skip
  have n := z_bkN (e af c) (by omega)
  have f9 := q2 (by omega) (by omega)
  rcases f9 with ⟨g, -⟩ | ⟨g, -⟩
  · omega
  · rw [d (by omega) b, q1, g, n, show (L - 1).toNat = L.toNat - 1 by omega]
theorem z_bcU {R : Nat → Nat → Prop} {P L M : Int} {G : Nat → ZQ} {tx sz on cu : Nat → Int32} {k i : Int32} {r r2 : Int} (hC : zBcC P L G tx sz on cu k i r) (hM : zBcM R M k i r2) (hL : L = M) (e : ∀ af : Nat → Int32, zWe P L G tx sz on cu 0 af L → ∀ a x : Nat, a < L.toNat → x < L.toNat → (bt (af a) x = true ↔ R a x)) : r = r2 := by
  subst hL
  rcases hC with ⟨a, b⟩ | ⟨a, a2, b⟩ | ⟨a, a2, b⟩ | ⟨a, a2, b, af, o, c, d⟩ <;> rcases hM with ⟨w, v⟩ | ⟨w, w2, v⟩ | ⟨w, w2, v⟩ | ⟨w, w2, v, u⟩ <;> first | exact absurd a w | exact absurd w a | (exfalso; clear c d; omega) | (exfalso; clear u; omega) | omega | skip
  have n := z_bkN (e af c) (show 1 ≤ L.toNat by omega)
  have en : (L - 1).toNat = L.toNat - 1 := by omega
  rcases u with ⟨u1, u2⟩ | ⟨u1, r9, y, f, u2, u3, u4⟩
  · rcases d with ⟨-, d2⟩ | ⟨d1, -⟩
    · omega
    · omega
  · have f9 := u2 (by omega) (by omega)
    have hy : k.toInt < 2147483647 → y.toInt = k.toInt + 1 := fun q => by rw [u3]; exact z_add rfl (by decide) (by have := z_lo k; omega) (by omega)
    have kh := z_hi k
    have hy2 : k.toInt = 2147483647 → y.toInt = -2147483648 := fun q => by
      rw [u3, show k = 2147483647 from z_i32 (by rw [q]; decide)]
      decide
    rcases f9 with ⟨g0, g1, g2, p, g3, g4⟩ | ⟨g1, g2⟩
    · have gy := hy (by omega)
      rcases u4 with ⟨u5, wv, u6, u7, u8⟩ | ⟨u5, -⟩
      · rw [z_bkF (e af c) (by omega), List.getElem?_map] at g3
        obtain ⟨s, s1, s2⟩ := Option.map_eq_some_iff.mp g3
        rw [← en] at s1
        have lt := (List.getElem?_eq_some_iff.mp s1).1
        rcases d with ⟨d1, -⟩ | ⟨d1, d2, d3, d4⟩
        · rcases d1 with d1 | ⟨d1, d2⟩
          · omega
          · have q := d2 (by omega) b
            rw [z_obL] at q
            omega
        · rw [d4 (by omega) b g0 (by omega) d1 s s1, u8, s2]
          have z := g4 i.toInt.toNat (by omega)
          unfold zOg at z
          rw [← z, show f i.toInt.toNat = wv from u6.symm]
          omega
      · omega
    · have gk := g2 (by omega)
      rcases u4 with ⟨u5, -⟩ | ⟨-, u5⟩
      · by_cases q : k.toInt < 2147483647
        · have := hy q
          omega
        · have := hy2 (by omega)
          omega
      · rcases d with ⟨-, d2⟩ | ⟨d1, d2, d3, -⟩
        · omega
        · have q := d3 (by omega) b
          rw [en, ← n] at q
          omega
theorem z_bkE {P L ki jk jw : Int32} {G : Nat → ZQ} {sp cu ow on tx sz a1 a2 a3 a4 a5 a6 a7 a8 : Nat → Int32} {i1 i2 i3 : Int} (hr : zRe P L ki sp cu ow on tx sz (zSt a1 a2 a3 a4 a5 a6 a7 a8 i1 i2 i3)) (hk : zKn P.toInt G a1 a2) (hc : cu = a6) (hL2 : L.toInt ≤ 12) (hj : jk.toInt = -9) : ∀ af : Nat → Int32, zWe P.toInt L.toInt G tx sz on cu 0 af L.toInt → ∀ a x : Nat, a < L.toInt.toNat → x < L.toInt.toNat → (bt (af a) x = true ↔ zIcR a8 a5 jk jw a1 a2 a4 a6 (a : Int) (x : Int)) := by
  subst hc
  intro af hwe a x ha hx
  have H := z_pyRe hr hL2 hk
  have e0 : (0 : Int32).toInt = 0 := by decide
  have ea : (zIo (a : Int)).toInt = (a : Int) := z_ioT (by omega) (by omega)
  have ea2 : (zIo (a : Int)).toNatClampNeg = a := by
    show (zIo (a : Int)).toInt.toNat = a
    omega
  have row := hwe (by decide) (by decide) a8 a5 a1 a2 H a (by omega)
  rw [e0] at row
  have w := z_cueE (jk := jk) (jw := jw) (i := zIo (a : Int)) (x := af a) (j := x) (wh := a4) (by rw [ea2]; exact row) H (fun l hl => (hr.2.2.1 l (by omega)).2.1) hj (by omega) (by omega) (by omega)
  rw [ea] at w
  exact w
def zDfI (R : Nat → Nat → Prop) (f : Nat → Int32) (k : Int) : Prop := ∀ q : Nat, 1 ≤ q → (q : Int) < k → R (zOg f (q - 1)) (zOg f q)
theorem z_df0 {R : Nat → Nat → Prop} {f : Nat → Int32} {k : Int} (h : k = 1) : zDfI R f k := fun q q1 hq => by omega
theorem z_dfS {R : Nat → Nat → Prop} {f : Nat → Int32} {k k2 j x y : Int32} (h : zDfI R f k.toInt) (k1 : 1 ≤ k.toInt) (hk : k2.toInt = k.toInt + 1) (hj : j.toInt = k.toInt - 1) (ex : x = f j.toNatClampNeg) (ey : y = f k.toNatClampNeg) (w : R x.toInt.toNat y.toInt.toNat) : zDfI R f k2.toInt := fun q q1 hq => by
  by_cases c : q = k.toInt.toNat
  · have e1 : j.toNatClampNeg = q - 1 := by show j.toInt.toNat = _; omega
    have e2 : k.toNatClampNeg = q := c.symm
    rw [ex, ey, e1, e2] at w
    exact w
  · exact h q q1 (by omega)
theorem z_dfT {R : Nat → Nat → Prop} {f : Nat → Int32} {n : Nat} {k r : Int} (h : zDfI R f k) (hk : (n : Int) ≤ k) (hr : r = 1) : zYn (zDf R n f) r := Or.inl ⟨hr, fun q q1 hq => h q q1 (by omega)⟩
theorem z_dfF {R : Nat → Nat → Prop} {f : Nat → Int32} {n : Nat} {k j x y : Int32} {r : Int} (k1 : 1 ≤ k.toInt) (kn : k.toInt < (n : Int)) (hj : j.toInt = k.toInt - 1) (ex : x = f j.toNatClampNeg) (ey : y = f k.toNatClampNeg) (w : ¬ R x.toInt.toNat y.toInt.toNat) (hr : r = 0) : zYn (zDf R n f) r := Or.inr ⟨hr, fun v => w (by
  have u := v k.toInt.toNat (by omega) (by omega)
  have e1 : j.toNatClampNeg = k.toInt.toNat - 1 := by show j.toInt.toNat = _; omega
  rw [ex, ey, e1]
  exact u)⟩
theorem z_icN {wd mn kd fg wh cu : Nat → Int32} {jk jw x y : Int32} {c : Int} (h : zYn (zIcR wd mn jk jw kd fg wh cu x.toInt y.toInt) c) (x0 : 0 ≤ x.toInt) (y0 : 0 ≤ y.toInt) : (c ≠ 0 → (fun a x : Nat => zIcR wd mn jk jw kd fg wh cu (a : Int) (x : Int)) x.toInt.toNat y.toInt.toNat) ∧ (c = 0 → ¬ (fun a x : Nat => zIcR wd mn jk jw kd fg wh cu (a : Int) (x : Int)) x.toInt.toNat y.toInt.toNat) := by
  show (c ≠ 0 → zIcR wd mn jk jw kd fg wh cu ((x.toInt.toNat : Nat) : Int) ((y.toInt.toNat : Nat) : Int)) ∧ (c = 0 → ¬ zIcR wd mn jk jw kd fg wh cu ((x.toInt.toNat : Nat) : Int) ((y.toInt.toNat : Nat) : Int))
  rw [Int.toNat_of_nonneg x0, Int.toNat_of_nonneg y0]
  rcases h with ⟨a, b⟩ | ⟨a, b⟩
  · exact ⟨fun _ => b, fun q => by omega⟩
  · exact ⟨fun q => absurd a q, fun _ => b⟩

