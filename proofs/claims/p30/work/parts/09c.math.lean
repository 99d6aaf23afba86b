/-- kinds: all that is neither 1, 4 nor 5 goes as 0 -/
def zKz (k : Int) : Int := if k = 1 ∨ k = 4 ∨ k = 5 then k else 0
theorem z_kz {k : Int} : (0 ≤ zKz k ∧ zKz k ≤ 5) ∧ (zKz k = 1 ↔ k = 1) ∧ (zKz k = 4 ↔ k = 4) ∧ (zKz k = 5 ↔ k = 5) := by
  unfold zKz
  split <;> omega
theorem z_chIz {k j f : Int} {O C S : Nat → Prop} (h : zChI k O C S j f) : zChI (zKz k) O C S j f := by
  obtain ⟨-, e1, -, e5⟩ := z_kz (k := k)
  obtain ⟨h1, h2, h3⟩ := h
  exact ⟨fun q => h1 (e1.mp q), fun q => h2 (e5.mp q), fun q w => h3 (fun v => q (e1.mpr v)) (fun v => w (e5.mpr v))⟩
theorem z_cwZ {dd : Bool} {k L p r : Int} {wh : Nat → Int32} {C S : Nat → Prop} (h : zCwA dd (zKz k) L wh C S p r) : 0 ≤ k → k ≤ 5 → zCwA dd k L wh C S p r := by
  intro k0 k5
  obtain ⟨-, e1, e4, e5⟩ := z_kz (k := k)
  rcases h with h | ⟨h1, h2⟩
  · exact Or.inl h
  · refine Or.inr ⟨h1, ?_⟩
    rcases h2 with ⟨a, b⟩ | ⟨a, b⟩ | ⟨a, b⟩ | ⟨a, b⟩
    · exact Or.inl ⟨e4.mp a, b⟩
    · exact Or.inr (Or.inl ⟨e1.mp a, b⟩)
    · exact Or.inr (Or.inr (Or.inl ⟨e5.mp a, b⟩))
    · refine Or.inr (Or.inr (Or.inr ⟨?_, b⟩))
      omega
noncomputable def zCz (L : Int) (kd wh : Nat → Int32) (C : Nat → Prop) (sd dd : Int32) (q : Nat) : Int := zCom (fun q => bt dd q) (fun q => zKz (kd q).toInt) L wh C (fun j => bt sd j = true) q
theorem z_czE {L r : Int} {kd wh : Nat → Int32} {C : Nat → Prop} {sd dd p : Int32} (p0 : 0 ≤ p.toInt) (h : zCwA (bt dd p.toInt.toNat) (zKz (kd p.toNatClampNeg).toInt) L wh C (fun j => bt sd j = true) p.toInt r) : r = zCz L kd wh C sd dd p.toInt.toNat := by
  have hp : ((p.toInt.toNat : Nat) : Int) = p.toInt := Int.toNat_of_nonneg p0
  show r = zCom (fun q => bt dd q) (fun q => zKz (kd q).toInt) L wh C (fun j => bt sd j = true) p.toInt.toNat
  refine z_comE (dd := fun q => bt dd q) (kd := fun q => zKz (kd q).toInt) ?_
  rw [hp]
  exact h
theorem z_czR {L : Int} {kd wh : Nat → Int32} {C : Nat → Prop} {sd dd : Int32} {q : Nat} (hL : L ≤ 12) : zCz L kd wh C sd dd q = -9 ∨ (0 ≤ zCz L kd wh C sd dd q ∧ zCz L kd wh C sd dd q < L) := z_comR (dd := fun q => bt dd q) (kd := fun q => zKz (kd q).toInt) z_kz.1.1 z_kz.1.2 hL
theorem z_czQ {L : Int} {kd wh : Nat → Int32} {C : Nat → Prop} {sd dd : Int32} {q : Nat} (k0 : 0 ≤ (kd q).toInt) (k5 : (kd q).toInt ≤ 5) : zCz L kd wh C sd dd q = zCom (fun q => bt dd q) (fun q => (kd q).toInt) L wh C (fun j => bt sd j = true) q :=
  z_comE (dd := fun q => bt dd q) (kd := fun q => (kd q).toInt) (z_cwZ (z_comX (dd := fun q => bt dd q) (kd := fun q => zKz (kd q).toInt) z_kz.1.1 z_kz.1.2) k0 k5)
/-- how many come -/
def zNc (com : Nat → Int) : Nat → Int
  | 0 => 0
  | k + 1 => zNc com k + (if com k = -9 then 0 else 1)
theorem z_nc0 {com : Nat → Int} {p n : Int} (hp : p = 0) (hn : n = 0) : n = zNc com p.toNat := by
  rw [hp, hn]
  rfl
theorem z_ncS {com : Nat → Int} {n n2 y : Int} {p p2 : Int32} (h : n = zNc com p.toInt.toNat) (p0 : 0 ≤ p.toInt) (hp : p2.toInt = p.toInt + 1) (hy : y = com p.toInt.toNat) (s : (y ≠ -9 ∧ n2 = n + 1) ∨ (y = -9 ∧ n2 = n)) : n2 = zNc com p2.toInt.toNat := by
  rw [show p2.toInt.toNat = p.toInt.toNat + 1 by omega]
  show n2 = zNc com p.toInt.toNat + (if com p.toInt.toNat = -9 then 0 else 1)
  rw [← h, ← hy]
  rcases s with ⟨s1, s2⟩ | ⟨s1, s2⟩
  · rw [if_neg s1, s2]
  · rw [if_pos s1, s2]
    omega
theorem z_ncP {com : Nat → Int} : ∀ k : Nat, 0 ≤ zNc com k ∧ zNc com k ≤ (k : Int) := by
  intro k
  induction k with
  | zero => exact ⟨Int.le_refl _, Int.le_refl _⟩
  | succ k ih =>
    show 0 ≤ zNc com k + (if com k = -9 then 0 else 1) ∧ zNc com k + (if com k = -9 then 0 else 1) ≤ ((k + 1 : Nat) : Int)
    split <;> omega
theorem z_ncM {com : Nat → Int} {a : Nat} : ∀ d : Nat, zNc com a ≤ zNc com (a + d) := by
  intro d
  induction d with
  | zero => exact Int.le_refl _
  | succ d ih =>
    show zNc com a ≤ zNc com (a + d) + (if com (a + d) = -9 then 0 else 1)
    split <;> omega
theorem z_ncL {com : Nat → Int} {a b : Nat} (h : com a ≠ -9) (hb : a < b) : zNc com a + 1 ≤ zNc com b := by
  have w := z_ncM (com := com) (a := a + 1) (b - (a + 1))
  rw [show a + 1 + (b - (a + 1)) = b by omega] at w
  have u : zNc com (a + 1) = zNc com a + 1 := by
    show zNc com a + (if com a = -9 then 0 else 1) = zNc com a + 1
    rw [if_neg h]
  omega
theorem z_ncC {com com2 : Nat → Int} : ∀ k : Nat, (∀ q : Nat, q < k → com q = com2 q) → zNc com k = zNc com2 k := by
  intro k
  induction k with
  | zero => intro _; rfl
  | succ k ih =>
    intro h
    show zNc com k + (if com k = -9 then 0 else 1) = zNc com2 k + (if com2 k = -9 then 0 else 1)
    rw [ih (fun q hq => h q (by omega)), h k (by omega)]
def zPk (com : Nat → Int) (P k r : Int) : Prop := ∃ p : Nat, (p : Int) < P ∧ com p ≠ -9 ∧ r = com p ∧ zNc com p = k
theorem z_pkX {com : Nat → Int} {k : Int} (k0 : 0 ≤ k) : ∀ n : Nat, k < zNc com n → ∃ p : Nat, p < n ∧ com p ≠ -9 ∧ zNc com p = k := by
  intro n
  induction n with
  | zero => intro h; exact absurd h (by show ¬ k < 0; omega)
  | succ n ih =>
    intro h
    have h : k < zNc com n + (if com n = -9 then 0 else 1) := h
    by_cases c : k < zNc com n
    · obtain ⟨p, p1, p2, p3⟩ := ih c
      exact ⟨p, by omega, p2, p3⟩
    · by_cases d : com n = -9
      · rw [if_pos d] at h
        omega
      · rw [if_neg d] at h
        exact ⟨n, by omega, d, by omega⟩
theorem z_pkC {com com2 : Nat → Int} {P k r : Int} (h : zPk com P k r) (e : ∀ q : Nat, (q : Int) < P → com q = com2 q) : zPk com2 P k r := by
  obtain ⟨p, a1, a2, a3, a4⟩ := h
  exact ⟨p, a1, by rw [← e p a1]; exact a2, by rw [← e p a1]; exact a3, by rw [← z_ncC p (fun q hq => e q (by omega))]; exact a4⟩
theorem z_pkU {com : Nat → Int} {P k r r2 : Int} (h : zPk com P k r) (h2 : zPk com P k r2) : r = r2 := by
  obtain ⟨p, a1, a2, a3, a4⟩ := h
  obtain ⟨q, b1, b2, b3, b4⟩ := h2
  rcases Nat.lt_trichotomy p q with c | c | c
  · have := z_ncL a2 c
    omega
  · rw [a3, b3, c]
  · have := z_ncL b2 c
    omega
def zSd (z : Int32) : Int32 := z * 1103515245 + 12345
def zRm (x n : Int32) : Int32 := x - x / n * n
def zDrw (z : Int32) (c : Int) : Int := (zRm ((z &&& 2147483647) / 65536) (zIo c)).toInt
theorem z_drwE {z i d r n : Int32} (ei : i = z &&& 2147483647) (ed : d = i / 65536) (er : r = d - d / n * n) : r.toInt = zDrw z n.toInt := by
  unfold zDrw zRm
  rw [← z_io (x := n) rfl, er, ed, ei]
theorem z_drwR {z : Int32} {c : Int} (c1 : 1 ≤ c) (c2 : c ≤ 200) : 0 ≤ zDrw z c ∧ zDrw z c < c := by
  unfold zDrw zRm
  have e := z_ioT (v := c) (by omega) c2
  have w := z_remp (x := (z &&& 2147483647) / 65536) (y := zIo c) (z_divp (z_and31 z)).1 (by omega)
  omega
/-- who is drawn -/
def zLc (P : Int) (com : Nat → Int) (z : Int32) (r : Int) (z2 : Int32) : Prop := (zNc com P.toNat = 0 ∧ r = -9 ∧ z2 = z) ∨ (zNc com P.toNat = 1 ∧ z2 = z ∧ zPk com P 0 r) ∨ (2 ≤ zNc com P.toNat ∧ z2 = zSd z ∧ zPk com P (zDrw z2 (zNc com P.toNat)) r)
theorem z_lcC {P : Int} {com com2 : Nat → Int} {z z2 : Int32} {r : Int} (h : zLc P com z r z2) (e : ∀ q : Nat, (q : Int) < P → com q = com2 q) : zLc P com2 z r z2 := by
  have ec : zNc com P.toNat = zNc com2 P.toNat := z_ncC _ (fun q hq => e q (by omega))
  rcases h with ⟨a, b, c⟩ | ⟨a, b, c⟩ | ⟨a, b, c⟩
  · exact Or.inl ⟨by rw [← ec]; exact a, b, c⟩
  · exact Or.inr (Or.inl ⟨by rw [← ec]; exact a, b, z_pkC c e⟩)
  · exact Or.inr (Or.inr ⟨by rw [← ec]; exact a, b, by rw [← ec]; exact z_pkC c e⟩)
theorem z_lcU {P : Int} {com : Nat → Int} {z z2 z3 : Int32} {r r2 : Int} (h : zLc P com z r z2) (h2 : zLc P com z r2 z3) : r = r2 ∧ z2 = z3 := by
  rcases h with ⟨a, b, c⟩ | ⟨a, b, c⟩ | ⟨a, b, c⟩ <;> rcases h2 with ⟨d, e, f⟩ | ⟨d, e, f⟩ | ⟨d, e, f⟩ <;> try (exfalso; omega)
  · exact ⟨by omega, by rw [c, f]⟩
  · exact ⟨z_pkU c f, by rw [b, e]⟩
  · rw [b] at c
    rw [e] at f
    exact ⟨z_pkU c f, by rw [b, e]⟩
theorem z_lcX {P : Int} (P5 : P ≤ 5) (com : Nat → Int) (z : Int32) : ∃ (r : Int) (z2 : Int32), zLc P com z r z2 := by
  have w := z_ncP (com := com) P.toNat
  rcases (show zNc com P.toNat = 0 ∨ zNc com P.toNat = 1 ∨ 2 ≤ zNc com P.toNat by omega) with c | c | c
  · exact ⟨-9, z, Or.inl ⟨c, rfl, rfl⟩⟩
  · obtain ⟨p, p1, p2, p3⟩ := z_pkX (com := com) (k := 0) (by omega) P.toNat (by omega)
    exact ⟨com p, z, Or.inr (Or.inl ⟨c, rfl, p, by omega, p2, rfl, p3⟩)⟩
  · obtain ⟨q0, q1⟩ := z_drwR (z := zSd z) (c := zNc com P.toNat) (by omega) (by omega)
    obtain ⟨p, p1, p2, p3⟩ := z_pkX (com := com) (k := zDrw (zSd z) (zNc com P.toNat)) q0 P.toNat q1
    exact ⟨com p, zSd z, Or.inr (Or.inr ⟨c, rfl, p, by omega, p2, rfl, p3⟩)⟩
theorem z_lcR {P L : Int} {com : Nat → Int} {z z2 : Int32} {r : Int} (h : zLc P com z r z2) (hc : ∀ q : Nat, (q : Int) < P → com q = -9 ∨ (0 ≤ com q ∧ com q < L)) : r = -9 ∨ (0 ≤ r ∧ r < L) := by
  rcases h with ⟨-, b, -⟩ | ⟨-, -, p, p1, -, p3, -⟩ | ⟨-, -, p, p1, -, p3, -⟩
  · exact Or.inl b
  · rw [p3]
    exact hc p p1
  · rw [p3]
    exact hc p p1
noncomputable def zLu (P : Int) (com : Int32 → Int32 → Int32 → Nat → Int) (sd dd la z : Int32) : Int × Int32 := Classical.epsilon (fun r => zLc P (com sd dd la) z r.1 r.2)
theorem z_luE {P r : Int} {com : Int32 → Int32 → Int32 → Nat → Int} {sd dd la z z2 : Int32} (h : zLc P (com sd dd la) z r z2) : (r, z2) = zLu P com sd dd la z := by
  have w := Classical.epsilon_spec (p := fun r : Int × Int32 => zLc P (com sd dd la) z r.1 r.2) ⟨(r, z2), h⟩
  have u := z_lcU h w
  exact Prod.ext u.1 u.2
theorem z_luS {P : Int} (P5 : P ≤ 5) {com : Int32 → Int32 → Int32 → Nat → Int} {sd dd la z : Int32} : zLc P (com sd dd la) z (zLu P com sd dd la z).1 (zLu P com sd dd la z).2 := by
  obtain ⟨r, z2, h⟩ := z_lcX P5 (com sd dd la) z
  exact Classical.epsilon_spec (p := fun r : Int × Int32 => zLc P (com sd dd la) z r.1 r.2) ⟨(r, z2), h⟩
theorem z_luC {P : Int} (P5 : P ≤ 5) {com com2 : Int32 → Int32 → Int32 → Nat → Int} {sd dd la z : Int32} (e : ∀ q : Nat, (q : Int) < P → com sd dd la q = com2 sd dd la q) : zLu P com sd dd la z = zLu P com2 sd dd la z := z_luE (com := com2) (z_lcC (z_luS P5 (com := com)) e)
/-- a night by lot -/
def zLN (F : Int32 → Int32 → Int32 → Int32 → Int × Int32) (k : Nat) (s : (Int32 × Int32 × Int32) × Int32) : Int × Int32 := if k = 0 then (0, s.2) else F s.1.1 s.1.2.1 s.1.2.2 s.2
def zLsq (F : Int32 → Int32 → Int32 → Int32 → Int × Int32) (kl : Nat → Bool) (on : Nat → Int32) (z : Int32) : Nat → (Int32 × Int32 × Int32) × Int32
  | 0 => ((0, 0, -9), z)
  | k + 1 => (zSy kl on (zLsq F kl on z k).1 (zLN F k (zLsq F kl on z k)).1, (zLN F k (zLsq F kl on z k)).2)
def zLl (F : Int32 → Int32 → Int32 → Int32 → Int × Int32) (kl : Nat → Bool) (on : Nat → Int32) (z : Int32) (k : Nat) : Int := (zLN F k (zLsq F kl on z k)).1
def zLI (F : Int32 → Int32 → Int32 → Int32 → Int × Int32) (kl : Nat → Bool) (on : Nat → Int32) (z : Int32) (k : Int) (sd dd la : Int32) : Prop := (sd, dd, la) = (zLsq F kl on z k.toNat).1 ∧ ∀ q : Nat, (q : Int) < k → zLl F kl on z q ≠ -9
theorem z_lI0 {F : Int32 → Int32 → Int32 → Int32 → Int × Int32} {kl : Nat → Bool} {on : Nat → Int32} {z : Int32} {k : Int} (hk : k = 0) : zLI F kl on z k 0 0 (-9) := by
  subst hk
  exact ⟨rfl, fun q hq => by omega⟩
theorem z_lIS {F : Int32 → Int32 → Int32 → Int32 → Int × Int32} {kl : Nat → Bool} {on : Nat → Int32} {z : Int32} {k k2 : Int} {sd dd la ti r sd2 dd2 la2 ti2 : Int32} (h : zLI F kl on z k sd dd la) (k0 : 0 ≤ k) (hk : k2 = k + 1) (hr : r.toInt = zLl F kl on z k.toNat) (r9 : r.toInt ≠ -9) (hs : zSpk (kl r.toInt.toNat = true) (on r.toNatClampNeg) sd dd ti r sd2 dd2 la2 ti2) : zLI F kl on z k2 sd2 dd2 la2 := by
  obtain ⟨h1, h2⟩ := h
  obtain ⟨q1, q2, q3, q4⟩ := hs
  have e2 : k2.toNat = k.toNat + 1 := by omega
  refine ⟨?_, fun q hq => ?_⟩
  · rw [e2]
    show _ = zSy kl on (zLsq F kl on z k.toNat).1 (zLl F kl on z k.toNat)
    rw [← h1, ← hr]
    unfold zSy
    rw [if_neg r9, ← z_io (x := r) rfl]
    rcases q4 with ⟨a, b⟩ | ⟨a, b⟩
    · rw [if_pos a, q1, q2, b]
      try rfl
    · rw [if_neg a, q1, q2, b]
      try rfl
  · by_cases c : (q : Int) < k
    · exact h2 q c
    · rw [show q = k.toNat by omega, ← hr]
      exact r9
def zLE (F : Int32 → Int32 → Int32 → Int32 → Int × Int32) (kl : Nat → Bool) (on : Nat → Int32) (z : Int32) (n : Int) (z2 : Int32) : Prop := 0 ≤ n ∧ n ≤ 60 ∧ (∀ q : Nat, (q : Int) < n → zLl F kl on z q ≠ -9) ∧ ((n = 60 ∧ z2 = (zLsq F kl on z 60).2) ∨ (n < 60 ∧ zLl F kl on z n.toNat = -9 ∧ z2 = (zLsq F kl on z (n.toNat + 1)).2))
theorem z_lEU {F : Int32 → Int32 → Int32 → Int32 → Int × Int32} {kl : Nat → Bool} {on : Nat → Int32} {z z2 z3 : Int32} {n m : Int} (h : zLE F kl on z n z2) (h2 : zLE F kl on z m z3) : n = m ∧ z2 = z3 := by
  obtain ⟨a1, a2, a3, a4⟩ := h
  obtain ⟨b1, b2, b3, b4⟩ := h2
  have e : n = m := by
    rcases Int.lt_trichotomy n m with c | c | c
    · rcases a4 with ⟨a4, -⟩ | ⟨-, a4, -⟩
      · omega
      · exact absurd a4 (b3 n.toNat (by omega))
    · exact c
    · rcases b4 with ⟨b4, -⟩ | ⟨-, b4, -⟩
      · omega
      · exact absurd b4 (a3 m.toNat (by omega))
  subst e
  refine ⟨rfl, ?_⟩
  rcases a4 with ⟨a4, a5⟩ | ⟨a4, -, a5⟩ <;> rcases b4 with ⟨b4, b5⟩ | ⟨b4, -, b5⟩ <;> try (exfalso; omega)
  · rw [a5, b5]
  · rw [a5, b5]
theorem z_lsCq {F F2 : Int32 → Int32 → Int32 → Int32 → Int × Int32} {kl kl2 : Nat → Bool} {on on2 : Nat → Int32} {L : Int} (L0 : 0 < L) (L12 : L ≤ 12) (hF : ∀ sd dd la z : Int32, 0 ≤ la.toInt → la.toInt < L → F sd dd la z = F2 sd dd la z ∧ ((F sd dd la z).1 = -9 ∨ (0 ≤ (F sd dd la z).1 ∧ (F sd dd la z).1 < L))) (hk : ∀ l : Nat, (l : Int) < L → kl l = kl2 l) (ho : ∀ l : Nat, (l : Int) < L → on l = on2 l) (z : Int32) : ∀ k : Nat, zLsq F kl on z k = zLsq F2 kl2 on2 z k ∧ (0 < k → 0 ≤ (zLsq F kl on z k).1.2.2.toInt ∧ (zLsq F kl on z k).1.2.2.toInt < L) := by
  intro k
  induction k with
  | zero => exact ⟨rfl, fun h => absurd h (by decide)⟩
  | succ k ih =>
    obtain ⟨i1, i2⟩ := ih
    have key : zLN F k (zLsq F kl on z k) = zLN F2 k (zLsq F2 kl2 on2 z k) ∧ ((zLN F k (zLsq F kl on z k)).1 = -9 ∨ (0 ≤ (zLN F k (zLsq F kl on z k)).1 ∧ (zLN F k (zLsq F kl on z k)).1 < L)) ∧ ((zLN F k (zLsq F kl on z k)).1 = -9 → 0 < k) := by
      unfold zLN
      by_cases c : k = 0
      · rw [if_pos c, if_pos c, ← i1]
        exact ⟨rfl, Or.inr ⟨Int.le_refl 0, L0⟩, fun h => absurd (show (0 : Int) = -9 from h) (by decide)⟩
      · rw [if_neg c, if_neg c, ← i1]
        have w := hF (zLsq F kl on z k).1.1 (zLsq F kl on z k).1.2.1 (zLsq F kl on z k).1.2.2 (zLsq F kl on z k).2 (i2 (by omega)).1 (i2 (by omega)).2
        exact ⟨w.1, w.2, fun _ => by omega⟩
    obtain ⟨k1, k2, k3⟩ := key
    show (zSy kl on (zLsq F kl on z k).1 (zLN F k (zLsq F kl on z k)).1, (zLN F k (zLsq F kl on z k)).2) = (zSy kl2 on2 (zLsq F2 kl2 on2 z k).1 (zLN F2 k (zLsq F2 kl2 on2 z k)).1, (zLN F2 k (zLsq F2 kl2 on2 z k)).2) ∧ (0 < k + 1 → 0 ≤ (zSy kl on (zLsq F kl on z k).1 (zLN F k (zLsq F kl on z k)).1).2.2.toInt ∧ (zSy kl on (zLsq F kl on z k).1 (zLN F k (zLsq F kl on z k)).1).2.2.toInt < L)
    rw [← k1, ← i1]
    generalize zLN F k (zLsq F kl on z k) = l at k2 k3
    unfold zSy
    by_cases c : l.1 = -9
    · rw [if_pos c, if_pos c]
      exact ⟨rfl, fun _ => i2 (k3 c)⟩
    · rw [if_neg c, if_neg c]
      have lr : 0 ≤ l.1 ∧ l.1 < L := by
        rcases k2 with k2 | k2
        · exact absurd k2 c
        · exact k2
      rw [hk l.1.toNat (by omega), ho l.1.toNat (by omega)]
      refine ⟨rfl, fun _ => ?_⟩
      show 0 ≤ (zIo l.1).toInt ∧ (zIo l.1).toInt < L
      rw [z_ioT lr.1 (by omega)]
      exact lr
theorem z_lEC {F F2 : Int32 → Int32 → Int32 → Int32 → Int × Int32} {kl kl2 : Nat → Bool} {on on2 : Nat → Int32} {L n : Int} {z z2 : Int32} (h : zLE F kl on z n z2) (L0 : 0 < L) (L12 : L ≤ 12) (hF : ∀ sd dd la z : Int32, 0 ≤ la.toInt → la.toInt < L → F sd dd la z = F2 sd dd la z ∧ ((F sd dd la z).1 = -9 ∨ (0 ≤ (F sd dd la z).1 ∧ (F sd dd la z).1 < L))) (hk : ∀ l : Nat, (l : Int) < L → kl l = kl2 l) (ho : ∀ l : Nat, (l : Int) < L → on l = on2 l) : zLE F2 kl2 on2 z n z2 := by
  have es := fun k => z_lsCq L0 L12 hF hk ho z k
  have el : ∀ k : Nat, zLl F kl on z k = zLl F2 kl2 on2 z k := fun k => by
    unfold zLl zLN
    by_cases c : k = 0
    · rw [if_pos c, if_pos c]
    · rw [if_neg c, if_neg c, ← (es k).1, (hF _ _ _ _ ((es k).2 (by omega)).1 ((es k).2 (by omega)).2).1]
  obtain ⟨a1, a2, a3, a4⟩ := h
  refine ⟨a1, a2, fun q hq => by rw [← el q]; exact a3 q hq, ?_⟩
  rw [← (es 60).1, ← el n.toNat, ← (es (n.toNat + 1)).1]
  exact a4
/-- the sum of nights -/
def zLqq (E : Int32 → Int → Int32 → Prop) (z : Int32) : Nat → Int → Int32 → Prop
  | 0 => fun a z2 => a = 0 ∧ z2 = z
  | k + 1 => fun a z2 => ∃ (a1 n : Int) (z1 : Int32), zLqq E z k a1 z1 ∧ E z1 n z2 ∧ a = a1 + n
theorem z_lqU {E E2 : Int32 → Int → Int32 → Prop} {z : Int32} (hE : ∀ (z : Int32) (n m : Int) (z2 z3 : Int32), E z n z2 → E2 z m z3 → n = m ∧ z2 = z3) : ∀ (k : Nat) (a a2 : Int) (z2 z3 : Int32), zLqq E z k a z2 → zLqq E2 z k a2 z3 → a = a2 ∧ z2 = z3 := by
  intro k
  induction k with
  | zero =>
    intro a a2 z2 z3 h h2
    have h : a = 0 ∧ z2 = z := h
    have h2 : a2 = 0 ∧ z3 = z := h2
    exact ⟨by rw [h.1, h2.1], by rw [h.2, h2.2]⟩
  | succ k ih =>
    intro a a2 z2 z3 h h2
    obtain ⟨b1, n, z1, c1, c2, c3⟩ := h
    obtain ⟨b2, m, y1, d1, d2, d3⟩ := h2
    obtain ⟨e1, e2⟩ := ih _ _ _ _ c1 d1
    subst e2
    obtain ⟨f1, f2⟩ := hE _ _ _ _ _ c2 d2
    exact ⟨by omega, f2⟩
/-- the class: who is drawn -/
def zDlI (P L : Int) (G : Nat → ZQ) (ow af : Nat → Int32) (sd dd la : Int32) (k : Nat) (c : Int) : Prop := ∀ (sp kd fg wh : Nat → Int32) (C : Nat → Prop), zNlH P L G sp ow af la kd fg wh C → c = zNc (zCq L kd wh C sd dd (-9 : Int32).toInt) k
theorem z_dlI0 {P L : Int} {G : Nat → ZQ} {ow af : Nat → Int32} {sd dd la k : Int32} {c : Int} (hk : k.toInt = 0) (hc : c = 0) : zDlI P L G ow af sd dd la k.toInt.toNat c := fun _ _ _ _ _ _ => z_nc0 hk hc
theorem z_dlW {P L : Int} {G : Nat → ZQ} {sp ow af kd fg wh : Nat → Int32} {C : Nat → Prop} {sd dd la p : Int32} {r : Int} (H : zNlH P L G sp ow af la kd fg wh C) (p0 : 0 ≤ p.toInt) (pP : p.toInt < P) (hw : zCmC P L G ow af sd dd la p r) : r = zCq L kd wh C sd dd (-9 : Int32).toInt p.toInt.toNat := z_cqE H p0 pP (Or.inr ⟨by have e : (-9 : Int32).toInt = -9 := (by decide); omega, hw⟩)
theorem z_dlS {P L : Int} {G : Nat → ZQ} {ow af : Nat → Int32} {sd dd la p p2 : Int32} {c c2 r : Int} (h : zDlI P L G ow af sd dd la p.toInt.toNat c) (p0 : 0 ≤ p.toInt) (pP : p.toInt < P) (hp : p2.toInt = p.toInt + 1) (hw : zCmC P L G ow af sd dd la p r) (s : (r ≠ -9 ∧ c2 = c + 1) ∨ (r = -9 ∧ c2 = c)) : zDlI P L G ow af sd dd la p2.toInt.toNat c2 := fun sp kd fg wh C H => z_ncS (h sp kd fg wh C H) p0 hp (z_dlW H p0 pP hw) s
theorem z_dlE {P L : Int} {G : Nat → ZQ} {ow af : Nat → Int32} {sd dd la : Int32} {k k2 : Nat} {c : Int} (h : zDlI P L G ow af sd dd la k c) (e : k = k2) : zDlI P L G ow af sd dd la k2 c := e ▸ h
def zDlJ (P L : Int) (G : Nat → ZQ) (ow af : Nat → Int32) (sd dd la : Int32) (k : Nat) (c D : Int) : Prop := ∀ (sp kd fg wh : Nat → Int32) (C : Nat → Prop), zNlH P L G sp ow af la kd fg wh C → D - c = zNc (zCq L kd wh C sd dd (-9 : Int32).toInt) k
theorem z_dlJ0 {P L : Int} {G : Nat → ZQ} {ow af : Nat → Int32} {sd dd la k : Int32} {c : Int} (hk : k.toInt = 0) : zDlJ P L G ow af sd dd la k.toInt.toNat c c := fun _ _ _ _ _ _ => z_nc0 hk (by omega)
theorem z_dlJS {P L : Int} {G : Nat → ZQ} {ow af : Nat → Int32} {sd dd la p p2 : Int32} {c c2 D r : Int} (h : zDlJ P L G ow af sd dd la p.toInt.toNat c D) (p0 : 0 ≤ p.toInt) (pP : p.toInt < P) (hp : p2.toInt = p.toInt + 1) (hw : zCmC P L G ow af sd dd la p r) (s : (r ≠ -9 ∧ c2 = c - 1) ∨ (r = -9 ∧ c2 = c)) : zDlJ P L G ow af sd dd la p2.toInt.toNat c2 D := fun sp kd fg wh C H => z_ncS (h sp kd fg wh C H) p0 hp (z_dlW H p0 pP hw) (by omega)
def zDlC (P L : Int) (G : Nat → ZQ) (ow af : Nat → Int32) (sd dd la z : Int32) (r : Int) (z2 : Int32) : Prop := ∀ (sp kd fg wh : Nat → Int32) (C : Nat → Prop), zNlH P L G sp ow af la kd fg wh C → zLc P (zCq L kd wh C sd dd (-9 : Int32).toInt) z r z2
def zDlD (z z2 : Int32) (c D : Int) : Prop := (c < 2 ∧ D = 0 ∧ z2 = z) ∨ (2 ≤ c ∧ 0 ≤ D ∧ D < c ∧ z2 = zSd z ∧ D = zDrw z2 c)
theorem z_dlT {P L : Int} {G : Nat → ZQ} {ow af : Nat → Int32} {sd dd la p z z2 : Int32} {c l D r : Int} (h1 : zDlI P L G ow af sd dd la P.toNat c) (hJ : zDlJ P L G ow af sd dd la p.toInt.toNat l D) (p0 : 0 ≤ p.toInt) (pP : p.toInt < P) (hw : zCmC P L G ow af sd dd la p r) (w9 : r ≠ -9) (l0 : l = 0) (s : zDlD z z2 c D) : zDlC P L G ow af sd dd la z r z2 := fun sp kd fg wh C H => by
  have e1 := h1 sp kd fg wh C H
  have e2 := hJ sp kd fg wh C H
  have e3 := z_dlW H p0 pP hw
  have e4 := z_ncL (com := zCq L kd wh C sd dd (-9 : Int32).toInt) (a := p.toInt.toNat) (b := P.toNat) (by rw [← e3]; exact w9) (by omega)
  have e5 := z_ncP (com := zCq L kd wh C sd dd (-9 : Int32).toInt) p.toInt.toNat
  have pk : zPk (zCq L kd wh C sd dd (-9 : Int32).toInt) P D r := ⟨p.toInt.toNat, by omega, by rw [← e3]; exact w9, e3, by omega⟩
  rcases s with ⟨a, b, d⟩ | ⟨a, b, b2, d, f⟩
  · exact Or.inr (Or.inl ⟨by omega, d, by rw [b] at pk; exact pk⟩)
  · refine Or.inr (Or.inr ⟨by omega, d, ?_⟩)
    rw [← e1, ← f]
    exact pk
theorem z_dlN {P L : Int} {G : Nat → ZQ} {ow af : Nat → Int32} {sd dd la p z z2 : Int32} {c l D r : Int} (h1 : zDlI P L G ow af sd dd la P.toNat c) (hJ : zDlJ P L G ow af sd dd la p.toInt.toNat l D) (pP : p.toInt = P) (l0 : 0 ≤ l) (hr : r = -9) (s : zDlD z z2 c D) : zDlC P L G ow af sd dd la z r z2 := fun sp kd fg wh C H => by
  have e1 := h1 sp kd fg wh C H
  have e2 := hJ sp kd fg wh C H
  rw [pP] at e2
  have e5 := z_ncP (com := zCq L kd wh C sd dd (-9 : Int32).toInt) P.toNat
  rcases s with ⟨a, b, d⟩ | ⟨a, b, b2, d, f⟩
  · exact Or.inl ⟨by omega, hr, d⟩
  · exfalso
    omega
/-- the class: a night by lot -/
noncomputable def zFl (P L : Int) (kd wh : Nat → Int32) (C : Nat → Nat → Prop) : Int32 → Int32 → Int32 → Int32 → Int × Int32 := zLu P (zCc L kd wh C (-9 : Int32).toInt)
def zGlI (P L : Int) (G : Nat → ZQ) (ow af on : Nat → Int32) (ki z : Int32) (k : Int) (sd dd la ti z2 : Int32) : Prop := ∀ (sp kd fg wh : Nat → Int32) (C : Nat → Nat → Prop), zGoH P L G sp ow af on kd fg wh C → ti.toInt = k ∧ zLI (zFl P L kd wh C) (fun l => bt ki l) on z k sd dd la ∧ z2 = (zLsq (zFl P L kd wh C) (fun l => bt ki l) on z k.toNat).2 ∧ (0 < k → 0 ≤ la.toInt ∧ la.toInt < L)
theorem z_glI0 {P L : Int} {G : Nat → ZQ} {ow af on : Nat → Int32} {ki z : Int32} {k : Int} (hk : k = 0) : zGlI P L G ow af on ki z k 0 0 (-9) 0 z := fun sp kd fg wh C H => ⟨by rw [hk]; decide, z_lI0 hk, by rw [hk]; rfl, fun h => by omega⟩
theorem z_glN {P L k r : Int} {G : Nat → ZQ} {sp ow af on kd fg wh : Nat → Int32} {C : Nat → Nat → Prop} {ki z sd dd la z2 z3 : Int32} (H : zGoH P L G sp ow af on kd fg wh C) (hI : zLI (zFl P L kd wh C) (fun l => bt ki l) on z k sd dd la) (hz : z2 = (zLsq (zFl P L kd wh C) (fun l => bt ki l) on z k.toNat).2) (k0 : 0 ≤ k) (hl : 0 < k → 0 ≤ la.toInt ∧ la.toInt < L) (s : (k = 0 ∧ r = 0 ∧ z3 = z2) ∨ (k ≠ 0 ∧ zDlC P L G ow af sd dd la z2 r z3)) : (r, z3) = zLN (zFl P L kd wh C) k.toNat (zLsq (zFl P L kd wh C) (fun l => bt ki l) on z k.toNat) ∧ (r = -9 ∨ (0 ≤ r ∧ r < L)) := by
  obtain ⟨⟨L0, L12⟩, hK, hA, hq, ho, hC⟩ := H
  unfold zLN
  rcases s with ⟨s1, s2, s3⟩ | ⟨s1, s2⟩
  · rw [if_pos (by omega), s2, s3, hz]
    exact ⟨rfl, Or.inr ⟨Int.le_refl 0, L0⟩⟩
  · obtain ⟨la0, laL⟩ := hl (by omega)
    have hla := z_cl la0
    have b := s2 sp kd fg wh (C la.toNatClampNeg) ⟨⟨la0, laL⟩, hK, hA, hq, fun j hj => hC la.toNatClampNeg (by omega) j hj⟩
    refine ⟨?_, z_lcR b (fun q hq2 => z_cqR (hK q hq2).2.2.2.1.1 (hK q hq2).2.2.2.1.2 L12)⟩
    rw [if_neg (by omega), ← hI.1, ← hz]
    exact z_luE (com := zCc L kd wh C (-9 : Int32).toInt) b
theorem z_glS {P L k k2 : Int} {G : Nat → ZQ} {ow af on : Nat → Int32} {ki z sd dd la ti r sd2 dd2 la2 ti2 z2 z3 : Int32} (h : zGlI P L G ow af on ki z k sd dd la ti z2) (k0 : 0 ≤ k) (k1 : k < 1000) (hk : k2 = k + 1) (s : (k = 0 ∧ r.toInt = 0 ∧ z3 = z2) ∨ (k ≠ 0 ∧ zDlC P L G ow af sd dd la z2 r.toInt z3)) (r9 : r.toInt ≠ -9) (hs : 0 ≤ r.toInt → r.toInt < L → 0 ≤ (on r.toNatClampNeg).toInt → (on r.toNatClampNeg).toInt < 5 → zSpk (bt ki r.toInt.toNat = true) (on r.toNatClampNeg) sd dd ti r sd2 dd2 la2 ti2) : zGlI P L G ow af on ki z k2 sd2 dd2 la2 ti2 z3 := fun sp kd fg wh C H => by
  obtain ⟨h1, h2, h3, h4⟩ := h sp kd fg wh C H
  obtain ⟨e, q⟩ := z_glN H h2 h3 k0 h4 s
  have q : 0 ≤ r.toInt ∧ r.toInt < L := by
    rcases q with q | q
    · exact absurd q r9
    · exact q
  have hr := z_cl q.1
  have o := H.2.2.2.2.1 r.toNatClampNeg (by omega)
  have w := hs q.1 q.2 o.1 o.2
  refine ⟨?_, z_lIS h2 k0 hk (congrArg Prod.fst e) r9 w, ?_, fun _ => by rw [w.2.1]; exact q⟩
  · rw [w.2.2.1, z_add rfl (show (1 : Int32).toInt = 1 by decide) (by omega) (by omega)]
    omega
  · rw [show k2.toNat = k.toNat + 1 by omega]
    exact congrArg Prod.snd e
def zGlC (P L : Int) (G : Nat → ZQ) (ow af on : Nat → Int32) (ki z r z2 : Int32) : Prop := ∀ (sp kd fg wh : Nat → Int32) (C : Nat → Nat → Prop), zGoH P L G sp ow af on kd fg wh C → zLE (zFl P L kd wh C) (fun l => bt ki l) on z r.toInt z2
theorem z_glX {P L k : Int} {G : Nat → ZQ} {ow af on : Nat → Int32} {ki z sd dd la ti r z2 z3 : Int32} (h : zGlI P L G ow af on ki z k sd dd la ti z2) (k0 : 0 ≤ k) (k6 : k < 60) (s : (k = 0 ∧ r.toInt = 0 ∧ z3 = z2) ∨ (k ≠ 0 ∧ zDlC P L G ow af sd dd la z2 r.toInt z3)) (r9 : r.toInt = -9) : zGlC P L G ow af on ki z ti z3 := fun sp kd fg wh C H => by
  obtain ⟨h1, h2, h3, h4⟩ := h sp kd fg wh C H
  obtain ⟨e, -⟩ := z_glN H h2 h3 k0 h4 s
  rw [h1]
  refine ⟨k0, by omega, h2.2, Or.inr ⟨k6, ?_, congrArg Prod.snd e⟩⟩
  have w : r.toInt = zLl (zFl P L kd wh C) (fun l => bt ki l) on z k.toNat := congrArg Prod.fst e
  rw [← w]
  exact r9
theorem z_glE {P L k : Int} {G : Nat → ZQ} {ow af on : Nat → Int32} {ki z sd dd la ti z2 : Int32} (h : zGlI P L G ow af on ki z k sd dd la ti z2) (k6 : k = 60) : zGlC P L G ow af on ki z ti z2 := fun sp kd fg wh C H => by
  obtain ⟨h1, h2, h3, h4⟩ := h sp kd fg wh C H
  subst k6
  rw [h1]
  exact ⟨by omega, by omega, h2.2, Or.inl ⟨rfl, h3⟩⟩
def zLoI (P L : Int) (G : Nat → ZQ) (ow af on : Nat → Int32) (ki z : Int32) (k : Int) (a z2 : Int32) : Prop := ∀ (sp kd fg wh : Nat → Int32) (C : Nat → Nat → Prop), zGoH P L G sp ow af on kd fg wh C → zLqq (zLE (zFl P L kd wh C) (fun l => bt ki l) on) z k.toNat a.toInt z2 ∧ 0 ≤ a.toInt ∧ a.toInt ≤ 60 * k
theorem z_loI0 {P L : Int} {G : Nat → ZQ} {ow af on : Nat → Int32} {ki z : Int32} {k : Int} (hk : k = 0) : zLoI P L G ow af on ki z k 0 z := fun sp kd fg wh C H => by
  subst hk
  exact ⟨⟨by decide, rfl⟩, by decide, by decide⟩
theorem z_loS {P L k k2 : Int} {G : Nat → ZQ} {ow af on : Nat → Int32} {ki z a a2 r z2 z3 : Int32} (h : zLoI P L G ow af on ki z k a z2) (k0 : 0 ≤ k) (k20 : k ≤ 20) (hk : k2 = k + 1) (hn : zGlC P L G ow af on ki z2 r z3) (ea : a2 = a + r) : zLoI P L G ow af on ki z k2 a2 z3 := fun sp kd fg wh C H => by
  obtain ⟨h1, h2, h3⟩ := h sp kd fg wh C H
  have w := hn sp kd fg wh C H
  obtain ⟨w1, w2, -, -⟩ := id w
  have e : a2.toInt = a.toInt + r.toInt := by rw [ea]; exact z_add rfl rfl (by omega) (by omega)
  refine ⟨?_, by omega, by omega⟩
  rw [show k2.toNat = k.toNat + 1 by omega]
  exact ⟨_, _, _, h1, w, e⟩
def zLtC (P L : Int) (G : Nat → ZQ) (tx sz on cu ow : Nat → Int32) (ki p z r : Int32) : Prop := (p.toInt < 1 ∧ r.toInt = -4) ∨ (20 < p.toInt ∧ r.toInt = -6) ∨ (1 ≤ p.toInt ∧ p.toInt ≤ 20 ∧ L = 0 ∧ r.toInt = -3) ∨ (1 ≤ p.toInt ∧ p.toInt ≤ 20 ∧ 0 < L ∧ ∃ (af : Nat → Int32) (z2 : Int32), zWe P L G tx sz on cu 0 af L ∧ zLoI P L G ow af on ki z p.toInt r z2)
/-- the reference: nights by lot -/
noncomputable def zCw9 (L : Int) (wd mn : Nat → Int32) (jk jw : Int32) (kd fg wh cu : Nat → Int32) (sd dd la : Int32) : Nat → Int := zCz L kd wh (fun j => zIcR wd mn jk jw kd fg wh cu la.toInt (j : Int)) sd dd
noncomputable def zFm (P L : Int) (wd mn : Nat → Int32) (jk jw : Int32) (kd fg wh cu : Nat → Int32) : Int32 → Int32 → Int32 → Int32 → Int × Int32 := zLu P (zCw9 L wd mn jk jw kd fg wh cu)
theorem z_lmT {P : Int} {com : Nat → Int} {p z z2 : Int32} {c l D r : Int} (h1 : c = zNc com P.toNat) (hJ : D - l = zNc com p.toInt.toNat) (p0 : 0 ≤ p.toInt) (pP : p.toInt < P) (hw : r = com p.toInt.toNat) (w9 : r ≠ -9) (l0 : l = 0) (s : zDlD z z2 c D) : zLc P com z r z2 := by
  have e4 := z_ncL (com := com) (a := p.toInt.toNat) (b := P.toNat) (by rw [← hw]; exact w9) (by omega)
  have e5 := z_ncP (com := com) p.toInt.toNat
  have pk : zPk com P D r := ⟨p.toInt.toNat, by omega, by rw [← hw]; exact w9, hw, by omega⟩
  rcases s with ⟨a, b, d⟩ | ⟨a, b, b2, d, f⟩
  · exact Or.inr (Or.inl ⟨by omega, d, by rw [b] at pk; exact pk⟩)
  · refine Or.inr (Or.inr ⟨by omega, d, ?_⟩)
    rw [← h1, ← f]
    exact pk
def zLnI (P L : Int) (wd mn : Nat → Int32) (jk jw : Int32) (kd fg wh cu kl : Nat → Int32) (z0 : Int32) (k l : Int) (sd dd la z : Int32) : Prop := zLI (zFm P L wd mn jk jw kd fg wh cu) (zKb kl) wh z0 k sd dd la ∧ ((k < 60 ∧ (l, z) = zLN (zFm P L wd mn jk jw kd fg wh cu) k.toNat (zLsq (zFm P L wd mn jk jw kd fg wh cu) (zKb kl) wh z0 k.toNat)) ∨ (k = 60 ∧ l = -9 ∧ z = (zLsq (zFm P L wd mn jk jw kd fg wh cu) (zKb kl) wh z0 60).2)) ∧ (l = -9 ∨ 0 ≤ l)
theorem z_lnI0 {P L : Int} {wd mn : Nat → Int32} {jk jw : Int32} {kd fg wh cu kl : Nat → Int32} {z0 : Int32} {k l : Int} (hk : k = 0) (hl : l = 0) : zLnI P L wd mn jk jw kd fg wh cu kl z0 k l 0 0 (-9) z0 := by
  subst hk hl
  exact ⟨z_lI0 rfl, Or.inl ⟨by omega, rfl⟩, Or.inr (Int.le_refl 0)⟩
theorem z_lnS {P L k k2 r : Int} {wd mn : Nat → Int32} {jk jw : Int32} {kd fg wh cu kl : Nat → Int32} {z0 z1 z2 l sd dd la ti sd2 dd2 la2 ti2 : Int32} (h : zLnI P L wd mn jk jw kd fg wh cu kl z0 k l.toInt sd dd la z1) (l0 : 0 ≤ l.toInt) (k0 : 0 ≤ k) (k6 : k < 60) (hk : k2 = k + 1) (hs : zSpk ((kl l.toNatClampNeg).toInt = 1) (wh l.toNatClampNeg) sd dd ti l sd2 dd2 la2 ti2) (hn : (k2 < 60 ∧ zLc P (zCz L kd wh (fun j => zIcR wd mn jk jw kd fg wh cu la2.toInt (j : Int)) sd2 dd2) z1 r z2) ∨ (60 ≤ k2 ∧ r = -9 ∧ z2 = z1)) (hL : L ≤ 12) : zLnI P L wd mn jk jw kd fg wh cu kl z0 k2 r sd2 dd2 la2 z2 := by
  obtain ⟨h1, h2, -⟩ := h
  rcases h2 with ⟨-, h2⟩ | ⟨h2, -⟩
  · have e : (kl l.toNatClampNeg).toInt = 1 ↔ zKb kl l.toInt.toNat = true := by unfold zKb; exact ⟨fun q => decide_eq_true q, fun q => of_decide_eq_true q⟩
    have n2 := z_lIS h1 k0 hk (congrArg Prod.fst h2) (by omega) (z_spkP hs e)
    have ez : z1 = (zLsq (zFm P L wd mn jk jw kd fg wh cu) (zKb kl) wh z0 k2.toNat).2 := by
      rw [show k2.toNat = k.toNat + 1 by omega]
      exact congrArg Prod.snd h2
    refine ⟨n2, ?_, ?_⟩
    · rcases hn with ⟨a, b⟩ | ⟨a, b, c⟩
      · refine Or.inl ⟨a, ?_⟩
        unfold zLN
        rw [if_neg (by omega), ← n2.1, ← ez]
        exact z_luE (com := zCw9 L wd mn jk jw kd fg wh cu) b
      · refine Or.inr ⟨by omega, b, ?_⟩
        rw [c, ez, show k2.toNat = 60 by omega]
    · rcases hn with ⟨a, b⟩ | ⟨a, b, c⟩
      · have w := z_lcR b (fun q hq => z_czR hL)
        omega
      · exact Or.inl b
  · omega
theorem z_lnE {P L k l : Int} {wd mn : Nat → Int32} {jk jw : Int32} {kd fg wh cu kl : Nat → Int32} {z0 z1 sd dd la : Int32} (h : zLnI P L wd mn jk jw kd fg wh cu kl z0 k l sd dd la z1) (k0 : 0 ≤ k) (hx : l < 0 ∨ 60 ≤ k) : zLE (zFm P L wd mn jk jw kd fg wh cu) (zKb kl) wh z0 k z1 := by
  obtain ⟨h1, h2, h3⟩ := h
  rcases h2 with ⟨a, b⟩ | ⟨a, b, c⟩
  · refine ⟨k0, by omega, h1.2, Or.inr ⟨a, ?_, congrArg Prod.snd b⟩⟩
    have w : l = zLl (zFm P L wd mn jk jw kd fg wh cu) (zKb kl) wh z0 k.toNat := congrArg Prod.fst b
    omega
  · exact ⟨k0, by omega, h1.2, Or.inl ⟨a, c⟩⟩
def zLmI (P L : Int) (wd mn : Nat → Int32) (jk jw : Int32) (kd fg wh cu kl : Nat → Int32) (z : Int32) (k : Int) (a z2 : Int32) : Prop := zLqq (zLE (zFm P L wd mn jk jw kd fg wh cu) (zKb kl) wh) z k.toNat a.toInt z2 ∧ 0 ≤ a.toInt ∧ a.toInt ≤ 60 * k
theorem z_lmI0 {P L : Int} {wd mn : Nat → Int32} {jk jw : Int32} {kd fg wh cu kl : Nat → Int32} {z : Int32} {k : Int} (hk : k = 0) : zLmI P L wd mn jk jw kd fg wh cu kl z k 0 z := by
  subst hk
  exact ⟨⟨by decide, rfl⟩, by decide, by decide⟩
theorem z_lmS {P L k k2 l : Int} {wd mn : Nat → Int32} {jk jw : Int32} {kd fg wh cu kl : Nat → Int32} {z a a2 n z1 z2 sd dd la : Int32} (h : zLmI P L wd mn jk jw kd fg wh cu kl z k a z1) (k0 : 0 ≤ k) (k20 : k ≤ 20) (hk : k2 = k + 1) (hn : zLnI P L wd mn jk jw kd fg wh cu kl z1 n.toInt l sd dd la z2) (n0 : 0 ≤ n.toInt) (hx : l < 0 ∨ 60 ≤ n.toInt) (ea : a2 = a + n) : zLmI P L wd mn jk jw kd fg wh cu kl z k2 a2 z2 := by
  obtain ⟨h1, h2, h3⟩ := h
  have w := z_lnE hn n0 hx
  obtain ⟨w1, w2, -, -⟩ := id w
  have e : a2.toInt = a.toInt + n.toInt := by rw [ea]; exact z_add rfl rfl (by omega) (by omega)
  refine ⟨?_, by omega, by omega⟩
  rw [show k2.toNat = k.toNat + 1 by omega]
  exact ⟨_, _, _, h1, w, e⟩
theorem z_lmE {P L k k2 : Int} {wd mn : Nat → Int32} {jk jw : Int32} {kd fg wh cu kl : Nat → Int32} {z a z2 : Int32} (h : zLmI P L wd mn jk jw kd fg wh cu kl z k a z2) (e : k = k2) : zLmI P L wd mn jk jw kd fg wh cu kl z k2 a z2 := e ▸ h
theorem z_loE {P L : Int} {G : Nat → ZQ} {ow af on : Nat → Int32} {ki z : Int32} {k k2 : Int} {a z2 : Int32} (h : zLoI P L G ow af on ki z k a z2) (e : k = k2) : zLoI P L G ow af on ki z k2 a z2 := e ▸ h
def zLtM (P L : Int) (wd mn : Nat → Int32) (jk jw : Int32) (kd fg sp wh cu kl : Nat → Int32) (p z r : Int32) : Prop := (p.toInt < 1 ∧ r.toInt = -4) ∨ (20 < p.toInt ∧ r.toInt = -6) ∨ (1 ≤ p.toInt ∧ p.toInt ≤ 20 ∧ L = 0 ∧ r.toInt = -3) ∨ (1 ≤ p.toInt ∧ p.toInt ≤ 20 ∧ 0 < L ∧ ∃ z2 : Int32, zLmI P L wd mn jk jw kd fg wh cu kl z p.toInt r z2)
theorem z_ltF {P L ki jk jw : Int32} {G : Nat → ZQ} {sp cu ow on tx sz af a1 a2 a4 a5 a7 a8 : Nat → Int32} {i1 i2 i3 : Int} (hr : zRe P L ki sp cu ow on tx sz (zSt a1 a2 sp a4 a5 cu a7 a8 i1 i2 i3)) (hk : zKn P.toInt G a1 a2) (hL2 : L.toInt ≤ 12) (hP5 : P.toInt ≤ 5) (hj : jk.toInt = -9) (hwe : zWe P.toInt L.toInt G tx sz on cu 0 af L.toInt) (sd dd la z : Int32) (l0 : 0 ≤ la.toInt) (l1 : la.toInt < L.toInt) : zFl P.toInt L.toInt a1 a4 (fun la j => bt (af la) j = true) sd dd la z = zFm P.toInt L.toInt a8 a5 jk jw a1 a2 a4 cu sd dd la z ∧ ((zFl P.toInt L.toInt a1 a4 (fun la j => bt (af la) j = true) sd dd la z).1 = -9 ∨ (0 ≤ (zFl P.toInt L.toInt a1 a4 (fun la j => bt (af la) j = true) sd dd la z).1 ∧ (zFl P.toInt L.toInt a1 a4 (fun la j => bt (af la) j = true) sd dd la z).1 < L.toInt)) := by
  have H := z_pyRe hr hL2 hk
  have hw : ∀ l : Nat, (l : Int) < L.toInt → a4 l = on l := fun l hl => (hr.2.2.1 l (by omega)).2.1
  have e9 : (-9 : Int32).toInt = -9 := by decide
  have e0 : (0 : Int32).toInt = 0 := by decide
  have row := hwe (by decide) (by decide) a8 a5 a1 a2 H la.toNatClampNeg (by have := z_cl l0; omega)
  rw [e0] at row
  refine ⟨z_luC hP5 (fun q hq => ?_), z_lcR (z_luS hP5 (com := zCc L.toInt a1 a4 (fun la j => bt (af la) j = true) (-9 : Int32).toInt)) (fun q hq => z_cqR (hk q hq).2.2.2.1.1 (hk q hq).2.2.2.1.2 hL2)⟩
  show zCq L.toInt a1 a4 (fun j => bt (af la.toNatClampNeg) j = true) sd dd (-9 : Int32).toInt q = zCz L.toInt a1 a4 (fun j => zIcR a8 a5 jk jw a1 a2 a4 cu la.toInt (j : Int)) sd dd q
  rw [z_czQ (hk q hq).2.2.2.1.1 (hk q hq).2.2.2.1.2]
  unfold zCq
  rw [if_neg (by omega)]
  exact z_comC rfl (fun j hjL ho => z_cueE row H hw hj l0 (by omega) hjL)
theorem z_ltLaw {P L ki Q M jk jw p z r r2 : Int32} {G : Nat → ZQ} {sp cu ow on tx sz a1 a2 a3 a4 a5 a6 a7 a8 : Nat → Int32} {i1 i2 i3 : Int} (hC : zLtC P.toInt L.toInt G tx sz on cu ow ki p z r) (hM : zLtM Q.toInt M.toInt a8 a5 jk jw a1 a2 a3 a4 a6 a7 p z r2) (hr : zRe P L ki sp cu ow on tx sz (zSt a1 a2 a3 a4 a5 a6 a7 a8 i1 i2 i3)) (hk : zKn P.toInt G a1 a2) (hs : sp = a3) (hc : cu = a6) (hP : P.toInt = Q.toInt) (hL : L.toInt = M.toInt) (hL2 : L.toInt ≤ 12) (hP5 : P.toInt ≤ 5) (hP0 : 0 ≤ P.toInt) (hj : jk.toInt = -9) (hsr : zSrR P.toInt sp) : r.toInt = r2.toInt := by
  subst hs hc
  rw [← hP, ← hL] at hM
  rcases hC with ⟨a, b⟩ | ⟨a, b⟩ | ⟨a, a2, b, c⟩ | ⟨a, a2, b, af, z2, c, d⟩ <;> rcases hM with ⟨e, f⟩ | ⟨e, f⟩ | ⟨e, e2, f, g⟩ | ⟨e, e2, f, z3, g⟩ <;> try (exfalso; omega)
  · omega
  · omega
  · omega
  · obtain ⟨d1, -, -⟩ := d _ _ _ _ _ (z_goHr hr hk hL2 hP5 hsr b)
    refine (z_lqU (fun z n m y2 y3 h1 h2 => ?_) _ _ _ _ _ d1 g.1).1
    exact z_lEU (z_lEC h1 b hL2 (z_ltF hr hk hL2 hP5 hj c) (z_kbE hr hL2) (fun l hl => (hr.2.2.1 l (by omega)).2.1.symm)) h2

