/-! players of kinds -/
def zKd (c : Nat) : Int := if c = 0 then 1 else if c = 8 then 2 else if c = 1 then 3 else if c = 10 then 4 else if c = 3 then 5 else 0
theorem z_kdC {k : Int} {c : Nat} (h0 : 0 ≤ k) (h5 : k ≤ 5) (e : zCi k = c) : k = zKd c := by
  subst e
  rcases (show k = 0 ∨ k = 1 ∨ k = 2 ∨ k = 3 ∨ k = 4 ∨ k = 5 by omega) with rfl | rfl | rfl | rfl | rfl | rfl <;> rfl
def zKn (P : Int) (G : Nat → ZQ) (kd fg : Nat → Int32) : Prop := ∀ p : Nat, (p : Int) < P → (∃ y, (G p).1 = some y) ∧ (G p).2.1 = zCi (kd p).toInt ∧ (G p).2.2 = fg p ∧ (0 ≤ (kd p).toInt ∧ (kd p).toInt ≤ 5) ∧ (1 ≤ (fg p).toInt ∧ (fg p).toInt ≤ 9)
theorem z_knK {P : Int} {G : Nat → ZQ} {kd fg : Nat → Int32} {p : Int32} {c : Nat} (hK : zKn P G kd fg) (p0 : 0 ≤ p.toInt) (pP : p.toInt < P) (e : (G p.toNatClampNeg).2.1 = c) : (kd p.toNatClampNeg).toInt = zKd c := by
  obtain ⟨-, h2, -, h4, -⟩ := hK p.toNatClampNeg (by have := z_cl p0; omega)
  exact z_kdC h4.1 h4.2 (h2.symm.trans e)
theorem z_knF {P : Int} {G : Nat → ZQ} {kd fg : Nat → Int32} {p : Int32} (hK : zKn P G kd fg) (p0 : 0 ≤ p.toInt) (pP : p.toInt < P) : (G p.toNatClampNeg).2.2 = fg p.toNatClampNeg := (hK p.toNatClampNeg (by have := z_cl p0; omega)).2.2.1
theorem z_knN {P : Int} {G : Nat → ZQ} {kd fg : Nat → Int32} {p : Int32} (hK : zKn P G kd fg) (p0 : 0 ≤ p.toInt) (pP : p.toInt < P) (e : (G p.toNatClampNeg).1 = none) : False := by
  obtain ⟨⟨y, h⟩, -⟩ := hK p.toNatClampNeg (by have := z_cl p0; omega)
  rw [e] at h
  cases h
/-- what is known of one player -/
def zPr (P : Int) (G : Nat → ZQ) (p : Int) (b : Prop) (w : (Nat → Int32) → (Nat → Int32) → Prop) : Prop := ((p < 0 ∨ P ≤ p) ∧ b) ∨ (0 ≤ p ∧ p < P ∧ ∀ kd fg : Nat → Int32, zKn P G kd fg → w kd fg)
def zHs (kd sp : Nat → Int32) (p : Nat) : Int32 := if (kd p).toInt = 2 then 2 * sp p + 1 else sp p
theorem z_hsQ {kd sp : Nat → Int32} {p : Nat} {q r : Int32} (hk : (kd p).toInt = 2) (hr : r = 2 * q + 1) (hq : q = sp p) : r = zHs kd sp p := by
  unfold zHs
  rw [if_pos hk, hr, hq]
theorem z_hsN {kd sp : Nat → Int32} {p : Nat} {q r : Int32} {c : Int} (hk : (kd p).toInt = c) (hc : c ≠ 2) (hr : r = q) (hq : q = sp p) : r = zHs kd sp p := by
  unfold zHs
  rw [if_neg (by omega), hr, hq]
/-- how much of a cue he hears -/
def zHd (kd fg : Nat → Int32) (w : Int) (p : Nat) : Int := if (kd p).toInt = 3 ∨ (kd p).toInt = 4 then zMn w (fg p).toInt else w
theorem z_hdD {kd fg : Nat → Int32} {w r : Int} {p : Nat} {v : Int32} (hk : (kd p).toInt = 3 ∨ (kd p).toInt = 4) (hv : fg p = v) (hr : r = zMn w v.toInt) : r = zHd kd fg w p := by
  unfold zHd
  rw [if_pos hk, hv, hr]
theorem z_hdN {kd fg : Nat → Int32} {w r c : Int} {p : Nat} (hk : (kd p).toInt = c) (h3 : c ≠ 3) (h4 : c ≠ 4) (hr : r = w) : r = zHd kd fg w p := by
  unfold zHd
  rw [if_neg (by omega), hr]
def zHoP (P L : Int) (G : Nat → ZQ) (on : Nat → Int32) (l w r : Int32) : Prop := 0 ≤ l.toInt → l.toInt < L → 0 ≤ (on l.toNatClampNeg).toInt → (on l.toNatClampNeg).toInt < P → ∀ kd fg : Nat → Int32, zKn P G kd fg → r.toInt = zHd kd fg w.toInt (on l.toNatClampNeg).toInt.toNat
/-- which line he chooses, told by bits -/
def zNxt (o c s : Int32) (r : Int) : Prop := ∃ n : Int, zLst (o &&& (s ^^^ (-1))) n ∧ ((n ≠ -9 ∧ bt c n.toNat = true ∧ r = n) ∨ ((n = -9 ∨ bt c n.toNat = false) ∧ r = -9))
def zChB (k : Int) (o c s : Int32) (r : Int) : Prop := (k = 4 ∧ r = -9) ∨ (k = 1 ∧ zLst (o &&& c) r) ∨ (k = 5 ∧ zGst (o &&& c) r) ∨ ((k = 0 ∨ k = 2 ∨ k = 3) ∧ zNxt o c s r)
/-- the lines of those who are sick -/
def zSkL (k L : Int) (kd wh : Nat → Int32) (x : Int32) : Prop := zB12 x ∧ ∀ l : Nat, l < 12 → bt x l = decide ((l : Int) < L ∧ 0 ≤ (wh l).toInt ∧ (wh l).toInt < k ∧ (kd (wh l).toInt.toNat).toInt = 4)
theorem z_sk0 {k L : Int} {kd wh : Nat → Int32} (h : k = 0) : zSkL k L kd wh 0 := ⟨z_b12Z, fun l _ => by rw [b_0]; exact (decide_eq_false (by omega)).symm⟩
theorem z_b12A {x y : Int32} (hx : zB12 x) (hy : zB12 y) : zB12 (x ||| y) := fun i h1 h2 => by rw [b_or, hx i h1 h2, hy i h1 h2]; rfl
theorem z_skY {k k2 L : Int} {kd wh : Nat → Int32} {x y o : Int32} {p : Nat} (h : zSkL k L kd wh x) (ho : zOwL L wh k o) (hp : k = (p : Int)) (hk : (kd p).toInt = 4) (e : y = x ||| o) (h2 : k2 = k + 1) : zSkL k2 L kd wh y := by
  subst e
  refine ⟨z_b12A h.1 ho.1, fun l hl => ?_⟩
  rw [b_or, h.2 l hl, ho.2 l hl]
  by_cases c : (l : Int) < L ∧ (wh l).toInt = k
  · rw [decide_eq_true c, Bool.or_true]
    exact (decide_eq_true ⟨c.1, by omega, by omega, by rw [show (wh l).toInt.toNat = p by omega]; exact hk⟩).symm
  · rw [decide_eq_false c, Bool.or_false]
    exact decide_eq_decide.mpr ⟨fun q => ⟨q.1, q.2.1, by omega, q.2.2.2⟩, fun q => ⟨q.1, q.2.1, by
      have q1 := q.1
      have q3 := q.2.2.1
      omega, q.2.2.2⟩⟩
theorem z_skN {k k2 L c : Int} {kd wh : Nat → Int32} {x : Int32} {p : Nat} (h : zSkL k L kd wh x) (hp : k = (p : Int)) (hk : (kd p).toInt = c) (hc : c ≠ 4) (h2 : k2 = k + 1) : zSkL k2 L kd wh x := by
  refine ⟨h.1, fun l hl => ?_⟩
  rw [h.2 l hl]
  refine decide_eq_decide.mpr ⟨fun q => ⟨q.1, q.2.1, by omega, q.2.2.2⟩, fun q => ⟨q.1, q.2.1, ?_, q.2.2.2⟩⟩
  obtain ⟨q1, q2, q3, q4⟩ := q
  by_cases w : (wh l).toInt = k
  · rw [show (wh l).toInt.toNat = p by omega] at q4
    omega
  · omega
def zSkI (P L : Int) (G : Nat → ZQ) (ow : Nat → Int32) (k : Int) (x : Int32) : Prop := ∀ kd fg wh : Nat → Int32, zKn P G kd fg → zOwA P L ow wh → zSkL k L kd wh x
theorem z_skI0 {P L k : Int} {G : Nat → ZQ} {ow : Nat → Int32} (h : k = 0) : zSkI P L G ow k 0 := fun _ _ _ _ _ => z_sk0 h
theorem z_skIY {P L : Int} {G : Nat → ZQ} {ow : Nat → Int32} {x y o p p2 : Int32} (h : zSkI P L G ow p.toInt x) (p0 : 0 ≤ p.toInt) (pP : p.toInt < P) (e : (G p.toNatClampNeg).2.1 = 10) (go : o = ow p.toNatClampNeg) (ey : y = x ||| o) (h2 : p2.toInt = p.toInt + 1) : zSkI P L G ow p2.toInt y := fun kd fg wh hK hA => by
  have hc := z_cl p0
  refine z_skY (p := p.toNatClampNeg) (h kd fg wh hK hA) ?_ hc.symm (z_knK hK p0 pP e) ey h2
  have w := hA p.toNatClampNeg (by omega)
  rw [hc, ← go] at w
  exact w
theorem z_skIN {P L : Int} {G : Nat → ZQ} {ow : Nat → Int32} {x p p2 : Int32} {c : Nat} (h : zSkI P L G ow p.toInt x) (p0 : 0 ≤ p.toInt) (pP : p.toInt < P) (e : (G p.toNatClampNeg).2.1 = c) (hc : zKd c ≠ 4) (h2 : p2.toInt = p.toInt + 1) : zSkI P L G ow p2.toInt x := fun kd fg wh hK hA => z_skN (p := p.toNatClampNeg) (h kd fg wh hK hA) (z_cl p0).symm (z_knK hK p0 pP e) hc h2
theorem z_skIX {P L : Int} {G : Nat → ZQ} {ow : Nat → Int32} {x p p2 : Int32} (p0 : 0 ≤ p.toInt) (pP : p.toInt < P) (e : (G p.toNatClampNeg).1 = none) : zSkI P L G ow p2.toInt x := fun _ _ _ hK _ => (z_knN hK p0 pP e).elim
theorem z_skE {P L k : Int} {G : Nat → ZQ} {ow : Nat → Int32} {x : Int32} (h : zSkI P L G ow k x) (e : k = P) : zSkI P L G ow P x := e ▸ h
/-- the cues of a play: what each player hears of line j's cue -/
def zHe (kd fg wh cu : Nat → Int32) (more : Int) (j : Nat) : Int := zHd kd fg (zMn ((cu j).toInt + more) 4) (wh j).toInt.toNat
/-- the lines cued by words W -/
def zCbP (L : Int) (W : Nat → Int) (n : Int) (wd mn : Nat → Int32) (he : Nat → Int) (k : Int) (x : Int32) : Prop := zB12 x ∧ ∀ j : Nat, j < 12 → (bt x j = true ↔ (1 ≤ j ∧ (j : Int) < k ∧ zEnds W n (zWf wd (5 * (j - 1))) (mn (j - 1)).toInt (he j)))
theorem z_cb0 {L k n : Int} {W : Nat → Int} {wd mn : Nat → Int32} {he : Nat → Int} (h : k = 1) : zCbP L W n wd mn he k 0 := ⟨z_b12Z, fun j _ => by rw [b_0]; exact ⟨fun q => absurd q (by decide), fun q => by omega⟩⟩
theorem z_cbS {L n : Int} {W : Nat → Int} {wd mn : Nat → Int32} {he : Nat → Int} {x y k k2 : Int32} (h : zCbP L W n wd mn he k.toInt x) (k1 : 1 ≤ k.toInt) (k12 : k.toInt < 12) (hk : k2.toInt = k.toInt + 1) (s : (zEnds W n (zWf wd (5 * (k.toInt.toNat - 1))) (mn (k.toInt.toNat - 1)).toInt (he k.toInt.toNat) ∧ ∃ b : Int32, b = (1 : Int32) <<< (k &&& 31) ∧ y = x ||| b) ∨ (¬ zEnds W n (zWf wd (5 * (k.toInt.toNat - 1))) (mn (k.toInt.toNat - 1)).toInt (he k.toInt.toNat) ∧ y = x)) : zCbP L W n wd mn he k2.toInt y := by
  rcases s with ⟨a, b, rfl, rfl⟩ | ⟨a, rfl⟩
  · refine ⟨z_b12O h.1 (by omega) k12, fun j hj => ?_⟩
    rw [z_btO (by omega) k12 (by omega), Bool.or_eq_true, h.2 j hj]
    by_cases c : j = k.toInt.toNat
    · rw [decide_eq_true c]
      exact ⟨fun _ => ⟨by omega, by omega, by rw [c]; exact a⟩, fun _ => Or.inr rfl⟩
    · rw [decide_eq_false c]
      exact ⟨fun q => by
        rcases q with q | q
        · exact ⟨q.1, by omega, q.2.2⟩
        · exact absurd q (by decide), fun q => Or.inl ⟨q.1, by have := q.2.1; omega, q.2.2⟩⟩
  · refine ⟨h.1, fun j hj => ?_⟩
    rw [h.2 j hj]
    exact ⟨fun q => ⟨q.1, by have := q.2.1; omega, q.2.2⟩, fun q => ⟨q.1, by
      by_cases c : j = k.toInt.toNat
      · exact absurd (by rw [← c]; exact q.2.2) a
      · have := q.2.1; omega, q.2.2⟩⟩
theorem z_btT {b : Bool} {r : Int} (h : (r = 1 ∧ b = true) ∨ (r = 0 ∧ b = false)) (hr : r = 1) : b = true := by
  rcases h with h | h
  · exact h.2
  · omega
theorem z_btF {b : Bool} {r : Int} (h : (r = 1 ∧ b = true) ∨ (r = 0 ∧ b = false)) (hr : r ≠ 1) : b = false := by
  rcases h with h | h
  · omega
  · exact h.2
theorem z_lsR {x : Int32} {r : Int} (h : zLst x r) (hr : r ≠ -9) : 0 ≤ r ∧ r < 12 := by
  rcases h with ⟨a, -⟩ | ⟨a, b, -⟩
  · exact absurd a hr
  · exact ⟨a, b⟩
theorem z_chE {kd ow : Nat → Int32} {p : Nat} {c r : Int} {y cu sd : Int32} (hk : (kd p).toInt = c) (ho : y = ow p) (h : zChB c y cu sd r) : zChB (kd p).toInt (ow p) cu sd r := by
  rw [hk, ← ho]
  exact h
/-! the net: what each line cues -/
def zOk2 (P L : Int) (on cu : Nat → Int32) : Prop := ∀ l : Nat, (l : Int) < L → (0 ≤ (on l).toInt ∧ (on l).toInt < P) ∧ 1 ≤ (cu l).toInt ∧ (cu l).toInt ≤ 4
/-- what is known where the class reads its play -/
def zPy (P L : Int) (G : Nat → ZQ) (tx sz on cu wd mn kd fg : Nat → Int32) : Prop := zTS L tx sz wd mn ∧ zKn P G kd fg ∧ zOk2 P L on cu
def zCbI (P L : Int) (G : Nat → ZQ) (tx sz on cu : Nat → Int32) (x n m : Int32) (k : Int) (b : Int32) : Prop := ∀ (W : Nat → Int) (wd mn kd fg : Nat → Int32), zPy P L G tx sz on cu wd mn kd fg → x.toInt = zTx W n.toInt.toNat → 0 ≤ n.toInt → (∀ k : Nat, (k : Int) < n.toInt → 0 ≤ W k ∧ W k < 32) → 0 ≤ m.toInt → m.toInt ≤ 3 → zCbP L W n.toInt wd mn (zHe kd fg on cu m.toInt) k b
theorem z_cbI0 {P L k : Int} {G : Nat → ZQ} {tx sz on cu : Nat → Int32} {x n m : Int32} (h : k = 1) : zCbI P L G tx sz on cu x n m k 0 := fun _ _ _ _ _ _ _ _ _ _ _ => z_cb0 h
theorem z_cbIS {P L x n m k k2 yc ya ym yh r b b2 : Int32} {G : Nat → ZQ} {tx sz on cu : Nat → Int32} (h : zCbI P.toInt L.toInt G tx sz on cu x n m k.toInt b) (k1 : 1 ≤ k.toInt) (kL : k.toInt < L.toInt) (hL : L.toInt ≤ 12) (hP : P.toInt ≤ 5) (hk : k2.toInt = k.toInt + 1) (gc : yc.toInt = (cu k.toNatClampNeg).toInt) (ea : ya = yc + m) (m0 : ym.toInt ≤ ya.toInt) (m1 : ym.toInt ≤ 4) (m2 : ym.toInt = ya.toInt ∨ ym.toInt = 4) (hh : zHoP P.toInt L.toInt G on k ym yh) (he : zEaP x n k yh L tx sz r) (s : (r.toInt ≠ 0 ∧ ∃ bb : Int32, bb = (1 : Int32) <<< (k &&& 31) ∧ b2 = b ||| bb) ∨ (r.toInt = 0 ∧ b2 = b)) : zCbI P.toInt L.toInt G tx sz on cu x n m k2.toInt b2 := by
  intro W wd mn kd fg H a1 a2 a3 d0 d3
  obtain ⟨T, K, O⟩ := id H
  have hc := z_cl (show 0 ≤ k.toInt by omega)
  obtain ⟨⟨o1, o2⟩, o3, o4⟩ := O k.toNatClampNeg (by omega)
  have ya2 : ya.toInt = yc.toInt + m.toInt := by rw [ea]; exact z_add rfl rfl (by omega) (by omega)
  have em : ym.toInt = zMn ((cu k.toNatClampNeg).toInt + m.toInt) 4 := by
    have w := z_mnE m0 m1 m2
    rw [w, ya2, gc]
  have hm := z_mnL ((cu k.toNatClampNeg).toInt + m.toInt) 4
  have eh : yh.toInt = zHe kd fg on cu m.toInt k.toInt.toNat := by
    unfold zHe
    have w := hh (by omega) kL o1 o2 kd fg K
    rw [em] at w
    exact w
  have hh0 : 0 ≤ yh.toInt := by
    have fgp := (K (on k.toNatClampNeg).toInt.toNat (by omega)).2.2.2.2
    have w := hh (by omega) kL o1 o2 kd fg K
    rw [w]
    unfold zHd
    split
    · have q := z_mnL ym.toInt (fg (on k.toNatClampNeg).toInt.toNat).toInt
      omega
    · omega
  obtain ⟨t1, t2, t3, t4⟩ := T (k.toInt - 1).toNat (by omega)
  rcases he with ⟨he, -⟩ | ⟨-, -, he⟩
  · omega
  · have key := he W (zWf wd (5 * (k.toInt - 1).toNat)) hh0 a2 (by omega) t2.2 a1 t3 a3 (fun k hk => ⟨(t4 k hk).1, Int.lt_of_le_of_lt (t4 k hk).2 (by decide)⟩)
    refine z_cbS (h W wd mn kd fg H a1 a2 a3 d0 d3) k1 (by omega) hk ?_
    rw [show k.toInt.toNat - 1 = (k.toInt - 1).toNat by omega, t1, ← eh]
    rcases key with ⟨q1, q2⟩ | ⟨q1, q2⟩ <;> rcases s with ⟨s1, s2⟩ | ⟨s1, s2⟩
    · exact Or.inl ⟨q2, s2⟩
    · omega
    · exact absurd q1 s1
    · exact Or.inr ⟨q2, s2⟩
theorem z_cbE {P L k : Int} {G : Nat → ZQ} {tx sz on cu : Nat → Int32} {x n m b : Int32} (h : zCbI P L G tx sz on cu x n m k b) (e : k = L ∨ (L ≤ 1 ∧ k = 1)) : zCbI P L G tx sz on cu x n m L b := by
  rcases e with rfl | ⟨e1, rfl⟩
  · exact h
  · intro W wd mn kd fg H a1 a2 a3 d0 d3
    obtain ⟨q1, q2⟩ := h W wd mn kd fg H a1 a2 a3 d0 d3
    refine ⟨q1, fun j hj => ?_⟩
    rw [q2 j hj]
    exact ⟨fun w => by have := w.1; have := w.2.1; omega, fun w => by have := w.1; have := w.2.1; omega⟩
/-- all rows of the net below k -/
def zNt (L : Int) (wd mn : Nat → Int32) (he : Nat → Int) (af : Nat → Int32) (k : Int) : Prop := ∀ i : Nat, (i : Int) < k → zCbP L (zWf wd (5 * i)) (mn i).toInt wd mn he L (af i)
def zWe (P L : Int) (G : Nat → ZQ) (tx sz on cu : Nat → Int32) (m : Int32) (af : Nat → Int32) (k : Int) : Prop := 0 ≤ m.toInt → m.toInt ≤ 3 → ∀ wd mn kd fg : Nat → Int32, zPy P L G tx sz on cu wd mn kd fg → zNt L wd mn (zHe kd fg on cu m.toInt) af k
theorem z_we0 {P L k : Int} {G : Nat → ZQ} {tx sz on cu af : Nat → Int32} {m : Int32} (h : k = 0) : zWe P L G tx sz on cu m af k := fun _ _ _ _ _ _ _ i hi => by omega
theorem z_weS {P L : Int} {G : Nat → ZQ} {tx sz on cu af af2 : Nat → Int32} {m i i2 x n r : Int32} (h : zWe P L G tx sz on cu m af i.toInt) (i0 : 0 ≤ i.toInt) (iL : i.toInt < L) (hi : i2.toInt = i.toInt + 1) (gx : x.toInt = (tx i.toNatClampNeg).toInt) (gn : n.toInt = (sz i.toNatClampNeg).toInt) (hc : zCbI P L G tx sz on cu x n m L r) (e : upd af i.toNatClampNeg r = af2) : zWe P L G tx sz on cu m af2 i2.toInt := by
  intro d0 d3 wd mn kd fg H q hq
  have hcl := z_cl i0
  by_cases c : q = i.toNatClampNeg
  · obtain ⟨t1, t2, t3, t4⟩ := H.1 q (by omega)
    rw [← e, c, pk_us, ← c]
    have w := hc (zWf wd (5 * q)) wd mn kd fg H (by rw [gx, ← c, t3, gn, ← c]) (by rw [gn, ← c]; omega) (fun k hk => ⟨(t4 k (by rw [gn, ← c] at hk; exact hk)).1, Int.lt_of_le_of_lt (t4 k (by rw [gn, ← c] at hk; exact hk)).2 (by decide)⟩) d0 d3
    rw [gn, ← c, ← t1] at w
    exact w
  · rw [← e, pk_un c]
    exact h d0 d3 wd mn kd fg H q (by omega)
theorem z_weE {P L k : Int} {G : Nat → ZQ} {tx sz on cu af : Nat → Int32} {m : Int32} (h : zWe P L G tx sz on cu m af k) (e : L ≤ k) : zWe P L G tx sz on cu m af L := fun d0 d3 wd mn kd fg H i hi => h d0 d3 wd mn kd fg H i (by omega)
/-- without those who are sick -/
def zFlP (L : Int) (W : Nat → Int) (n : Int) (wd mn kd wh : Nat → Int32) (he : Nat → Int) (k : Int) (x : Int32) : Prop := zB12 x ∧ ∀ j : Nat, j < 12 → (bt x j = true ↔ (1 ≤ j ∧ (j : Int) < k ∧ (kd (wh j).toInt.toNat).toInt ≠ 4 ∧ zEnds W n (zWf wd (5 * (j - 1))) (mn (j - 1)).toInt (he j)))
theorem z_flA {P L n : Int} {W : Nat → Int} {wd mn kd wh cu : Nat → Int32} {he : Nat → Int} {x s t y : Int32} (h : zCbP L W n wd mn he L x) (hs : zSkL P L kd wh s) (ho : zOk2 P L wh cu) (et : t = s ^^^ (-1)) (ey : y = x &&& t) : zFlP L W n wd mn kd wh he L y := by
  refine ⟨fun i h1 h2 => by rw [ey, b_and, h.1 i h1 h2, Bool.false_and], fun j hj => ?_⟩
  rw [ey, b_and, et, b_xor, b_m1 j (by omega), Bool.and_eq_true, h.2 j hj, hs.2 j hj]
  constructor
  · rintro ⟨⟨a, b, c⟩, d⟩
    refine ⟨a, b, fun e => ?_, c⟩
    have o := (ho j b).1
    rw [decide_eq_true ⟨b, o.1, o.2, e⟩] at d
    exact absurd d (by decide)
  · rintro ⟨a, b, c, d⟩
    refine ⟨⟨a, b, d⟩, ?_⟩
    rw [decide_eq_false (fun e => c e.2.2.2)]
    rfl
theorem z_flU {L n k k2 : Int} {W W2 : Nat → Int} {wd mn kd wh : Nat → Int32} {he he2 : Nat → Int} {x y : Int32} (hx : zFlP L W n wd mn kd wh he k x) (hy : zFlP L W2 n wd mn kd wh he2 k2 y) (hk : k = k2) (h : ∀ j : Nat, 1 ≤ j → (j : Int) < k → (zEnds W n (zWf wd (5 * (j - 1))) (mn (j - 1)).toInt (he j) ↔ zEnds W2 n (zWf wd (5 * (j - 1))) (mn (j - 1)).toInt (he2 j))) : x = y := by
  subst hk
  refine z_b12E hx.1 hy.1 fun i hi => ?_
  have a := hx.2 i hi
  have b := hy.2 i hi
  have e : bt x i = true ↔ bt y i = true := by
    rw [a, b]
    exact ⟨fun q => ⟨q.1, q.2.1, q.2.2.1, (h i q.1 q.2.1).mp q.2.2.2⟩, fun q => ⟨q.1, q.2.1, q.2.2.1, (h i q.1 q.2.1).mpr q.2.2.2⟩⟩
  cases hbx : bt x i <;> cases hby : bt y i
  · rfl
  · rw [hbx, hby] at e
    exact absurd (e.mpr rfl) (by decide)
  · rw [hbx, hby] at e
    exact absurd (e.mp rfl) (by decide)
  · rfl
def zWs (P L : Int) (G : Nat → ZQ) (tx sz on cu ow : Nat → Int32) (af : Nat → Int32) (k : Int) : Prop := ∀ wd mn kd fg wh : Nat → Int32, zPy P L G tx sz on cu wd mn kd fg → zOwA P L ow wh → (∀ l : Nat, (l : Int) < L → wh l = on l) → ∀ i : Nat, (i : Int) < k → zFlP L (zWf wd (5 * i)) (mn i).toInt wd mn kd wh (zHe kd fg on cu 0) L (af i)
theorem z_ok2E {P L : Int} {on wh cu : Nat → Int32} (h : zOk2 P L on cu) (e : ∀ l : Nat, (l : Int) < L → wh l = on l) : zOk2 P L wh cu := fun l hl => by rw [e l hl]; exact h l hl
/-- rows not reached yet are those of the net; those behind are done -/
def zWsI (P L : Int) (G : Nat → ZQ) (tx sz on cu ow : Nat → Int32) (af : Nat → Int32) (k : Int) : Prop := zWs P L G tx sz on cu ow af k ∧ ∀ wd mn kd fg : Nat → Int32, zPy P L G tx sz on cu wd mn kd fg → ∀ i : Nat, k ≤ (i : Int) → (i : Int) < L → zCbP L (zWf wd (5 * i)) (mn i).toInt wd mn (zHe kd fg on cu 0) L (af i)
theorem z_wsI0 {P L k : Int} {G : Nat → ZQ} {tx sz on cu ow af : Nat → Int32} {m : Int32} (h : zWe P L G tx sz on cu m af L) (hm : m.toInt = 0) (hk : k = 0) : zWsI P L G tx sz on cu ow af k := by
  refine ⟨fun _ _ _ _ _ _ _ _ i hi => by omega, fun wd mn kd fg H i _ hi => ?_⟩
  have w := h (by omega) (by omega) wd mn kd fg H i hi
  rw [hm] at w
  exact w
theorem z_wsIS {P L : Int} {G : Nat → ZQ} {tx sz on cu ow af af2 : Nat → Int32} {i i2 a t s y : Int32} (h : zWsI P L G tx sz on cu ow af i.toInt) (hs : zSkI P L G ow P s) (et : t = s ^^^ (-1)) (i0 : 0 ≤ i.toInt) (iL : i.toInt < L) (hi : i2.toInt = i.toInt + 1) (ga : a = af i.toNatClampNeg) (ey : y = a &&& t) (e : upd af i.toNatClampNeg y = af2) : zWsI P L G tx sz on cu ow af2 i2.toInt := by
  have hcl := z_cl i0
  refine ⟨fun wd mn kd fg wh H hA hw q hq => ?_, fun wd mn kd fg H q h1 h2 => ?_⟩
  · by_cases c : q = i.toNatClampNeg
    · rw [← e, c, pk_us]
      have w := h.2 wd mn kd fg H i.toNatClampNeg (by omega) (by omega)
      rw [← ga] at w
      exact z_flA w (hs kd fg wh H.2.1 hA) (z_ok2E H.2.2 hw) et ey
    · rw [← e, pk_un c]
      exact h.1 wd mn kd fg wh H hA hw q (by omega)
  · rw [← e, pk_un (by omega)]
    exact h.2 wd mn kd fg H q (by omega) h2
theorem z_wsE {P L k : Int} {G : Nat → ZQ} {tx sz on cu ow af : Nat → Int32} (h : zWsI P L G tx sz on cu ow af k) (e : L ≤ k) : zWs P L G tx sz on cu ow af L := fun wd mn kd fg wh H hA hw i hi => h.1 wd mn kd fg wh H hA hw i (by omega)
/-! the reference: what is cued -/
def zIcR (wd mn : Nat → Int32) (jk jw : Int32) (kd fg wh cu : Nat → Int32) (i j : Int) : Prop := 1 ≤ j ∧ zDeR wd mn jk jw i j (zHd kd fg (cu j.toNat).toInt (wh j.toNat).toInt.toNat)
theorem z_icA {wd mn kd fg wh cu : Nat → Int32} {jk jw i j yp yk h : Int32} {r : Int} (q : zYn (zDeR wd mn jk jw i.toInt j.toInt h.toInt) r) (j1 : 1 ≤ j.toInt) (ep : yp = wh j.toNatClampNeg) (ek : yk = kd yp.toNatClampNeg) (s : ((yk.toInt = 3 ∨ yk.toInt = 4) ∧ ∃ yc yf : Int32, yc = cu j.toNatClampNeg ∧ yf = fg yp.toNatClampNeg ∧ h.toInt ≤ yc.toInt ∧ h.toInt ≤ yf.toInt ∧ (h.toInt = yc.toInt ∨ h.toInt = yf.toInt)) ∨ (yk.toInt ≠ 3 ∧ yk.toInt ≠ 4 ∧ h = cu j.toNatClampNeg)) : zYn (zIcR wd mn jk jw kd fg wh cu i.toInt j.toInt) r := by
  have eh : h.toInt = zHd kd fg (cu j.toInt.toNat).toInt (wh j.toInt.toNat).toInt.toNat := by
    subst ep ek
    rcases s with ⟨s1, yc, yf, s2, s3, s4, s5, s6⟩ | ⟨s1, s2, s3⟩
    · exact z_hdD s1 s3.symm (by have w := z_mnE s4 s5 s6; rw [s2] at w; exact w)
    · exact z_hdN rfl s1 s2 (by rw [s3]; rfl)
  rw [eh] at q
  rcases q with ⟨a, b⟩ | ⟨a, b⟩
  · exact Or.inl ⟨a, j1, b⟩
  · exact Or.inr ⟨a, fun w => b w.2⟩
theorem z_ic0 {wd mn kd fg wh cu : Nat → Int32} {jk jw : Int32} {i j r : Int} (hj : j = 0) (hr : r = 0) : zYn (zIcR wd mn jk jw kd fg wh cu i j) r := Or.inr ⟨hr, fun w => by have := w.1; omega⟩
/-- a set of lines behind the first, told by what is in it -/
def zBq (Q : Nat → Prop) (k : Int) (x : Int32) : Prop := zB12 x ∧ ∀ j : Nat, j < 12 → (bt x j = true ↔ (1 ≤ j ∧ (j : Int) < k ∧ Q j))
theorem z_bq0 {Q : Nat → Prop} {k : Int} (h : k = 1) : zBq Q k 0 := ⟨z_b12Z, fun j _ => by rw [b_0]; exact ⟨fun q => absurd q (by decide), fun q => by omega⟩⟩
theorem z_bqS {Q : Nat → Prop} {x y k k2 : Int32} (h : zBq Q k.toInt x) (k1 : 1 ≤ k.toInt) (k12 : k.toInt < 12) (hk : k2.toInt = k.toInt + 1) (s : (Q k.toInt.toNat ∧ ∃ b : Int32, b = (1 : Int32) <<< (k &&& 31) ∧ y = x ||| b) ∨ (¬ Q k.toInt.toNat ∧ y = x ||| 0)) : zBq Q k2.toInt y := by
  rcases s with ⟨a, b, rfl, rfl⟩ | ⟨a, rfl⟩
  · refine ⟨z_b12O h.1 (by omega) k12, fun j hj => ?_⟩
    rw [z_btO (by omega) k12 (by omega), Bool.or_eq_true, h.2 j hj]
    by_cases c : j = k.toInt.toNat
    · rw [decide_eq_true c]
      exact ⟨fun _ => ⟨by omega, by omega, by rw [c]; exact a⟩, fun _ => Or.inr rfl⟩
    · rw [decide_eq_false c]
      exact ⟨fun q => by
        rcases q with q | q
        · exact ⟨q.1, by omega, q.2.2⟩
        · exact absurd q (by decide), fun q => Or.inl ⟨q.1, by have := q.2.1; omega, q.2.2⟩⟩
  · have e : x ||| 0 = x := b_ext fun i _ => by rw [b_or, b_0, Bool.or_false]
    rw [e]
    refine ⟨h.1, fun j hj => ?_⟩
    rw [h.2 j hj]
    exact ⟨fun q => ⟨q.1, by have := q.2.1; omega, q.2.2⟩, fun q => ⟨q.1, by
      by_cases c : j = k.toInt.toNat
      · exact absurd (by rw [← c]; exact q.2.2) a
      · have := q.2.1; omega, q.2.2⟩⟩
theorem z_bqE {Q : Nat → Prop} {k L : Int} {x : Int32} (h : zBq Q k x) (e : k = L ∨ (L ≤ 1 ∧ k = 1)) : zBq Q L x := by
  rcases e with rfl | ⟨e1, rfl⟩
  · exact h
  · refine ⟨h.1, fun j hj => ?_⟩
    rw [h.2 j hj]
    exact ⟨fun w => by have := w.1; have := w.2.1; omega, fun w => by have := w.1; have := w.2.1; omega⟩
def zFq (wd mn : Nat → Int32) (jk jw : Int32) (kd fg wh cu : Nat → Int32) (i : Int) (j : Nat) : Prop := (kd (wh j).toInt.toNat).toInt ≠ 4 ∧ zIcR wd mn jk jw kd fg wh cu i (j : Int)
theorem z_fqS {wd mn kd fg wh cu : Nat → Int32} {jk jw i j j2 yp yk x y : Int32} (h : zBq (zFq wd mn jk jw kd fg wh cu i.toInt) j.toInt x) (k1 : 1 ≤ j.toInt) (k12 : j.toInt < 12) (hk : j2.toInt = j.toInt + 1) (ep : yp = wh j.toNatClampNeg) (ek : yk = kd yp.toNatClampNeg) (s : (yk.toInt ≠ 4 ∧ ∃ r : Int, zYn (zIcR wd mn jk jw kd fg wh cu i.toInt j.toInt) r ∧ r ≠ 0 ∧ ∃ b : Int32, b = (1 : Int32) <<< (j &&& 31) ∧ y = x ||| b) ∨ ((yk.toInt = 4 ∨ ∃ r : Int, zYn (zIcR wd mn jk jw kd fg wh cu i.toInt j.toInt) r ∧ r = 0) ∧ y = x ||| 0)) : zBq (zFq wd mn jk jw kd fg wh cu i.toInt) j2.toInt y := by
  have e : (kd (wh j.toInt.toNat).toInt.toNat).toInt = yk.toInt := by subst ep ek; rfl
  have ej : ((j.toInt.toNat : Nat) : Int) = j.toInt := Int.toNat_of_nonneg (by omega)
  refine z_bqS h k1 k12 hk ?_
  unfold zFq
  rw [e, ej]
  rcases s with ⟨s1, r, s2, s3, s4⟩ | ⟨s1, s4⟩
  · rcases s2 with ⟨-, s2⟩ | ⟨s2, -⟩
    · exact Or.inl ⟨⟨s1, s2⟩, s4⟩
    · exact absurd s2 s3
  · refine Or.inr ⟨fun w => ?_, s4⟩
    rcases s1 with s1 | ⟨r, s2, s3⟩
    · exact w.1 s1
    · rcases s2 with ⟨s2, -⟩ | ⟨-, s2⟩
      · omega
      · exact s2 w.2
/-! the players of a piece -/
def zBrG (t : Nat → Int32) (n : Int) (P0 L0 : Int32) (G0 : Nat → ZQ) (k P L : Int32) (G : Nat → ZQ) : Prop :=
  zFwK t n 0 0 0 = -9 → zCkK t n 0 P0.toInt L0.toInt = -9 → zCkK t n k.toInt P.toInt L.toInt = -9 ∧ ∀ S : ZS, S.1.1 = P0.toInt → S.1.2.1 = L0.toInt → zKn P0.toInt G0 (S.2 0) (S.2 1) → ∃ S2 : ZS, (S2.1.1 = P.toInt ∧ S2.1.2.1 = L.toInt) ∧ zKn P.toInt G (S2.2 0) (S2.2 1) ∧ zBrK t n 0 S = zBrK t n k.toInt S2
theorem z_brG0 {t : Nat → Int32} {n : Int} {P0 L0 : Int32} {G0 : Nat → ZQ} : zBrG t n P0 L0 G0 0 P0 L0 G0 := by
  have h0 : (0 : Int32).toInt = 0 := by decide
  intro h1 h2
  rw [h0]
  exact ⟨h2, fun S a b c => ⟨S, ⟨a, b⟩, c, rfl⟩⟩
theorem z_brGN {t : Nat → Int32} {n : Int} {P0 L0 k k2 P L : Int32} {G0 G : Nat → ZQ} (h : zBrG t n P0 L0 G0 k P L G) (hk : k.toInt < n) (hb : ¬ zBg t n k.toInt) (hk2 : k2.toInt = k.toInt + 1) : zBrG t n P0 L0 G0 k2 P L G := by
  intro h1 h2
  obtain ⟨g1, g2⟩ := h h1 h2
  rw [hk2]
  refine ⟨by rw [← z_ckN hk hb]; exact g1, fun S a b c => ?_⟩
  obtain ⟨S2, a1, a2, a3⟩ := g2 S a b c
  exact ⟨S2, a1, a2, by rw [a3, z_brN hk hb]⟩
theorem z_ioT {v : Int} (h0 : 0 ≤ v) (h1 : v ≤ 200) : (zIo v).toInt = v := by
  unfold zIo
  rw [Int32.toInt_ofInt]
  exact z_bm (by omega) (by omega)
theorem z_brGP {t : Nat → Int32} {n : Int} {P0 L0 k k2 P P2 L d1 d2 u2 : Int32} {u1 y : Nat} {G0 G G2 : Nat → ZQ} (h : zBrG t n P0 L0 G0 k P L G) (hk : k.toInt < n) (h0 : 0 ≤ k.toInt) (hP0 : 0 ≤ P.toInt) (hb : zBg t n k.toInt) (hp : zAt t n k.toInt = 112) (hd1 : d1.toInt = zAt t n (k.toInt + 1) - 48) (hd2 : d2.toInt = zAt t n (k.toInt + 2) - 48) (hu : u1 = zCi d1.toInt ∧ u2 = d2) (ha : P.toInt < 5 → P2.toInt = P.toInt + 1 ∧ G2 = zUq G P.toNatClampNeg (some y, u1, u2)) (hk2 : k2.toInt = k.toInt + 1) : zBrG t n P0 L0 G0 k2 P2 L G2 := by
  intro h1 h2
  obtain ⟨g1, g2⟩ := h h1 h2
  have hok := z_okBg h1 h0 hk hb
  have hdg : zDg t n (k.toInt + 1) ∧ zDg t n (k.toInt + 2) := by
    rcases hok with ⟨-, q1, q2, -⟩ | ⟨q, -⟩
    · exact ⟨q1, q2⟩
    · omega
  have w1 := hdg.1
  have w2 := hdg.2
  by_cases hf : zFtP t n k.toInt P.toInt
  · obtain ⟨e1, e2⟩ := ha hf.1
    obtain ⟨f1, f2, f3⟩ := hf
    rw [hk2]
    refine ⟨by rw [e1, ← z_ckP hk hb hp ⟨f1, f2, f3⟩]; exact g1, fun S a b c => ?_⟩
    obtain ⟨S2, ⟨a1, a1b⟩, a2, a3⟩ := g2 S a b c
    have hcl := z_cl hP0
    refine ⟨zCm t n k.toInt S2, ?_, ?_, by rw [a3, z_brB hk hb]⟩
    · unfold zCm
      rw [if_pos hp]
      exact ⟨by show S2.1.1 + 1 = P2.toInt; omega, a1b⟩
    · unfold zCm
      rw [if_pos hp]
      intro p hp2
      show (∃ x, (G2 p).1 = some x) ∧ (G2 p).2.1 = zCi (upd (S2.2 0) S2.1.1.toNat (zIo (zAt t n (k.toInt + 1) - 48)) p).toInt ∧ (G2 p).2.2 = upd (S2.2 1) S2.1.1.toNat (zIo (zAt t n (k.toInt + 2) - 48)) p ∧ (0 ≤ (upd (S2.2 0) S2.1.1.toNat (zIo (zAt t n (k.toInt + 1) - 48)) p).toInt ∧ (upd (S2.2 0) S2.1.1.toNat (zIo (zAt t n (k.toInt + 1) - 48)) p).toInt ≤ 5) ∧ (1 ≤ (upd (S2.2 1) S2.1.1.toNat (zIo (zAt t n (k.toInt + 2) - 48)) p).toInt ∧ (upd (S2.2 1) S2.1.1.toNat (zIo (zAt t n (k.toInt + 2) - 48)) p).toInt ≤ 9)
      rw [z_upd, z_upd, a1, e2]
      unfold zUq
      by_cases q : p = P.toNatClampNeg
      · rw [if_pos q, if_pos (show p = P.toInt.toNat from q), if_pos (show p = P.toInt.toNat from q), z_ioT (by omega) (by omega), z_ioT (by omega) (by omega), hu.1, hu.2, hd1, z_io hd2]
        exact ⟨⟨y, rfl⟩, rfl, rfl, ⟨by omega, f2⟩, ⟨f3, by omega⟩⟩
      · rw [if_neg q, if_neg (show ¬ p = P.toInt.toNat from q), if_neg (show ¬ p = P.toInt.toNat from q)]
        exact a2 p (by omega)
  · rw [z_ckPX hk hb hp hf] at g1
    omega
theorem z_brGL {t : Nat → Int32} {n : Int} {P0 L0 k k2 P L L2 : Int32} {G0 G : Nat → ZQ} (h : zBrG t n P0 L0 G0 k P L G) (hk : k.toInt < n) (h0 : 0 ≤ k.toInt) (hb : zBg t n k.toInt) (hp : zAt t n k.toInt ≠ 112) (ha : L.toInt < 12 → 0 ≤ zAt t n (k.toInt + 1) - 48 → zAt t n (k.toInt + 1) - 48 < P.toInt → L2.toInt = L.toInt + 1) (hk2 : k2.toInt = k.toInt + 1) : zBrG t n P0 L0 G0 k2 P L2 G := by
  intro h1 h2
  obtain ⟨g1, g2⟩ := h h1 h2
  have hok := z_okBg h1 h0 hk hb
  have hdg : zDg t n (k.toInt + 1) := by
    rcases hok with ⟨q, -⟩ | ⟨-, q, -⟩
    · exact absurd q hp
    · exact q
  by_cases hf : zFtL t n k.toInt P.toInt L.toInt
  · have e1 := ha hf.1 (by have := hdg.1; omega) hf.2.1
    rw [hk2]
    refine ⟨by rw [e1, ← z_ckL hk hb hp hf]; exact g1, fun S a b c => ?_⟩
    obtain ⟨S2, ⟨a1, a1b⟩, a2, a3⟩ := g2 S a b c
    refine ⟨zCm t n k.toInt S2, ?_, ?_, by rw [a3, z_brB hk hb]⟩
    · unfold zCm
      rw [if_neg hp]
      exact ⟨a1, by show S2.1.2.1 + 1 = L2.toInt; omega⟩
    · unfold zCm
      rw [if_neg hp]
      exact a2
  · rw [z_ckLX hk hb hp hf] at g1
    omega
def zPcG (t : Nat → Int32) (n : Int) (P0 L0 : Int32) (G0 : Nat → ZQ) (P : Int32) (G : Nat → ZQ) : Prop :=
  ((zFwK t n 0 0 0 ≠ -9 ∨ zCkK t n 0 P0.toInt L0.toInt ≠ -9) ∧ P = P0 ∧ G = G0) ∨
  (zFwK t n 0 0 0 = -9 ∧ zCkK t n 0 P0.toInt L0.toInt = -9 ∧ ∀ S : ZS, S.1.1 = P0.toInt → S.1.2.1 = L0.toInt → zKn P0.toInt G0 (S.2 0) (S.2 1) → zKn P.toInt G ((zBrK t n 0 S).2 0) ((zBrK t n 0 S).2 1))
theorem z_brGE {t : Nat → Int32} {n : Int} {P0 L0 k P L : Int32} {G0 G : Nat → ZQ} (h : zBrG t n P0 L0 G0 k P L G) (hk : n ≤ k.toInt) : zFwK t n 0 0 0 = -9 → zCkK t n 0 P0.toInt L0.toInt = -9 → ∀ S : ZS, S.1.1 = P0.toInt → S.1.2.1 = L0.toInt → zKn P0.toInt G0 (S.2 0) (S.2 1) → zKn P.toInt G ((zBrK t n 0 S).2 0) ((zBrK t n 0 S).2 1) := by
  intro h1 h2 S a b c
  obtain ⟨-, g2⟩ := h h1 h2
  obtain ⟨S2, -, a2, a3⟩ := g2 S a b c
  rw [a3, z_brE hk]
  exact a2
theorem z_pgF {t : Nat → Int32} {n f : Int} {P0 L0 : Int32} {G0 : Nat → ZQ} (h : zFfP t n P0.toInt L0.toInt f) (hf : f ≠ 0) : zPcG t n P0 L0 G0 P0 G0 := by
  refine Or.inl ⟨?_, rfl, rfl⟩
  rcases h with ⟨a, -⟩ | ⟨-, a, -⟩ | ⟨-, -, a⟩
  · exact Or.inl a
  · exact Or.inr a
  · exact absurd a hf
theorem z_pgG {t : Nat → Int32} {n f : Int} {P0 L0 P : Int32} {G0 G : Nat → ZQ} (h : zFfP t n P0.toInt L0.toInt f) (hf : f = 0) (hb : zFwK t n 0 0 0 = -9 → zCkK t n 0 P0.toInt L0.toInt = -9 → ∀ S : ZS, S.1.1 = P0.toInt → S.1.2.1 = L0.toInt → zKn P0.toInt G0 (S.2 0) (S.2 1) → zKn P.toInt G ((zBrK t n 0 S).2 0) ((zBrK t n 0 S).2 1)) : zPcG t n P0 L0 G0 P G := by
  rcases h with ⟨a, b, c⟩ | ⟨-, a, b, c⟩ | ⟨a, b, -⟩
  · omega
  · omega
  · exact Or.inr ⟨a, b, hb a b⟩
theorem z_pgEq {t : Nat → Int32} {n : Int} {P0 L0 P : Int32} {G0 G : Nat → ZQ} {Q0 M0 r2 Q M : Int32} {a1 a2 a3 a4 a5 a6 a7 a8 b1 b2 b3 b4 b5 b6 b7 b8 : Nat → Int32} (h : zPcG t n P0 L0 G0 P G) (h2 : zPcM t n Q0 M0 a1 a2 a3 a4 a5 a6 a7 a8 r2 Q M b1 b2 b3 b4 b5 b6 b7 b8) (hP : P0.toInt = Q0.toInt) (hL : L0.toInt = M0.toInt) (hr : zKn P0.toInt G0 a1 a2) : zKn P.toInt G b1 b2 := by
  obtain rfl := z_i32 hP
  obtain rfl := z_i32 hL
  rcases h with ⟨x1, rfl, rfl⟩ | ⟨x1, x2, x3⟩
  · rcases h2 with ⟨-, -, -, -, rfl, rfl, -⟩ | ⟨-, -, -, -, -, rfl, rfl, -⟩ | ⟨y1, y2, -⟩
    · exact hr
    · exact hr
    · rcases x1 with x1 | x1
      · exact absurd y1 x1
      · exact absurd y2 x1
  · rcases h2 with ⟨y1, -⟩ | ⟨-, y2, -⟩ | ⟨-, -, y3⟩
    · exact absurd x1 y1
    · exact absurd x2 y2
    · have w := x3 (zSt a1 a2 a3 a4 a5 a6 a7 a8 P0.toInt L0.toInt 0) rfl rfl hr
      rw [y3] at w
      exact w
/-- the image's players -/
def zCpq (k : Int) (g0 go g : Nat → ZQ) : Prop := ∀ j : Nat, g j = if (j : Int) < k then go j else g0 j
theorem z_cpq0 {k : Int} {g0 go : Nat → ZQ} (h : k = 0) : zCpq k g0 go g0 := fun j => by rw [if_neg (by omega)]
theorem z_cpqS {k k2 : Int} {g0 go g g2 : Nat → ZQ} {i : Int32} {x : ZQ} (h : zCpq k g0 go g) (e : zUq g i.toNatClampNeg x = g2) (hx : x = go i.toNatClampNeg) (hi : i.toInt = k) (h0 : 0 ≤ k) (h2 : k2 = k + 1) : zCpq k2 g0 go g2 := fun j => by
  have hcl := z_cl (show 0 ≤ i.toInt by omega)
  rw [← e]
  unfold zUq
  by_cases c : j = i.toNatClampNeg
  · rw [if_pos c, if_pos (by omega), hx, c]
  · rw [if_neg c, h j]
    by_cases d : (j : Int) < k
    · rw [if_pos d, if_pos (by omega)]
    · rw [if_neg d, if_neg (by omega)]
theorem z_cpqE {k k2 : Int} {g0 go g : Nat → ZQ} (h : zCpq k g0 go g) (e : k = k2) : zCpq k2 g0 go g := e ▸ h
def zKi (h P : Int32) (G : Nat → ZQ) (K : Nat → Int32) : Prop := h.toInt = 1 → zKn P.toInt G (fun j => K j) (fun j => K (5 + j))
theorem z_ki0 {P : Int32} {G : Nat → ZQ} {K : Nat → Int32} : zKi 0 P G K := fun h => absurd h (by decide)
theorem z_knX {P : Int} {G G2 : Nat → ZQ} {kd fg kd2 fg2 : Nat → Int32} (h : zKn P G kd fg) (hP : P ≤ 5) (hg : ∀ j : Nat, (j : Int) < 5 → G2 j = G j) (h1 : zQa 5 kd kd2) (h2 : zQa 5 fg fg2) : zKn P G2 kd2 fg2 := fun p hp => by
  rw [hg p (by omega), h1 p (by omega), h2 p (by omega)]
  exact h p hp
theorem z_kiT {h P : Int32} {G : Nat → ZQ} {K K2 : Nat → Int32} (i : zKi h P G K) (hP : P.toInt ≤ 5) (k : zKK K K2) : zKi h P G K2 := fun h1 => z_knX (i h1) hP (fun _ _ => rfl) (fun j hj => k j (by omega)) (fun j hj => k (5 + j) (by omega))
theorem z_kiI {P : Int32} {G G0 G2 : Nat → ZQ} {K2 a1 a2 a3 a4 a5 a6 a7 a8 : Nat → Int32} {i1 i2 i3 i4 i5 i6 i7 : Int32} (h : zKn P.toInt G a1 a2) (hP : P.toInt ≤ 5) (hg : zCpq 5 G0 G G2) (hk : ∀ j : Nat, j < 130 → K2 j = zEnc a1 a2 a3 a4 a5 a6 a7 a8 i1 i2 i3 i4 i5 i6 i7 j) : zKi 1 P G2 K2 := fun _ => z_knX h hP (fun j hj => by rw [hg j, if_pos hj]) (fun j hj => by
    have w := z_encA1 (a1 := a1) (a2 := a2) (a3 := a3) (a4 := a4) (a5 := a5) (a6 := a6) (a7 := a7) (a8 := a8) (i1 := i1) (i2 := i2) (i3 := i3) (i4 := i4) (i5 := i5) (i6 := i6) (i7 := i7) j hj
    rw [Nat.zero_add] at w
    exact (hk j (by omega)).trans w.symm) (fun j hj => (hk (5 + j) (by omega)).trans (z_encA2 j hj).symm)
def zRsG (h : Int32) (G G0 G2 : Nat → ZQ) : Prop := (h.toInt = 0 ∧ G2 = G) ∨ (h.toInt = 1 ∧ zCpq 5 G G0 G2)
theorem z_kiR {h h2 P L O P0 L0 Q0 P2 L2 O2 r q : Int32} {G G0 G2 : Nat → ZQ} {sp cu sp0 cu0 sp2 cu2 K a1 a2 a3 a4 a5 a6 a7 a8 b1 b2 b3 b4 b5 b6 b7 b8 : Nat → Int32} {i1 i2 i3 i4 i5 i6 i7 r1 r2 r3 r4 r5 r6 r7 : Int32} (hC : zRsC h P L O P0 L0 Q0 sp cu sp0 cu0 P2 L2 O2 r sp2 cu2) (hD : zRsG h G G0 G2) (hM : zRsM h2 K a1 a2 a3 a4 a5 a6 a7 a8 i1 i2 i3 i4 i5 i6 i7 b1 b2 b3 b4 b5 b6 b7 b8 r1 r2 r3 r4 r5 r6 r7 q) (hi : zKi h P0 G0 K) (eh : h.toInt = h2.toInt) (hP : P0.toInt ≤ 5) (hr : zKn P.toInt G a1 a2) : zKn P2.toInt G2 b1 b2 := by
  rcases hC with ⟨x1, x2, rfl, -⟩ | ⟨x1, x2, rfl, -⟩
  · rcases hD with ⟨-, rfl⟩ | ⟨y, -⟩
    · rcases hM with ⟨y1, y2, rfl, rfl, -⟩ | ⟨y1, -⟩
      · exact hr
      · omega
    · omega
  · rcases hD with ⟨y, -⟩ | ⟨-, hg⟩
    · omega
    · rcases hM with ⟨y1, -⟩ | ⟨y1, y2, y3, -⟩
      · omega
      · refine z_knX (hi x1) hP (fun j hj => by rw [hg j, if_pos hj]) (fun j hj => ?_) (fun j hj => (z_encA2 j hj).trans (y3 (5 + j) (by omega)).symm)
        have w := z_encA1 (a1 := b1) (a2 := b2) (a3 := b3) (a4 := b4) (a5 := b5) (a6 := b6) (a7 := b7) (a8 := b8) (i1 := r1) (i2 := r2) (i3 := r3) (i4 := r4) (i5 := r5) (i6 := r6) (i7 := r7) j hj
        rw [Nat.zero_add] at w
        exact w.trans (y3 j (by omega)).symm
theorem z_zq {q : ZQ} {o : Option Nat} (h : q.1 = o) : (o, q.2.1, q.2.2) = q := by rw [← h]
theorem z_pyRe {P L ki : Int32} {sp cu ow on tx sz kd fg : Nat → Int32} {G : Nat → ZQ} {S : ZS} (h : zRe P L ki sp cu ow on tx sz S) (hL : L.toInt ≤ 12) (hk : zKn P.toInt G kd fg) : zPy P.toInt L.toInt G tx sz on cu (S.2 7) (S.2 4) kd fg := ⟨z_reTS h hL, hk, fun l hl => ⟨(h.2.2.2.2.2.2 l hl).1, (h.2.2.2.2.2.2 l hl).2.2.1⟩⟩
def zFoC (P L : Int) (G : Nat → ZQ) (tx sz on cu ow : Nat → Int32) (p : Nat) (r : Int32) : Prop := ∀ wd mn kd fg wh : Nat → Int32, zPy P L G tx sz on cu wd mn kd fg → zOwA P L ow wh → (∀ l : Nat, (l : Int) < L → wh l = on l) → zFlP L (zWf wd (5 * p)) (mn p).toInt wd mn kd wh (zHe kd fg on cu 0) L r
def zFoP (L : Int) (w : Prop) (p r : Int) : Prop := ((p < 0 ∨ L ≤ p) ∧ r = -1) ∨ (0 ≤ p ∧ p < L ∧ w)
theorem z_heE {P L : Int} {kd fg wh on cu : Nat → Int32} {j : Nat} (ho : zOk2 P L on cu) (hw : ∀ l : Nat, (l : Int) < L → wh l = on l) (hj : (j : Int) < L) : zHe kd fg on cu 0 j = zHd kd fg (cu j).toInt (wh j).toInt.toNat := by
  unfold zHe
  have c := (ho j hj).2
  have e : zMn ((cu j).toInt + 0) 4 = (cu j).toInt := by
    unfold zMn
    split <;> omega
  rw [e, hw j hj]
theorem z_deN2 {wd mn : Nat → Int32} {i : Int} {j : Nat} {h : Int} (hj : 1 ≤ j) : zDe wd mn i (j : Int) h ↔ zEnds (zWf wd (5 * i.toNat)) (mn i.toNat).toInt (zWf wd (5 * (j - 1))) (mn (j - 1)).toInt h := by
  unfold zDe
  rw [show ((j : Int) - 1).toNat = j - 1 by omega]
theorem z_boolE {a b : Bool} (h : a = true ↔ b = true) : a = b := by
  cases a <;> cases b
  · rfl
  · exact absurd (h.mpr rfl) (by decide)
  · exact absurd (h.mp rfl) (by decide)
  · rfl
theorem z_foEq {P L M jk jw r r2 p : Int32} {G : Nat → ZQ} {tx sz on cu ow wd mn kd fg wh : Nat → Int32} (hC : zFoC P.toInt L.toInt G tx sz on cu ow p.toNatClampNeg r) (hM : zBq (zFq wd mn jk jw kd fg wh cu p.toInt) M.toInt r2) (H : zPy P.toInt L.toInt G tx sz on cu wd mn kd fg) (hA : zOwA P.toInt L.toInt ow wh) (hw : ∀ l : Nat, (l : Int) < L.toInt → wh l = on l) (hL : L.toInt = M.toInt) (hj : jk.toInt = -9) (p0 : 0 ≤ p.toInt) : r = r2 := by
  have a := hC wd mn kd fg wh H hA hw
  refine z_b12E a.1 hM.1 fun i hi => z_boolE ?_
  rw [a.2 i hi, hM.2 i hi, ← hL]
  have key : 1 ≤ i → (i : Int) < L.toInt → (zEnds (zWf wd (5 * p.toNatClampNeg)) (mn p.toNatClampNeg).toInt (zWf wd (5 * (i - 1))) (mn (i - 1)).toInt (zHe kd fg on cu 0 i) ↔ zIcR wd mn jk jw kd fg wh cu p.toInt (i : Int)) := fun i1 i2 => by
    unfold zIcR
    rw [z_heE H.2.2 hw i2, z_deJ hj p0, z_deN2 i1]
    exact ⟨fun q => ⟨by omega, q⟩, fun q => q.2⟩
  exact ⟨fun q => ⟨q.1, q.2.1, q.2.2.1, (key q.1 q.2.1).mp q.2.2.2⟩, fun q => ⟨q.1, q.2.1, q.2.2.1, (key q.1 q.2.1).mpr q.2.2.2⟩⟩
theorem z_foLaw {P L ki M jk jw p r r2 : Int32} {G : Nat → ZQ} {sp cu ow on tx sz a1 a2 a3 a4 a5 a6 a7 a8 : Nat → Int32} {i1 i2 i3 : Int} (hC : zFoP L.toInt (zFoC P.toInt L.toInt G tx sz on cu ow p.toNatClampNeg r) p.toInt r.toInt) (hM : zFoP M.toInt (zBq (zFq a8 a5 jk jw a1 a2 a4 a6 p.toInt) M.toInt r2) p.toInt r2.toInt) (hr : zRe P L ki sp cu ow on tx sz (zSt a1 a2 a3 a4 a5 a6 a7 a8 i1 i2 i3)) (hk : zKn P.toInt G a1 a2) (hc : cu = a6) (hL : L.toInt = M.toInt) (hL2 : L.toInt ≤ 12) (hj : jk.toInt = -9) : r.toInt = r2.toInt := by
  subst hc
  rcases hC with ⟨a, b⟩ | ⟨a, b, c⟩ <;> rcases hM with ⟨d, e⟩ | ⟨d, e, f⟩
  · omega
  · omega
  · omega
  · rw [z_foEq c f (z_pyRe hr hL2 hk) (z_reOw hr) (fun l hl => (hr.2.2.1 l (by omega)).2.1) hL hj a]

