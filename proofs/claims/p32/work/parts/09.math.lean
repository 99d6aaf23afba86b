/-! players of kinds -/
def zKd (c : Nat) : Int := if c = 0 then 1 else if c = 8 then 2 else if c = 1 then 3 else if c = 10 then 4 else if c = 3 then 5 else 0
theorem z_kdC {k : Int} {c : Nat} (h0 : 0 ≤ k) (h5 : k ≤ 5) (e : zCi k = c) : k = zKd c := by
  subst e
  rcases (show k = 0 ∨ k = 1 ∨ k = 2 ∨ k = 3 ∨ k = 4 ∨ k = 5 by omega) with rfl | rfl | rfl | rfl | rfl | rfl <;> rfl
def zKn (P : Int) (G : Nat → ZQ) (kd fg : Nat → Int32) : Prop := ∀ p : Nat, (p : Int) < P → (∃ y, (G p).1 = some y) ∧ (G p).2.1 = zCi (kd p).toInt ∧ (G p).2.2 = fg p ∧ (0 ≤ (kd p).toInt ∧ (kd p).toInt ≤ 5) ∧ (1 ≤ (fg p).toInt ∧ (fg p).toInt ≤ 9)
theorem z_knK {P : Int} {G : Nat → ZQ} {kd fg : Nat → Int32} {p : Int32} {c : Nat} (hK : zKn P G kd fg) (p0 : 0 ≤ p.toInt) (pP : p.toInt < P) (e : (G p.toNatClampNeg).2.1 = c) : (kd p.toNatClampNeg).toInt = zKd c := by
  obtain ⟨-, h2, -, h4, -⟩ := hK p.toNatClampNeg (by have := z_cl p0; omega)
  exact z_kdC h4.1 h4.2 (h2.symm.trans e)
theorem z_knF {P : Int} {G : Nat → ZQ} {kd fg : Nat → Int32} {p : Int32} (hK : zKn P G kd fg) (p0 : 0 ≤ p.toInt) (pP : p.toInt < P) : (G p.toNatClampNeg).2.2 = fg p.toNatClampNeg := (hK p.toNatClampNeg (by have := z_cl p0; omega)).2.2.1
theorem z_knN {P : Int} {G : Nat → ZQ} {kd fg : Nat → Int32} {p : Int32} (hK : zKn P G kd fg) (p0 : 0 ≤ p.toInt) (pP : p.toInt < P) (e : (G p.toNatClampNeg).1 = none) : False := by
  obtain ⟨⟨y, h⟩, -⟩ := hK p.toNatClampNeg (by have := z_cl p0; omega)
  rw [e] at h
  cases h
/-- what is known of one player -/
def zPr (P : Int) (G : Nat → ZQ) (p : Int) (b : Prop) (w : (Nat → Int32) → (Nat → Int32) → Prop) : Prop := ((p < 0 ∨ P ≤ p) ∧ b) ∨ (0 ≤ p ∧ p < P ∧ ∀ kd fg : Nat → Int32, zKn P G kd fg → w kd fg)
def zHs (kd sp : Nat → Int32) (p : Nat) : Int32 := if (kd p).toInt = 2 then 2 * sp p + 1 else sp p
theorem z_hsQ {kd sp : Nat → Int32} {p : Nat} {q r : Int32} (hk : (kd p).toInt = 2) (hr : r = 2 * q + 1) (hq : q = sp p) : r = zHs kd sp p := by
  unfold zHs
  rw [if_pos hk, hr, hq]
theorem z_hsN {kd sp : Nat → Int32} {p : Nat} {q r : Int32} {c : Int} (hk : (kd p).toInt = c) (hc : c ≠ 2) (hr : r = q) (hq : q = sp p) : r = zHs kd sp p := by
  unfold zHs
  rw [if_neg (by omega), hr, hq]
/-- how much of a cue he hears -/
def zHd (kd fg : Nat → Int32) (w : Int) (p : Nat) : Int := if (kd p).toInt = 3 ∨ (kd p).toInt = 4 then zMn w (fg p).toInt else w
theorem z_hdD {kd fg : Nat → Int32} {w r : Int} {p : Nat} {v : Int32} (hk : (kd p).toInt = 3 ∨ (kd p).toInt = 4) (hv : fg p = v) (hr : r = zMn w v.toInt) : r = zHd kd fg w p := by
  unfold zHd
  rw [if_pos hk, hv, hr]
theorem z_hdN {kd fg : Nat → Int32} {w r c : Int} {p : Nat} (hk : (kd p).toInt = c) (h3 : c ≠ 3) (h4 : c ≠ 4) (hr : r = w) : r = zHd kd fg w p := by
  unfold zHd
  rw [if_neg (by omega), hr]
def zHoP (P L : Int) (G : Nat → ZQ) (on : Nat → Int32) (l w r : Int32) : Prop := 0 ≤ l.toInt → l.toInt < L → 0 ≤ (on l.toNatClampNeg).toInt → (on l.toNatClampNeg).toInt < P → ∀ kd fg : Nat → Int32, zKn P G kd fg → r.toInt = zHd kd fg w.toInt (on l.toNatClampNeg).toInt.toNat
/-- which line he chooses, told by bits -/
def zNxt (o c s : Int32) (r : Int) : Prop := ∃ n : Int, zLst (o &&& (s ^^^ (-1))) n ∧ ((n ≠ -9 ∧ bt c n.toNat = true ∧ r = n) ∨ ((n = -9 ∨ bt c n.toNat = false) ∧ r = -9))
def zChB (k : Int) (o c s : Int32) (r : Int) : Prop := (k = 4 ∧ r = -9) ∨ (k = 1 ∧ zLst (o &&& c) r) ∨ (k = 5 ∧ zGst (o &&& c) r) ∨ ((k = 0 ∨ k = 2 ∨ k = 3) ∧ zNxt o c s r)
/-- the lines of those who are sick -/
def zSkL (k L : Int) (kd wh : Nat → Int32) (x : Int32) : Prop := zB12 x ∧ ∀ l : Nat, l < 12 → bt x l = decide ((l : Int) < L ∧ 0 ≤ (wh l).toInt ∧ (wh l).toInt < k ∧ (kd (wh l).toInt.toNat).toInt = 4)
theorem z_sk0 {k L : Int} {kd wh : Nat → Int32} (h : k = 0) : zSkL k L kd wh 0 := ⟨z_b12Z, fun l _ => by rw [b_0]; exact (decide_eq_false (by omega)).symm⟩
theorem z_b12A {x y : Int32} (hx : zB12 x) (hy : zB12 y) : zB12 (x ||| y) := fun i h1 h2 => by rw [b_or, hx i h1 h2, hy i h1 h2]; rfl
theorem z_skY {k k2 L : Int} {kd wh : Nat → Int32} {x y o : Int32} {p : Nat} (h : zSkL k L kd wh x) (ho : zOwL L wh k o) (hp : k = (p : Int)) (hk : (kd p).toInt = 4) (e : y = x ||| o) (h2 : k2 = k + 1) : zSkL k2 L kd wh y := by
  subst e
  refine ⟨z_b12A h.1 ho.1, fun l hl => ?_⟩
  rw [b_or, h.2 l hl, ho.2 l hl]
  by_cases c : (l : Int) < L ∧ (wh l).toInt = k
  · rw [decide_eq_true c, Bool.or_true]
    exact (decide_eq_true ⟨c.1, by omega, by omega, by rw [show (wh l).toInt.toNat = p by omega]; exact hk⟩).symm
  · rw [decide_eq_false c, Bool.or_false]
    exact decide_eq_decide.mpr ⟨fun q => ⟨q.1, q.2.1, by omega, q.2.2.2⟩, fun q => ⟨q.1, q.2.1, by
      have q1 := q.1
      have q3 := q.2.2.1
      omega, q.2.2.2⟩⟩
theorem z_skN {k k2 L c : Int} {kd wh : Nat → Int32} {x : Int32} {p : Nat} (h : zSkL k L kd wh x) (hp : k = (p : Int)) (hk : (kd p).toInt = c) (hc : c ≠ 4) (h2 : k2 = k + 1) : zSkL k2 L kd wh x := by
  refine ⟨h.1, fun l hl => ?_⟩
  rw [h.2 l hl]
  refine decide_eq_decide.mpr ⟨fun q => ⟨q.1, q.2.1, by omega, q.2.2.2⟩, fun q => ⟨q.1, q.2.1, ?_, q.2.2.2⟩⟩
  obtain ⟨q1, q2, q3, q4⟩ := q
  by_cases w : (wh l).toInt = k
  · rw [show (wh l).toInt.toNat = p by omega] at q4
    omega
  · omega
def zSkI (P L : Int) (G : Nat → ZQ) (ow : Nat → Int32) (k : Int) (x : Int32) : Prop := ∀ kd fg wh : Nat → Int32, zKn P G kd fg → zOwA P L ow wh → zSkL k L kd wh x
theorem z_skI0 {P L k : Int} {G : Nat → ZQ} {ow : Nat → Int32} (h : k = 0) : zSkI P L G ow k 0 := fun _ _ _ _ _ => z_sk0 h
theorem z_skIY {P L : Int} {G : Nat → ZQ} {ow : Nat → Int32} {x y o p p2 : Int32} (h : zSkI P L G ow p.toInt x) (p0 : 0 ≤ p.toInt) (pP : p.toInt < P) (e : (G p.toNatClampNeg).2.1 = 10) (go : o = ow p.toNatClampNeg) (ey : y = x ||| o) (h2 : p2.toInt = p.toInt + 1) : zSkI P L G ow p2.toInt y := fun kd fg wh hK hA => by
  have hc := z_cl p0
  refine z_skY (p := p.toNatClampNeg) (h kd fg wh hK hA) ?_ hc.symm (z_knK hK p0 pP e) ey h2
  have w := hA p.toNatClampNeg (by omega)
  rw [hc, ← go] at w
  exact w
theorem z_skIN {P L : Int} {G : Nat → ZQ} {ow : Nat → Int32} {x p p2 : Int32} {c : Nat} (h : zSkI P L G ow p.toInt x) (p0 : 0 ≤ p.toInt) (pP : p.toInt < P) (e : (G p.toNatClampNeg).2.1 = c) (hc : zKd c ≠ 4) (h2 : p2.toInt = p.toInt + 1) : zSkI P L G ow p2.toInt x := fun kd fg wh hK hA => z_skN (p := p.toNatClampNeg) (h kd fg wh hK hA) (z_cl p0).symm (z_knK hK p0 pP e) hc h2
theorem z_skIX {P L : Int} {G : Nat → ZQ} {ow : Nat → Int32} {x p p2 : Int32} (p0 : 0 ≤ p.toInt) (pP : p.toInt < P) (e : (G p.toNatClampNeg).1 = none) : zSkI P L G ow p2.toInt x := fun _ _ _ hK _ => (z_knN hK p0 pP e).elim
theorem z_skE {P L k : Int} {G : Nat → ZQ} {ow : Nat → Int32} {x : Int32} (h : zSkI P L G ow k x) (e : k = P) : zSkI P L G ow P x := e ▸ h
/-- the cues of a play: what each player hears of line j's cue -/
def zHe (kd fg wh cu : Nat → Int32) (more : Int) (j : Nat) : Int := zHd kd fg (zMn ((cu j).toInt + more) 4) (wh j).toInt.toNat
/-- the lines cued by words W -/
def zCbP (L : Int) (W : Nat → Int) (n : Int) (wd mn : Nat → Int32) (he : Nat → Int) (k : Int) (x : Int32) : Prop := zB12 x ∧ ∀ j : Nat, j < 12 → (bt x j = true ↔ (1 ≤ j ∧ (j : Int) < k ∧ zEnds W n (zWf wd (5 * (j - 1))) (mn (j - 1)).toInt (he j)))
theorem z_cb0 {L k n : Int} {W : Nat → Int} {wd mn : Nat → Int32} {he : Nat → Int} (h : k = 1) : zCbP L W n wd mn he k 0 := ⟨z_b12Z, fun j _ => by rw [b_0]; exact ⟨fun q => absurd q (by decide), fun q => by omega⟩⟩
theorem z_cbS {L n : Int} {W : Nat → Int} {wd mn : Nat → Int32} {he : Nat → Int} {x y k k2 : Int32} (h : zCbP L W n wd mn he k.toInt x) (k1 : 1 ≤ k.toInt) (k12 : k.toInt < 12) (hk : k2.toInt = k.toInt + 1) (s : (zEnds W n (zWf wd (5 * (k.toInt.toNat - 1))) (mn (k.toInt.toNat - 1)).toInt (he k.toInt.toNat) ∧ ∃ b : Int32, b = (1 : Int32) <<< (k &&& 31) ∧ y = x ||| b) ∨ (¬ zEnds W n (zWf wd (5 * (k.toInt.toNat - 1))) (mn (k.toInt.toNat - 1)).toInt (he k.toInt.toNat) ∧ y = x)) : zCbP L W n wd mn he k2.toInt y := by
  rcases s with ⟨a, b, rfl, rfl⟩ | ⟨a, rfl⟩
  · refine ⟨z_b12O h.1 (by omega) k12, fun j hj => ?_⟩
    rw [z_btO (by omega) k12 (by omega), Bool.or_eq_true, h.2 j hj]
    by_cases c : j = k.toInt.toNat
    · rw [decide_eq_true c]
      exact ⟨fun _ => ⟨by omega, by omega, by rw [c]; exact a⟩, fun _ => Or.inr rfl⟩
    · rw [decide_eq_false c]
      exact ⟨fun q => by
        rcases q with q | q
        · exact ⟨q.1, by omega, q.2.2⟩
        · exact absurd q (by decide), fun q => Or.inl ⟨q.1, by have := q.2.1; omega, q.2.2⟩⟩
  · refine ⟨h.1, fun j hj => ?_⟩
    rw [h.2 j hj]
    exact ⟨fun q => ⟨q.1, by have := q.2.1; omega, q.2.2⟩, fun q => ⟨q.1, by
      by_cases c : j = k.toInt.toNat
      · exact absurd (by rw [← c]; exact q.2.2) a
      · have := q.2.1; omega, q.2.2⟩⟩
theorem z_btT {b : Bool} {r : Int} (h : (r = 1 ∧ b = true) ∨ (r = 0 ∧ b = false)) (hr : r = 1) : b = true := by
  rcases h with h | h
  · exact h.2
  · omega
theorem z_btF {b : Bool} {r : Int} (h : (r = 1 ∧ b = true) ∨ (r = 0 ∧ b = false)) (hr : r ≠ 1) : b = false := by
  rcases h with h | h
  · omega
  · exact h.2
theorem z_lsR {x : Int32} {r : Int} (h : zLst x r) (hr : r ≠ -9) : 0 ≤ r ∧ r < 12 := by
  rcases h with ⟨a, -⟩ | ⟨a, b, -⟩
  · exact absurd a hr
  · exact ⟨a, b⟩
theorem z_chE {kd ow : Nat → Int32} {p : Nat} {c r : Int} {y cu sd : Int32} (hk : (kd p).toInt = c) (ho : y = ow p) (h : zChB c y cu sd r) : zChB (kd p).toInt (ow p) cu sd r := by
  rw [hk, ← ho]
  exact h
/-! the net: what each line cues -/
def zOk2 (P L : Int) (on cu : Nat → Int32) : Prop := ∀ l : Nat, (l : Int) < L → (0 ≤ (on l).toInt ∧ (on l).toInt < P) ∧ 1 ≤ (cu l).toInt ∧ (cu l).toInt ≤ 4
/-- what is known where the class reads its play -/
def zPy (P L : Int) (G : Nat → ZQ) (tx sz on cu wd mn kd fg : Nat → Int32) : Prop := zTS L tx sz wd mn ∧ zKn P G kd fg ∧ zOk2 P L on cu
def zCbI (P L : Int) (G : Nat → ZQ) (tx sz on cu : Nat → Int32) (x n m : Int32) (k : Int) (b : Int32) : Prop := ∀ (W : Nat → Int) (wd mn kd fg : Nat → Int32), zPy P L G tx sz on cu wd mn kd fg → x.toInt = zTx W n.toInt.toNat → 0 ≤ n.toInt → (∀ k : Nat, (k : Int) < n.toInt → 0 ≤ W k ∧ W k < 32) → 0 ≤ m.toInt → m.toInt ≤ 3 → zCbP L W n.toInt wd mn (zHe kd fg on cu m.toInt) k b
theorem z_cbI0 {P L k : Int} {G : Nat → ZQ} {tx sz on cu : Nat → Int32} {x n m : Int32} (h : k = 1) : zCbI P L G tx sz on cu x n m k 0 := fun _ _ _ _ _ _ _ _ _ _ _ => z_cb0 h
theorem z_cbIS {P L x n m k k2 yc ya ym yh r b b2 : Int32} {G : Nat → ZQ} {tx sz on cu : Nat → Int32} (h : zCbI P.toInt L.toInt G tx sz on cu x n m k.toInt b) (k1 : 1 ≤ k.toInt) (kL : k.toInt < L.toInt) (hL : L.toInt ≤ 12) (hP : P.toInt ≤ 5) (hk : k2.toInt = k.toInt + 1) (gc : yc.toInt = (cu k.toNatClampNeg).toInt) (ea : ya = yc + m) (m0 : ym.toInt ≤ ya.toInt) (m1 : ym.toInt ≤ 4) (m2 : ym.toInt = ya.toInt ∨ ym.toInt = 4) (hh : zHoP P.toInt L.toInt G on k ym yh) (he : zEaP x n k yh L tx sz r) (s : (r.toInt ≠ 0 ∧ ∃ bb : Int32, bb = (1 : Int32) <<< (k &&& 31) ∧ b2 = b ||| bb) ∨ (r.toInt = 0 ∧ b2 = b)) : zCbI P.toInt L.toInt G tx sz on cu x n m k2.toInt b2 := by
  intro W wd mn kd fg H a1 a2 a3 d0 d3
  obtain ⟨T, K, O⟩ := id H
  have hc := z_cl (show 0 ≤ k.toInt by omega)
  obtain ⟨⟨o1, o2⟩, o3, o4⟩ := O k.toNatClampNeg (by omega)
  have ya2 : ya.toInt = yc.toInt + m.toInt := by rw [ea]; exact z_add rfl rfl (by omega) (by omega)
  have em : ym.toInt = zMn ((cu k.toNatClampNeg).toInt + m.toInt) 4 := by
    have w := z_mnE m0 m1 m2
    rw [w, ya2, gc]
  have hm := z_mnL ((cu k.toNatClampNeg).toInt + m.toInt) 4
  have eh : yh.toInt = zHe kd fg on cu m.toInt k.toInt.toNat := by
    unfold zHe
    have w := hh (by omega) kL o1 o2 kd fg K
    rw [em] at w
    exact w
  have hh0 : 0 ≤ yh.toInt := by
    have fgp := (K (on k.toNatClampNeg).toInt.toNat (by omega)).2.2.2.2
    have w := hh (by omega) kL o1 o2 kd fg K
    rw [w]
    unfold zHd
    split
    · have q := z_mnL ym.toInt (fg (on k.toNatClampNeg).toInt.toNat).toInt
      omega
    · omega
  obtain ⟨t1, t2, t3, t4⟩ := T (k.toInt - 1).toNat (by omega)
  rcases he with ⟨he, -⟩ | ⟨-, -, he⟩
  · omega
  · have key := he W (zWf wd (5 * (k.toInt - 1).toNat)) hh0 a2 (by omega) t2.2 a1 t3 a3 (fun k hk => ⟨(t4 k hk).1, Int.lt_of_le_of_lt (t4 k hk).2 (by decide)⟩)
    refine z_cbS (h W wd mn kd fg H a1 a2 a3 d0 d3) k1 (by omega) hk ?_
    rw [show k.toInt.toNat - 1 = (k.toInt - 1).toNat by omega, t1, ← eh]
    rcases key with ⟨q1, q2⟩ | ⟨q1, q2⟩ <;> rcases s with ⟨s1, s2⟩ | ⟨s1, s2⟩
    · exact Or.inl ⟨q2, s2⟩
    · omega
    · exact absurd q1 s1
    · exact Or.inr ⟨q2, s2⟩
theorem z_cbE {P L k : Int} {G : Nat → ZQ} {tx sz on cu : Nat → Int32} {x n m b : Int32} (h : zCbI P L G tx sz on cu x n m k b) (e : k = L ∨ (L ≤ 1 ∧ k = 1)) : zCbI P L G tx sz on cu x n m L b := by
  rcases e with rfl | ⟨e1, rfl⟩
  · exact h
  · intro W wd mn kd fg H a1 a2 a3 d0 d3
    obtain ⟨q1, q2⟩ := h W wd mn kd fg H a1 a2 a3 d0 d3
    refine ⟨q1, fun j hj => ?_⟩
    rw [q2 j hj]
    exact ⟨fun w => by have := w.1; have := w.2.1; omega, fun w => by have := w.1; have := w.2.1; omega⟩
/-- all rows of the net below k -/
def zNt (L : Int) (wd mn : Nat → Int32) (he : Nat → Int) (af : Nat → Int32) (k : Int) : Prop := ∀ i : Nat, (i : Int) < k → zCbP L (zWf wd (5 * i)) (mn i).toInt wd mn he L (af i)
def zWe (P L : Int) (G : Nat → ZQ) (tx sz on cu : Nat → Int32) (m : Int32) (af : Nat → Int32) (k : Int) : Prop := 0 ≤ m.toInt → m.toInt ≤ 3 → ∀ wd mn kd fg : Nat → Int32, zPy P L G tx sz on cu wd mn kd fg → zNt L wd mn (zHe kd fg on cu m.toInt) af k
theorem z_we0 {P L k : Int} {G : Nat → ZQ} {tx sz on cu af : Nat → Int32} {m : Int32} (h : k = 0) : zWe P L G tx sz on cu m af k := fun _ _ _ _ _ _ _ i hi => by omega
theorem z_weS {P L : Int} {G : Nat → ZQ} {tx sz on cu af af2 : Nat → Int32} {m i i2 x n r : Int32} (h : zWe P L G tx sz on cu m af i.toInt) (i0 : 0 ≤ i.toInt) (iL : i.toInt < L) (hi : i2.toInt = i.toInt + 1) (gx : x.toInt = (tx i.toNatClampNeg).toInt) (gn : n.toInt = (sz i.toNatClampNeg).toInt) (hc : zCbI P L G tx sz on cu x n m L r) (e : upd af i.toNatClampNeg r = af2) : zWe P L G tx sz on cu m af2 i2.toInt := by
  intro d0 d3 wd mn kd fg H q hq
  have hcl := z_cl i0
  by_cases c : q = i.toNatClampNeg
  · obtain ⟨t1, t2, t3, t4⟩ := H.1 q (by omega)
    rw [← e, c, pk_us, ← c]
    have w := hc (zWf wd (5 * q)) wd mn kd fg H (by rw [gx, ← c, t3, gn, ← c]) (by rw [gn, ← c]; omega) (fun k hk => ⟨(t4 k (by rw [gn, ← c] at hk; exact hk)).1, Int.lt_of_le_of_lt (t4 k (by rw [gn, ← c] at hk; exact hk)).2 (by decide)⟩) d0 d3
    rw [gn, ← c, ← t1] at w
    exact w
  · rw [← e, pk_un c]
    exact h d0 d3 wd mn kd fg H q (by omega)
theorem z_weE {P L k : Int} {G : Nat → ZQ} {tx sz on cu af : Nat → Int32} {m : Int32} (h : zWe P L G tx sz on cu m af k) (e : L ≤ k) : zWe P L G tx sz on cu m af L := fun d0 d3 wd mn kd fg H i hi => h d0 d3 wd mn kd fg H i (by omega)
/-- without those who are sick -/
def zFlP (L : Int) (W : Nat → Int) (n : Int) (wd mn kd wh : Nat → Int32) (he : Nat → Int) (k : Int) (x : Int32) : Prop := zB12 x ∧ ∀ j : Nat, j < 12 → (bt x j = true ↔ (1 ≤ j ∧ (j : Int) < k ∧ (kd (wh j).toInt.toNat).toInt ≠ 4 ∧ zEnds W n (zWf wd (5 * (j - 1))) (mn (j - 1)).toInt (he j)))
theorem z_flA {P L n : Int} {W : Nat → Int} {wd mn kd wh cu : Nat → Int32} {he : Nat → Int} {x s t y : Int32} (h : zCbP L W n wd mn he L x) (hs : zSkL P L kd wh s) (ho : zOk2 P L wh cu) (et : t = s ^^^ (-1)) (ey : y = x &&& t) : zFlP L W n wd mn kd wh he L y := by
  refine ⟨fun i h1 h2 => by rw [ey, b_and, h.1 i h1 h2, Bool.false_and], fun j hj => ?_⟩
  rw [ey, b_and, et, b_xor, b_m1 j (by omega), Bool.and_eq_true, h.2 j hj, hs.2 j hj]
  constructor
  · rintro ⟨⟨a, b, c⟩, d⟩
    refine ⟨a, b, fun e => ?_, c⟩
    have o := (ho j b).1
    rw [decide_eq_true ⟨b, o.1, o.2, e⟩] at d
    exact absurd d (by decide)
  · rintro ⟨a, b, c, d⟩
    refine ⟨⟨a, b, d⟩, ?_⟩
    rw [decide_eq_false (fun e => c e.2.2.2)]
    rfl
theorem z_flU {L n k k2 : Int} {W W2 : Nat → Int} {wd mn kd wh : Nat → Int32} {he he2 : Nat → Int} {x y : Int32} (hx : zFlP L W n wd mn kd wh he k x) (hy : zFlP L W2 n wd mn kd wh he2 k2 y) (hk : k = k2) (h : ∀ j : Nat, 1 ≤ j → (j : Int) < k → (zEnds W n (zWf wd (5 * (j - 1))) (mn (j - 1)).toInt (he j) ↔ zEnds W2 n (zWf wd (5 * (j - 1))) (mn (j - 1)).toInt (he2 j))) : x = y := by
  subst hk
  refine z_b12E hx.1 hy.1 fun i hi => ?_
  have a := hx.2 i hi
  have b := hy.2 i hi
  have e : bt x i = true ↔ bt y i = true := by
    rw [a, b]
    exact ⟨fun q => ⟨q.1, q.2.1, q.2.2.1, (h i q.1 q.2.1).mp q.2.2.2⟩, fun q => ⟨q.1, q.2.1, q.2.2.1, (h i q.1 q.2.1).mpr q.2.2.2⟩⟩
  cases hbx : bt x i <;> cases hby : bt y i
  · rfl
  · rw [hbx, hby] at e
    exact absurd (e.mpr rfl) (by decide)
  · rw [hbx, hby] at e
    exact absurd (e.mp rfl) (by decide)
  · rfl
def zWs (P L : Int) (G : Nat → ZQ) (tx sz on cu ow : Nat → Int32) (af : Nat → Int32) (k : Int) : Prop := ∀ wd mn kd fg wh : Nat → Int32, zPy P L G tx sz on cu wd mn kd fg → zOwA P L ow wh → (∀ l : Nat, (l : Int) < L → wh l = on l) → ∀ i : Nat, (i : Int) < k → zFlP L (zWf wd (5 * i)) (mn i).toInt wd mn kd wh (zHe kd fg on cu 0) L (af i)
theorem z_ok2E {P L : Int} {on wh cu : Nat → Int32} (h : zOk2 P L on cu) (e : ∀ l : Nat, (l : Int) < L → wh l = on l) : zOk2 P L wh cu := fun l hl => by rw [e l hl]; exact h l hl
/-- rows not reached yet are those of the net; those behind are done -/
def zWsI (P L : Int) (G : Nat → ZQ) (tx sz on cu ow : Nat → Int32) (af : Nat → Int32) (k : Int) : Prop := zWs P L G tx sz on cu ow af k ∧ ∀ wd mn kd fg : Nat → Int32, zPy P L G tx sz on cu wd mn kd fg → ∀ i : Nat, k ≤ (i : Int) → (i : Int) < L → zCbP L (zWf wd (5 * i)) (mn i).toInt wd mn (zHe kd fg on cu 0) L (af i)
theorem z_wsI0 {P L k : Int} {G : Nat → ZQ} {tx sz on cu ow af : Nat → Int32} {m : Int32} (h : zWe P L G tx sz on cu m af L) (hm : m.toInt = 0) (hk : k = 0) : zWsI P L G tx sz on cu ow af k := by
  refine ⟨fun _ _ _ _ _ _ _ _ i hi => by omega, fun wd mn kd fg H i _ hi => ?_⟩
  have w := h (by omega) (by omega) wd mn kd fg H i hi
  rw [hm] at w
  exact w
theorem z_wsIS {P L : Int} {G : Nat → ZQ} {tx sz on cu ow af af2 : Nat → Int32} {i i2 a t s y : Int32} (h : zWsI P L G tx sz on cu ow af i.toInt) (hs : zSkI P L G ow P s) (et : t = s ^^^ (-1)) (i0 : 0 ≤ i.toInt) (iL : i.toInt < L) (hi : i2.toInt = i.toInt + 1) (ga : a = af i.toNatClampNeg) (ey : y = a &&& t) (e : upd af i.toNatClampNeg y = af2) : zWsI P L G tx sz on cu ow af2 i2.toInt := by
  have hcl := z_cl i0
  refine ⟨fun wd mn kd fg wh H hA hw q hq => ?_, fun wd mn kd fg H q h1 h2 => ?_⟩
  · by_cases c : q = i.toNatClampNeg
    · rw [← e, c, pk_us]
      have w := h.2 wd mn kd fg H i.toNatClampNeg (by omega) (by omega)
      rw [← ga] at w
      exact z_flA w (hs kd fg wh H.2.1 hA) (z_ok2E H.2.2 hw) et ey
    · rw [← e, pk_un c]
      exact h.1 wd mn kd fg wh H hA hw q (by omega)
  · rw [← e, pk_un (by omega)]
    exact h.2 wd mn kd fg H q (by omega) h2
theorem z_wsE {P L k : Int} {G : Nat → ZQ} {tx sz on cu ow af : Nat → Int32} (h : zWsI P L G tx sz on cu ow af k) (e : L ≤ k) : zWs P L G tx sz on cu ow af L := fun wd mn kd fg wh H hA hw i hi => h.1 wd mn kd fg wh H hA hw i (by omega)
/-! the reference: what is cued -/
def zIcR (wd mn : Nat → Int32) (jk jw : Int32) (kd fg wh cu : Nat → Int32) (i j : Int) : Prop := 1 ≤ j ∧ zDeR wd mn jk jw i j (zHd kd fg (cu j.toNat).toInt (wh j.toNat).toInt.toNat)
theorem z_icA {wd mn kd fg wh cu : Nat → Int32} {jk jw i j yp yk h : Int32} {r : Int} (q : zYn (zDeR wd mn jk jw i.toInt j.toInt h.toInt) r) (j1 : 1 ≤ j.toInt) (ep : yp = wh j.toNatClampNeg) (ek : yk = kd yp.toNatClampNeg) (s : ((yk.toInt = 3 ∨ yk.toInt = 4) ∧ ∃ yc yf : Int32, yc = cu j.toNatClampNeg ∧ yf = fg yp.toNatClampNeg ∧ h.toInt ≤ yc.toInt ∧ h.toInt ≤ yf.toInt ∧ (h.toInt = yc.toInt ∨ h.toInt = yf.toInt)) ∨ (yk.toInt ≠ 3 ∧ yk.toInt ≠ 4 ∧ h = cu j.toNatClampNeg)) : zYn (zIcR wd mn jk jw kd fg wh cu i.toInt j.toInt) r := by
  have eh : h.toInt = zHd kd fg (cu j.toInt.toNat).toInt (wh j.toInt.toNat).toInt.toNat := by
    subst ep ek
    rcases s with ⟨s1, yc, yf, s2, s3, s4, s5, s6⟩ | ⟨s1, s2, s3⟩
    · exact z_hdD s1 s3.symm (by have w := z_mnE s4 s5 s6; rw [s2] at w; exact w)
    · exact z_hdN rfl s1 s2 (by rw [s3]; rfl)
  rw [eh] at q
  rcases q with ⟨a, b⟩ | ⟨a, b⟩
  · exact Or.inl ⟨a, j1, b⟩
  · exact Or.inr ⟨a, fun w => b w.2⟩
theorem z_ic0 {wd mn kd fg wh cu : Nat → Int32} {jk jw : Int32} {i j r : Int} (hj : j = 0) (hr : r = 0) : zYn (zIcR wd mn jk jw kd fg wh cu i j) r := Or.inr ⟨hr, fun w => by have := w.1; omega⟩
/-- a set of lines behind the first, told by what is in it -/
def zBq (Q : Nat → Prop) (k : Int) (x : Int32) : Prop := zB12 x ∧ ∀ j : Nat, j < 12 → (bt x j = true ↔ (1 ≤ j ∧ (j : Int) < k ∧ Q j))
theorem z_bq0 {Q : Nat → Prop} {k : Int} (h : k = 1) : zBq Q k 0 := ⟨z_b12Z, fun j _ => by rw [b_0]; exact ⟨fun q => absurd q (by decide), fun q => by omega⟩⟩
theorem z_bqS {Q : Nat → Prop} {x y k k2 : Int32} (h : zBq Q k.toInt x) (k1 : 1 ≤ k.toInt) (k12 : k.toInt < 12) (hk : k2.toInt = k.toInt + 1) (s : (Q k.toInt.toNat ∧ ∃ b : Int32, b = (1 : Int32) <<< (k &&& 31) ∧ y = x ||| b) ∨ (¬ Q k.toInt.toNat ∧ y = x ||| 0)) : zBq Q k2.toInt y := by
  rcases s with ⟨a, b, rfl, rfl⟩ | ⟨a, rfl⟩
  · refine ⟨z_b12O h.1 (by omega) k12, fun j hj => ?_⟩
    rw [z_btO (by omega) k12 (by omega), Bool.or_eq_true, h.2 j hj]
    by_cases c : j = k.toInt.toNat
    · rw [decide_eq_true c]
      exact ⟨fun _ => ⟨by omega, by omega, by rw [c]; exact a⟩, fun _ => Or.inr rfl⟩
    · rw [decide_eq_false c]
      exact ⟨fun q => by
        rcases q with q | q
        · exact ⟨q.1, by omega, q.2.2⟩
        · exact absurd q (by decide), fun q => Or.inl ⟨q.1, by have := q.2.1; omega, q.2.2⟩⟩
  · have e : x ||| 0 = x := b_ext fun i _ => by rw [b_or, b_0, Bool.or_false]
    rw [e]
    refine ⟨h.1, fun j hj => ?_⟩
    rw [h.2 j hj]
    exact ⟨fun q => ⟨q.1, by have := q.2.1; omega, q.2.2⟩, fun q => ⟨q.1, by
      by_cases c : j = k.toInt.toNat
      · exact absurd (by rw [← c]; exact q.2.2) a
      · have := q.2.1; omega, q.2.2⟩⟩
theorem z_bqE {Q : Nat → Prop} {k L : Int} {x : Int32} (h : zBq Q k x) (e : k = L ∨ (L ≤ 1 ∧ k = 1)) : zBq Q L x := by
  rcases e with rfl | ⟨e1, rfl⟩
  · exact h
  · refine ⟨h.1, fun j hj => ?_⟩
    rw [h.2 j hj]
    exact ⟨fun w => by have := w.1; have := w.2.1; omega, fun w => by have := w.1; have := w.2.1; omega⟩
def zFq (wd mn : Nat → Int32) (jk jw : Int32) (kd fg wh cu : Nat → Int32) (i : Int) (j : Nat) : Prop := (kd (wh j).toInt.toNat).toInt ≠ 4 ∧ zIcR wd mn jk jw kd fg wh cu i (j : Int)
theorem z_fqS {wd mn kd fg wh cu : Nat → Int32} {jk jw i j j2 yp yk x y : Int32} (h : zBq (zFq wd mn jk jw kd fg wh cu i.toInt) j.toInt x) (k1 : 1 ≤ j.toInt) (k12 : j.toInt < 12) (hk : j2.toInt = j.toInt + 1) (ep : yp = wh j.toNatClampNeg) (ek : yk = kd yp.toNatClampNeg) (s : (yk.toInt ≠ 4 ∧ ∃ r : Int, zYn (zIcR wd mn jk jw kd fg wh cu i.toInt j.toInt) r ∧ r ≠ 0 ∧ ∃ b : Int32, b = (1 : Int32) <<< (j &&& 31) ∧ y = x ||| b) ∨ ((yk.toInt = 4 ∨ ∃ r : Int, zYn (zIcR wd mn jk jw kd fg wh cu i.toInt j.toInt) r ∧ r = 0) ∧ y = x ||| 0)) : zBq (zFq wd mn jk jw kd fg wh cu i.toInt) j2.toInt y := by
  have e : (kd (wh j.toInt.toNat).toInt.toNat).toInt = yk.toInt := by subst ep ek; rfl
  have ej : ((j.toInt.toNat : Nat) : Int) = j.toInt := Int.toNat_of_nonneg (by omega)
  refine z_bqS h k1 k12 hk ?_
  unfold zFq
  rw [e, ej]
  rcases s with ⟨s1, r, s2, s3, s4⟩ | ⟨s1, s4⟩
  · rcases s2 with ⟨-, s2⟩ | ⟨s2, -⟩
    · exact Or.inl ⟨⟨s1, s2⟩, s4⟩
    · exact absurd s2 s3
  · refine Or.inr ⟨fun w => ?_, s4⟩
    rcases s1 with s1 | ⟨r, s2, s3⟩
    · exact w.1 s1
    · rcases s2 with ⟨s2, -⟩ | ⟨-, s2⟩
      · omega
      · exact s2 w.2
/-! the players of a piece -/
def zBrG (t : Nat → Int32) (n : Int) (P0 L0 : Int32) (G0 : Nat → ZQ) (k P L : Int32) (G : Nat → ZQ) : Prop :=
  zFwK t n 0 0 0 = -9 → zCkK t n 0 P0.toInt L0.toInt = -9 → zCkK t n k.toInt P.toInt L.toInt = -9 ∧ ∀ S : ZS, S.1.1 = P0.toInt → S.1.2.1 = L0.toInt → zKn P0.toInt G0 (S.2 0) (S.2 1) → ∃ S2 : ZS, (S2.1.1 = P.toInt ∧ S2.1.2.1 = L.toInt) ∧ zKn P.toInt G (S2.2 0) (S2.2 1) ∧ zBrK t n 0 S = zBrK t n k.toInt S2
theorem z_brG0 {t : Nat → Int32} {n : Int} {P0 L0 : Int32} {G0 : Nat → ZQ} : zBrG t n P0 L0 G0 0 P0 L0 G0 := by
  have h0 : (0 : Int32).toInt = 0 := by decide
  intro h1 h2
  rw [h0]
  exact ⟨h2, fun S a b c => ⟨S, ⟨a, b⟩, c, rfl⟩⟩
theorem z_brGN {t : Nat → Int32} {n : Int} {P0 L0 k k2 P L : Int32} {G0 G : Nat → ZQ} (h : zBrG t n P0 L0 G0 k P L G) (hk : k.toInt < n) (hb : ¬ zBg t n k.toInt) (hk2 : k2.toInt = k.toInt + 1) : zBrG t n P0 L0 G0 k2 P L G := by
  intro h1 h2
  obtain ⟨g1, g2⟩ := h h1 h2
  rw [hk2]
  refine ⟨by rw [← z_ckN hk hb]; exact g1, fun S a b c => ?_⟩
  obtain ⟨S2, a1, a2, a3⟩ := g2 S a b c
  exact ⟨S2, a1, a2, by rw [a3, z_brN hk hb]⟩
theorem z_ioT {v : Int} (h0 : 0 ≤ v) (h1 : v ≤ 200) : (zIo v).toInt = v := by
  unfold zIo
  rw [Int32.toInt_ofInt]
  exact z_bm (by omega) (by omega)
theorem z_brGP {t : Nat → Int32} {n : Int} {P0 L0 k k2 P P2 L d1 d2 u2 : Int32} {u1 y : Nat} {G0 G G2 : Nat → ZQ} (h : zBrG t n P0 L0 G0 k P L G) (hk : k.toInt < n) (h0 : 0 ≤ k.toInt) (hP0 : 0 ≤ P.toInt) (hb : zBg t n k.toInt) (hp : zAt t n k.toInt = 112) (hd1 : d1.toInt = zAt t n (k.toInt + 1) - 48) (hd2 : d2.toInt = zAt t n (k.toInt + 2) - 48) (hu : u1 = zCi d1.toInt ∧ u2 = d2) (ha : P.toInt < 5 → P2.toInt = P.toInt + 1 ∧ G2 = zUq G P.toNatClampNeg (some y, u1, u2)) (hk2 : k2.toInt = k.toInt + 1) : zBrG t n P0 L0 G0 k2 P2 L G2 := by
  intro h1 h2
  obtain ⟨g1, g2⟩ := h h1 h2
  have hok := z_okBg h1 h0 hk hb
  have hdg : zDg t n (k.toInt + 1) ∧ zDg t n (k.toInt + 2) := by
    rcases hok with ⟨-, q1, q2, -⟩ | ⟨q, -⟩
    · exact ⟨q1, q2⟩
    · omega
  have w1 := hdg.1
  have w2 := hdg.2
  by_cases hf : zFtP t n k.toInt P.toInt
  · obtain ⟨e1, e2⟩ := ha hf.1
    obtain ⟨f1, f2, f3⟩ := hf
    rw [hk2]
    refine ⟨by rw [e1, ← z_ckP hk hb hp ⟨f1, f2, f3⟩]; exact g1, fun S a b c => ?_⟩
    obtain ⟨S2, ⟨a1, a1b⟩, a2, a3⟩ := g2 S a b c
    have hcl := z_cl hP0
    refine ⟨zCm t n k.toInt S2, ?_, ?_, by rw [a3, z_brB hk hb]⟩
    · unfold zCm
      rw [if_pos hp]
      exact ⟨by show S2.1.1 + 1 = P2.toInt; omega, a1b⟩
    · unfold zCm
      rw [if_pos hp]
      intro p hp2
      show (∃ x, (G2 p).1 = some x) ∧ (G2 p).2.1 = zCi (upd (S2.2 0) S2.1.1.toNat (zIo (zAt t n (k.toInt + 1) - 48)) p).toInt ∧ (G2 p).2.2 = upd (S2.2 1) S2.1.1.toNat (zIo (zAt t n (k.toInt + 2) - 48)) p ∧ (0 ≤ (upd (S2.2 0) S2.1.1.toNat (zIo (zAt t n (k.toInt + 1) - 48)) p).toInt ∧ (upd (S2.2 0) S2.1.1.toNat (zIo (zAt t n (k.toInt + 1) - 48)) p).toInt ≤ 5) ∧ (1 ≤ (upd (S2.2 1) S2.1.1.toNat (zIo (zAt t n (k.toInt + 2) - 48)) p).toInt ∧ (upd (S2.2 1) S2.1.1.toNat (zIo (zAt t n (k.toInt + 2) - 48)) p).toInt ≤ 9)
      rw [z_upd, z_upd, a1, e2]
      unfold zUq
      by_cases q : p = P.toNatClampNeg
      · rw [if_pos q, if_pos (show p = P.toInt.toNat from q), if_pos (show p = P.toInt.toNat from q), z_ioT (by omega) (by omega), z_ioT (by omega) (by omega), hu.1, hu.2, hd1, z_io hd2]
        exact ⟨⟨y, rfl⟩, rfl, rfl, ⟨by omega, f2⟩, ⟨f3, by omega⟩⟩
      · rw [if_neg q, if_neg (show ¬ p = P.toInt.toNat from q), if_neg (show ¬ p = P.toInt.toNat from q)]
        exact a2 p (by omega)
  · rw [z_ckPX hk hb hp hf] at g1
    omega
theorem z_brGL {t : Nat → Int32} {n : Int} {P0 L0 k k2 P L L2 : Int32} {G0 G : Nat → ZQ} (h : zBrG t n P0 L0 G0 k P L G) (hk : k.toInt < n) (h0 : 0 ≤ k.toInt) (hb : zBg t n k.toInt) (hp : zAt t n k.toInt ≠ 112) (ha : L.toInt < 12 → 0 ≤ zAt t n (k.toInt + 1) - 48 → zAt t n (k.toInt + 1) - 48 < P.toInt → L2.toInt = L.toInt + 1) (hk2 : k2.toInt = k.toInt + 1) : zBrG t n P0 L0 G0 k2 P L2 G := by
  intro h1 h2
  obtain ⟨g1, g2⟩ := h h1 h2
  have hok := z_okBg h1 h0 hk hb
  have hdg : zDg t n (k.toInt + 1) := by
    rcases hok with ⟨q, -⟩ | ⟨-, q, -⟩
    · exact absurd q hp
    · exact q
  by_cases hf : zFtL t n k.toInt P.toInt L.toInt
  · have e1 := ha hf.1 (by have := hdg.1; omega) hf.2.1
    rw [hk2]
    refine ⟨by rw [e1, ← z_ckL hk hb hp hf]; exact g1, fun S a b c => ?_⟩
    obtain ⟨S2, ⟨a1, a1b⟩, a2, a3⟩ := g2 S a b c
    refine ⟨zCm t n k.toInt S2, ?_, ?_, by rw [a3, z_brB hk hb]⟩
    · unfold zCm
      rw [if_neg hp]
      exact ⟨a1, by show S2.1.2.1 + 1 = L2.toInt; omega⟩
    · unfold zCm
      rw [if_neg hp]
      exact a2
  · rw [z_ckLX hk hb hp hf] at g1
    omega
def zPcG (t : Nat → Int32) (n : Int) (P0 L0 : Int32) (G0 : Nat → ZQ) (P : Int32) (G : Nat → ZQ) : Prop :=
  ((zFwK t n 0 0 0 ≠ -9 ∨ zCkK t n 0 P0.toInt L0.toInt ≠ -9) ∧ P = P0 ∧ G = G0) ∨
  (zFwK t n 0 0 0 = -9 ∧ zCkK t n 0 P0.toInt L0.toInt = -9 ∧ ∀ S : ZS, S.1.1 = P0.toInt → S.1.2.1 = L0.toInt → zKn P0.toInt G0 (S.2 0) (S.2 1) → zKn P.toInt G ((zBrK t n 0 S).2 0) ((zBrK t n 0 S).2 1))
theorem z_brGE {t : Nat → Int32} {n : Int} {P0 L0 k P L : Int32} {G0 G : Nat → ZQ} (h : zBrG t n P0 L0 G0 k P L G) (hk : n ≤ k.toInt) : zFwK t n 0 0 0 = -9 → zCkK t n 0 P0.toInt L0.toInt = -9 → ∀ S : ZS, S.1.1 = P0.toInt → S.1.2.1 = L0.toInt → zKn P0.toInt G0 (S.2 0) (S.2 1) → zKn P.toInt G ((zBrK t n 0 S).2 0) ((zBrK t n 0 S).2 1) := by
  intro h1 h2 S a b c
  obtain ⟨-, g2⟩ := h h1 h2
  obtain ⟨S2, -, a2, a3⟩ := g2 S a b c
  rw [a3, z_brE hk]
  exact a2
theorem z_pgF {t : Nat → Int32} {n f : Int} {P0 L0 : Int32} {G0 : Nat → ZQ} (h : zFfP t n P0.toInt L0.toInt f) (hf : f ≠ 0) : zPcG t n P0 L0 G0 P0 G0 := by
  refine Or.inl ⟨?_, rfl, rfl⟩
  rcases h with ⟨a, -⟩ | ⟨-, a, -⟩ | ⟨-, -, a⟩
  · exact Or.inl a
  · exact Or.inr a
  · exact absurd a hf
theorem z_pgG {t : Nat → Int32} {n f : Int} {P0 L0 P : Int32} {G0 G : Nat → ZQ} (h : zFfP t n P0.toInt L0.toInt f) (hf : f = 0) (hb : zFwK t n 0 0 0 = -9 → zCkK t n 0 P0.toInt L0.toInt = -9 → ∀ S : ZS, S.1.1 = P0.toInt → S.1.2.1 = L0.toInt → zKn P0.toInt G0 (S.2 0) (S.2 1) → zKn P.toInt G ((zBrK t n 0 S).2 0) ((zBrK t n 0 S).2 1)) : zPcG t n P0 L0 G0 P G := by
  rcases h with ⟨a, b, c⟩ | ⟨-, a, b, c⟩ | ⟨a, b, -⟩
  · omega
  · omega
  · exact Or.inr ⟨a, b, hb a b⟩
theorem z_pgEq {t : Nat → Int32} {n : Int} {P0 L0 P : Int32} {G0 G : Nat → ZQ} {Q0 M0 r2 Q M : Int32} {a1 a2 a3 a4 a5 a6 a7 a8 b1 b2 b3 b4 b5 b6 b7 b8 : Nat → Int32} (h : zPcG t n P0 L0 G0 P G) (h2 : zPcM t n Q0 M0 a1 a2 a3 a4 a5 a6 a7 a8 r2 Q M b1 b2 b3 b4 b5 b6 b7 b8) (hP : P0.toInt = Q0.toInt) (hL : L0.toInt = M0.toInt) (hr : zKn P0.toInt G0 a1 a2) : zKn P.toInt G b1 b2 := by
  obtain rfl := z_i32 hP
  obtain rfl := z_i32 hL
  rcases h with ⟨x1, rfl, rfl⟩ | ⟨x1, x2, x3⟩
  · rcases h2 with ⟨-, -, -, -, rfl, rfl, -⟩ | ⟨-, -, -, -, -, rfl, rfl, -⟩ | ⟨y1, y2, -⟩
    · exact hr
    · exact hr
    · rcases x1 with x1 | x1
      · exact absurd y1 x1
      · exact absurd y2 x1
  · rcases h2 with ⟨y1, -⟩ | ⟨-, y2, -⟩ | ⟨-, -, y3⟩
    · exact absurd x1 y1
    · exact absurd x2 y2
    · have w := x3 (zSt a1 a2 a3 a4 a5 a6 a7 a8 P0.toInt L0.toInt 0) rfl rfl hr
      rw [y3] at w
      exact w
/-- the image's players -/
def zCpq (k : Int) (g0 go g : Nat → ZQ) : Prop := ∀ j : Nat, g j = if (j : Int) < k then go j else g0 j
theorem z_cpq0 {k : Int} {g0 go : Nat → ZQ} (h : k = 0) : zCpq k g0 go g0 := fun j => by rw [if_neg (by omega)]
theorem z_cpqS {k k2 : Int} {g0 go g g2 : Nat → ZQ} {i : Int32} {x : ZQ} (h : zCpq k g0 go g) (e : zUq g i.toNatClampNeg x = g2) (hx : x = go i.toNatClampNeg) (hi : i.toInt = k) (h0 : 0 ≤ k) (h2 : k2 = k + 1) : zCpq k2 g0 go g2 := fun j => by
  have hcl := z_cl (show 0 ≤ i.toInt by omega)
  rw [← e]
  unfold zUq
  by_cases c : j = i.toNatClampNeg
  · rw [if_pos c, if_pos (by omega), hx, c]
  · rw [if_neg c, h j]
    by_cases d : (j : Int) < k
    · rw [if_pos d, if_pos (by omega)]
    · rw [if_neg d, if_neg (by omega)]
theorem z_cpqE {k k2 : Int} {g0 go g : Nat → ZQ} (h : zCpq k g0 go g) (e : k = k2) : zCpq k2 g0 go g := e ▸ h
def zKi (h P : Int32) (G : Nat → ZQ) (K : Nat → Int32) : Prop := h.toInt = 1 → zKn P.toInt G (fun j => K j) (fun j => K (5 + j))
theorem z_ki0 {P : Int32} {G : Nat → ZQ} {K : Nat → Int32} : zKi 0 P G K := fun h => absurd h (by decide)
theorem z_knX {P : Int} {G G2 : Nat → ZQ} {kd fg kd2 fg2 : Nat → Int32} (h : zKn P G kd fg) (hP : P ≤ 5) (hg : ∀ j : Nat, (j : Int) < 5 → G2 j = G j) (h1 : zQa 5 kd kd2) (h2 : zQa 5 fg fg2) : zKn P G2 kd2 fg2 := fun p hp => by
  rw [hg p (by omega), h1 p (by omega), h2 p (by omega)]
  exact h p hp
theorem z_kiT {h P : Int32} {G : Nat → ZQ} {K K2 : Nat → Int32} (i : zKi h P G K) (hP : P.toInt ≤ 5) (k : zKK K K2) : zKi h P G K2 := fun h1 => z_knX (i h1) hP (fun _ _ => rfl) (fun j hj => k j (by omega)) (fun j hj => k (5 + j) (by omega))
theorem z_kiI {P : Int32} {G G0 G2 : Nat → ZQ} {K2 a1 a2 a3 a4 a5 a6 a7 a8 : Nat → Int32} {i1 i2 i3 i4 i5 i6 i7 : Int32} (h : zKn P.toInt G a1 a2) (hP : P.toInt ≤ 5) (hg : zCpq 5 G0 G G2) (hk : ∀ j : Nat, j < 130 → K2 j = zEnc a1 a2 a3 a4 a5 a6 a7 a8 i1 i2 i3 i4 i5 i6 i7 j) : zKi 1 P G2 K2 := fun _ => z_knX h hP (fun j hj => by rw [hg j, if_pos hj]) (fun j hj => by
    have w := z_encA1 (a1 := a1) (a2 := a2) (a3 := a3) (a4 := a4) (a5 := a5) (a6 := a6) (a7 := a7) (a8 := a8) (i1 := i1) (i2 := i2) (i3 := i3) (i4 := i4) (i5 := i5) (i6 := i6) (i7 := i7) j hj
    rw [Nat.zero_add] at w
    exact (hk j (by omega)).trans w.symm) (fun j hj => (hk (5 + j) (by omega)).trans (z_encA2 j hj).symm)
def zRsG (h : Int32) (G G0 G2 : Nat → ZQ) : Prop := (h.toInt = 0 ∧ G2 = G) ∨ (h.toInt = 1 ∧ zCpq 5 G G0 G2)
theorem z_kiR {h h2 P L O P0 L0 Q0 P2 L2 O2 r q : Int32} {G G0 G2 : Nat → ZQ} {sp cu sp0 cu0 sp2 cu2 K a1 a2 a3 a4 a5 a6 a7 a8 b1 b2 b3 b4 b5 b6 b7 b8 : Nat → Int32} {i1 i2 i3 i4 i5 i6 i7 r1 r2 r3 r4 r5 r6 r7 : Int32} (hC : zRsC h P L O P0 L0 Q0 sp cu sp0 cu0 P2 L2 O2 r sp2 cu2) (hD : zRsG h G G0 G2) (hM : zRsM h2 K a1 a2 a3 a4 a5 a6 a7 a8 i1 i2 i3 i4 i5 i6 i7 b1 b2 b3 b4 b5 b6 b7 b8 r1 r2 r3 r4 r5 r6 r7 q) (hi : zKi h P0 G0 K) (eh : h.toInt = h2.toInt) (hP : P0.toInt ≤ 5) (hr : zKn P.toInt G a1 a2) : zKn P2.toInt G2 b1 b2 := by
  rcases hC with ⟨x1, x2, rfl, -⟩ | ⟨x1, x2, rfl, -⟩
  · rcases hD with ⟨-, rfl⟩ | ⟨y, -⟩
    · rcases hM with ⟨y1, y2, rfl, rfl, -⟩ | ⟨y1, -⟩
      · exact hr
      · omega
    · omega
  · rcases hD with ⟨y, -⟩ | ⟨-, hg⟩
    · omega
    · rcases hM with ⟨y1, -⟩ | ⟨y1, y2, y3, -⟩
      · omega
      · refine z_knX (hi x1) hP (fun j hj => by rw [hg j, if_pos hj]) (fun j hj => ?_) (fun j hj => (z_encA2 j hj).trans (y3 (5 + j) (by omega)).symm)
        have w := z_encA1 (a1 := b1) (a2 := b2) (a3 := b3) (a4 := b4) (a5 := b5) (a6 := b6) (a7 := b7) (a8 := b8) (i1 := r1) (i2 := r2) (i3 := r3) (i4 := r4) (i5 := r5) (i6 := r6) (i7 := r7) j hj
        rw [Nat.zero_add] at w
        exact w.trans (y3 j (by omega)).symm
theorem z_zq {q : ZQ} {o : Option Nat} (h : q.1 = o) : (o, q.2.1, q.2.2) = q := by rw [← h]
theorem z_pyRe {P L ki : Int32} {sp cu ow on tx sz kd fg : Nat → Int32} {G : Nat → ZQ} {S : ZS} (h : zRe P L ki sp cu ow on tx sz S) (hL : L.toInt ≤ 12) (hk : zKn P.toInt G kd fg) : zPy P.toInt L.toInt G tx sz on cu (S.2 7) (S.2 4) kd fg := ⟨z_reTS h hL, hk, fun l hl => ⟨(h.2.2.2.2.2.2 l hl).1, (h.2.2.2.2.2.2 l hl).2.2.1⟩⟩
def zFoC (P L : Int) (G : Nat → ZQ) (tx sz on cu ow : Nat → Int32) (p : Nat) (r : Int32) : Prop := ∀ wd mn kd fg wh : Nat → Int32, zPy P L G tx sz on cu wd mn kd fg → zOwA P L ow wh → (∀ l : Nat, (l : Int) < L → wh l = on l) → zFlP L (zWf wd (5 * p)) (mn p).toInt wd mn kd wh (zHe kd fg on cu 0) L r
def zFoP (L : Int) (w : Prop) (p r : Int) : Prop := ((p < 0 ∨ L ≤ p) ∧ r = -1) ∨ (0 ≤ p ∧ p < L ∧ w)
theorem z_heE {P L : Int} {kd fg wh on cu : Nat → Int32} {j : Nat} (ho : zOk2 P L on cu) (hw : ∀ l : Nat, (l : Int) < L → wh l = on l) (hj : (j : Int) < L) : zHe kd fg on cu 0 j = zHd kd fg (cu j).toInt (wh j).toInt.toNat := by
  unfold zHe
  have c := (ho j hj).2
  have e : zMn ((cu j).toInt + 0) 4 = (cu j).toInt := by
    unfold zMn
    split <;> omega
  rw [e, hw j hj]
theorem z_deN2 {wd mn : Nat → Int32} {i : Int} {j : Nat} {h : Int} (hj : 1 ≤ j) : zDe wd mn i (j : Int) h ↔ zEnds (zWf wd (5 * i.toNat)) (mn i.toNat).toInt (zWf wd (5 * (j - 1))) (mn (j - 1)).toInt h := by
  unfold zDe
  rw [show ((j : Int) - 1).toNat = j - 1 by omega]
theorem z_boolE {a b : Bool} (h : a = true ↔ b = true) : a = b := by
  cases a <;> cases b
  · rfl
  · exact absurd (h.mpr rfl) (by decide)
  · exact absurd (h.mp rfl) (by decide)
  · rfl
theorem z_foEq {P L M jk jw r r2 p : Int32} {G : Nat → ZQ} {tx sz on cu ow wd mn kd fg wh : Nat → Int32} (hC : zFoC P.toInt L.toInt G tx sz on cu ow p.toNatClampNeg r) (hM : zBq (zFq wd mn jk jw kd fg wh cu p.toInt) M.toInt r2) (H : zPy P.toInt L.toInt G tx sz on cu wd mn kd fg) (hA : zOwA P.toInt L.toInt ow wh) (hw : ∀ l : Nat, (l : Int) < L.toInt → wh l = on l) (hL : L.toInt = M.toInt) (hj : jk.toInt = -9) (p0 : 0 ≤ p.toInt) : r = r2 := by
  have a := hC wd mn kd fg wh H hA hw
  refine z_b12E a.1 hM.1 fun i hi => z_boolE ?_
  rw [a.2 i hi, hM.2 i hi, ← hL]
  have key : 1 ≤ i → (i : Int) < L.toInt → (zEnds (zWf wd (5 * p.toNatClampNeg)) (mn p.toNatClampNeg).toInt (zWf wd (5 * (i - 1))) (mn (i - 1)).toInt (zHe kd fg on cu 0 i) ↔ zIcR wd mn jk jw kd fg wh cu p.toInt (i : Int)) := fun i1 i2 => by
    unfold zIcR
    rw [z_heE H.2.2 hw i2, z_deJ hj p0, z_deN2 i1]
    exact ⟨fun q => ⟨by omega, q⟩, fun q => q.2⟩
  exact ⟨fun q => ⟨q.1, q.2.1, q.2.2.1, (key q.1 q.2.1).mp q.2.2.2⟩, fun q => ⟨q.1, q.2.1, q.2.2.1, (key q.1 q.2.1).mpr q.2.2.2⟩⟩
theorem z_foLaw {P L ki M jk jw p r r2 : Int32} {G : Nat → ZQ} {sp cu ow on tx sz a1 a2 a3 a4 a5 a6 a7 a8 : Nat → Int32} {i1 i2 i3 : Int} (hC : zFoP L.toInt (zFoC P.toInt L.toInt G tx sz on cu ow p.toNatClampNeg r) p.toInt r.toInt) (hM : zFoP M.toInt (zBq (zFq a8 a5 jk jw a1 a2 a4 a6 p.toInt) M.toInt r2) p.toInt r2.toInt) (hr : zRe P L ki sp cu ow on tx sz (zSt a1 a2 a3 a4 a5 a6 a7 a8 i1 i2 i3)) (hk : zKn P.toInt G a1 a2) (hc : cu = a6) (hL : L.toInt = M.toInt) (hL2 : L.toInt ≤ 12) (hj : jk.toInt = -9) : r.toInt = r2.toInt := by
  subst hc
  rcases hC with ⟨a, b⟩ | ⟨a, b, c⟩ <;> rcases hM with ⟨d, e⟩ | ⟨d, e, f⟩
  · omega
  · omega
  · omega
  · rw [z_foEq c f (z_pyRe hr hL2 hk) (z_reOw hr) (fun l hl => (hr.2.2.1 l (by omega)).2.1) hL hj a]
theorem z_and31 (x : Int32) : 0 ≤ (x &&& 2147483647).toInt := by
  have h1 : (x &&& 2147483647).toBitVec.toNat ≤ 2147483647 := by
    rw [Int32.toBitVec_and, BitVec.toNat_and]
    exact Nat.le_trans Nat.and_le_right (by decide)
  have h2 : (x &&& 2147483647).toInt = (x &&& 2147483647).toBitVec.toInt := rfl
  rw [h2, BitVec.toInt_eq_toNat_cond]
  split
  · omega
  · omega
theorem z_divp {x : Int32} (hx : 0 ≤ x.toInt) : 0 ≤ (x / 65536).toInt ∧ (x / 65536).toInt ≤ 32767 := by
  have hh := z_hi x
  rw [Int32.toInt_div, show (65536 : Int32).toInt = 65536 from by decide, Int.tdiv_eq_ediv_of_nonneg hx, z_bm (by omega) (by omega)]
  omega
theorem z_remp {x y : Int32} (hx : 0 ≤ x.toInt) (hy : 1 ≤ y.toInt) : 0 ≤ (x - x / y * y).toInt ∧ (x - x / y * y).toInt < y.toInt := by
  have hh := z_hi x
  have hl := z_hi y
  have e : (x - x / y * y).toInt = x.toInt.tmod y.toInt := by
    rw [Int32.toInt_sub, Int32.toInt_mul, Int32.toInt_div, Int.bmod_mul_bmod, Int.sub_bmod_bmod]
    have e1 : x.toInt - x.toInt.tdiv y.toInt * y.toInt = x.toInt.tmod y.toInt := by
      have := Int.tmod_add_tdiv_mul x.toInt y.toInt
      omega
    have h1 := Int.tmod_nonneg y.toInt hx
    have h2 := Int.tmod_lt_of_pos x.toInt (show 0 < y.toInt by omega)
    rw [e1]
    exact z_bm (by omega) (by omega)
  rw [e]
  exact ⟨Int.tmod_nonneg y.toInt hx, Int.tmod_lt_of_pos x.toInt (by omega)⟩
/-! which line a player chooses -/
def zLe (Q : Nat → Prop) (r : Int) : Prop := (r = -9 ∧ ∀ j : Nat, j < 12 → ¬ Q j) ∨ (0 ≤ r ∧ r < 12 ∧ Q r.toNat ∧ ∀ j : Nat, (j : Int) < r → ¬ Q j)
def zGr (Q : Nat → Prop) (r : Int) : Prop := (r = -9 ∧ ∀ j : Nat, j < 12 → ¬ Q j) ∨ (0 ≤ r ∧ r < 12 ∧ Q r.toNat ∧ ∀ j : Nat, r < (j : Int) → j < 12 → ¬ Q j)
theorem z_bF {x : Int32} {j : Nat} (h : bt x j = false) : ¬ bt x j = true := by rw [h]; decide
theorem z_leB {x : Int32} {Q : Nat → Prop} {r : Int} (h : zLst x r) (e : ∀ j : Nat, j < 12 → (bt x j = true ↔ Q j)) : zLe Q r := by
  rcases h with ⟨a, b⟩ | ⟨a, b, c, d⟩
  · exact Or.inl ⟨a, fun j hj q => z_bF (b j hj) ((e j hj).mpr q)⟩
  · exact Or.inr ⟨a, b, (e _ (by omega)).mp c, fun j hj q => z_bF (d j hj) ((e j (by omega)).mpr q)⟩
theorem z_grB {x : Int32} {Q : Nat → Prop} {r : Int} (h : zGst x r) (e : ∀ j : Nat, j < 12 → (bt x j = true ↔ Q j)) : zGr Q r := by
  rcases h with ⟨a, b⟩ | ⟨a, b, c, d⟩
  · exact Or.inl ⟨a, fun j hj q => z_bF (b j hj) ((e j hj).mpr q)⟩
  · exact Or.inr ⟨a, b, (e _ (by omega)).mp c, fun j hj hj2 q => z_bF (d j hj hj2) ((e j hj2).mpr q)⟩
theorem z_leU {Q R : Nat → Prop} {r s : Int} (h : zLe Q r) (h2 : zLe R s) (e : ∀ j : Nat, j < 12 → (Q j ↔ R j)) : r = s := by
  rcases h with ⟨a, b⟩ | ⟨a, b, c, d⟩ <;> rcases h2 with ⟨a', b'⟩ | ⟨a', b', c', d'⟩
  · omega
  · exact absurd ((e _ (by omega)).mpr c') (b _ (by omega))
  · exact absurd ((e _ (by omega)).mp c) (b' _ (by omega))
  · rcases Int.lt_trichotomy r s with q | q | q
    · exact absurd ((e _ (by omega)).mp c) (d' r.toNat (by omega))
    · exact q
    · exact absurd ((e _ (by omega)).mpr c') (d s.toNat (by omega))
theorem z_grU {Q R : Nat → Prop} {r s : Int} (h : zGr Q r) (h2 : zGr R s) (e : ∀ j : Nat, j < 12 → (Q j ↔ R j)) : r = s := by
  rcases h with ⟨a, b⟩ | ⟨a, b, c, d⟩ <;> rcases h2 with ⟨a', b'⟩ | ⟨a', b', c', d'⟩
  · omega
  · exact absurd ((e _ (by omega)).mpr c') (b _ (by omega))
  · exact absurd ((e _ (by omega)).mp c) (b' _ (by omega))
  · rcases Int.lt_trichotomy r s with q | q | q
    · exact absurd ((e _ (by omega)).mpr c') (d s.toNat (by omega) (by omega))
    · exact q
    · exact absurd ((e _ (by omega)).mp c) (d' r.toNat (by omega) (by omega))
/-- the choice of a player of kind k: O his lines, C what is cued, S what is said -/
def zCho (k : Int) (O C S : Nat → Prop) (r : Int) : Prop := (k = 4 ∧ r = -9) ∨ (k = 1 ∧ zLe (fun j => O j ∧ C j) r) ∨ (k = 5 ∧ zGr (fun j => O j ∧ C j) r) ∨ ((k = 0 ∨ k = 2 ∨ k = 3) ∧ ∃ n : Int, zLe (fun j => O j ∧ ¬ S j) n ∧ ((n ≠ -9 ∧ C n.toNat ∧ r = n) ∨ ((n = -9 ∨ ¬ C n.toNat) ∧ r = -9)))
theorem z_leR {Q : Nat → Prop} {r : Int} (h : zLe Q r) : r = -9 ∨ (0 ≤ r ∧ r < 12 ∧ Q r.toNat) := by
  rcases h with ⟨a, -⟩ | ⟨a, b, c, -⟩
  · exact Or.inl a
  · exact Or.inr ⟨a, b, c⟩
theorem z_grR {Q : Nat → Prop} {r : Int} (h : zGr Q r) : r = -9 ∨ (0 ≤ r ∧ r < 12 ∧ Q r.toNat) := by
  rcases h with ⟨a, -⟩ | ⟨a, b, c, -⟩
  · exact Or.inl a
  · exact Or.inr ⟨a, b, c⟩
theorem z_choU {k r s : Int} {O O2 C C2 S S2 : Nat → Prop} (h : zCho k O C S r) (h2 : zCho k O2 C2 S2 s) (eO : ∀ j : Nat, j < 12 → (O j ↔ O2 j)) (eC : ∀ j : Nat, j < 12 → O j → (C j ↔ C2 j)) (eS : ∀ j : Nat, j < 12 → (S j ↔ S2 j)) : r = s := by
  have e1 : ∀ j : Nat, j < 12 → ((O j ∧ C j) ↔ (O2 j ∧ C2 j)) := fun j hj => ⟨fun q => ⟨(eO j hj).mp q.1, (eC j hj q.1).mp q.2⟩, fun q => ⟨(eO j hj).mpr q.1, (eC j hj ((eO j hj).mpr q.1)).mpr q.2⟩⟩
  have e2 : ∀ j : Nat, j < 12 → ((O j ∧ ¬ S j) ↔ (O2 j ∧ ¬ S2 j)) := fun j hj => by rw [eO j hj, eS j hj]
  rcases h with ⟨a, b⟩ | ⟨a, b⟩ | ⟨a, b⟩ | ⟨a, n, b, c⟩ <;> rcases h2 with ⟨a', b'⟩ | ⟨a', b'⟩ | ⟨a', b'⟩ | ⟨a', n', b', c'⟩ <;> first | omega | exact z_leU b b' e1 | exact z_grU b b' e1 | skip
  have en := z_leU b b' e2
  subst en
  rcases z_leR b with q | ⟨q1, q2, q3, q4⟩
  · rcases c with ⟨c1, -⟩ | ⟨-, c⟩
    · exact absurd q c1
    · rcases c' with ⟨c1, -⟩ | ⟨-, c'⟩
      · exact absurd q c1
      · omega
  · have w := eC n.toNat (by omega) q3
    rcases c with ⟨-, c1, c2⟩ | ⟨c1, c2⟩ <;> rcases c' with ⟨-, d1, d2⟩ | ⟨d1, d2⟩
    · omega
    · rcases d1 with d1 | d1
      · omega
      · exact absurd (w.mp c1) d1
    · rcases c1 with c1 | c1
      · omega
      · exact absurd (w.mpr d1) c1
    · omega
theorem z_choR {k r : Int} {O C S : Nat → Prop} (h : zCho k O C S r) : r = -9 ∨ (0 ≤ r ∧ r < 12 ∧ O r.toNat) := by
  rcases h with ⟨a, b⟩ | ⟨a, b⟩ | ⟨a, b⟩ | ⟨a, n, b, c⟩
  · exact Or.inl b
  · rcases z_leR b with q | ⟨q1, q2, q3, -⟩
    · exact Or.inl q
    · exact Or.inr ⟨q1, q2, q3⟩
  · rcases z_grR b with q | ⟨q1, q2, q3, -⟩
    · exact Or.inl q
    · exact Or.inr ⟨q1, q2, q3⟩
  · rcases c with ⟨c0, -, c⟩ | ⟨-, c⟩
    · rcases z_leR b with q | ⟨q1, q2, q3, -⟩
      · exact absurd q c0
      · subst c
        exact Or.inr ⟨q1, q2, q3⟩
    · exact Or.inl c
/-- from bits -/
theorem z_chP {k L p r : Int} {wh : Nat → Int32} {o c s : Int32} {C : Nat → Prop} (h : zChB k o c s r) (ho : zOwL L wh p o) (hL : L ≤ 12) (hc : ∀ j : Nat, j < 12 → (bt c j = true ↔ C j)) : zCho k (fun j => (j : Int) < L ∧ (wh j).toInt = p) C (fun j => bt s j = true) r := by
  have e1 : ∀ j : Nat, j < 12 → (bt (o &&& c) j = true ↔ (((j : Int) < L ∧ (wh j).toInt = p) ∧ C j)) := fun j hj => by rw [b_and, Bool.and_eq_true, z_owB ho hL (by omega), hc j hj]
  have e2 : ∀ j : Nat, j < 12 → (bt (o &&& (s ^^^ (-1))) j = true ↔ (((j : Int) < L ∧ (wh j).toInt = p) ∧ ¬ bt s j = true)) := fun j hj => by
    rw [b_and, Bool.and_eq_true, z_owB ho hL (by omega), b_xor, b_m1 j (by omega)]
    cases bt s j <;> simp
  rcases h with ⟨a, b⟩ | ⟨a, b⟩ | ⟨a, b⟩ | ⟨a, n, b, d⟩
  · exact Or.inl ⟨a, b⟩
  · exact Or.inr (Or.inl ⟨a, z_leB b e1⟩)
  · exact Or.inr (Or.inr (Or.inl ⟨a, z_grB b e1⟩))
  · refine Or.inr (Or.inr (Or.inr ⟨a, n, z_leB b e2, ?_⟩))
    have bn : n = -9 ∨ (0 ≤ n ∧ n < 12) := by
      rcases b with ⟨b, -⟩ | ⟨b1, b2, -⟩
      · exact Or.inl b
      · exact Or.inr ⟨b1, b2⟩
    rcases d with ⟨d1, d2, d3⟩ | ⟨d1, d2⟩
    · exact Or.inl ⟨d1, (hc _ (by omega)).mp d2, d3⟩
    · refine Or.inr ⟨?_, d2⟩
      rcases d1 with d1 | d1
      · exact Or.inl d1
      · rcases bn with bn | bn
        · exact Or.inl bn
        · exact Or.inr fun q => z_bF d1 ((hc _ (by omega)).mpr q)
/-- the reference's loop -/
def zChI (k : Int) (O C S : Nat → Prop) (j f : Int) : Prop := (k = 1 → (f = -9 ∧ ∀ q : Nat, (q : Int) < j → ¬ (O q ∧ C q)) ∨ (0 ≤ f ∧ f < j ∧ (O f.toNat ∧ C f.toNat) ∧ ∀ q : Nat, (q : Int) < f → ¬ (O q ∧ C q))) ∧ (k = 5 → (f = -9 ∧ ∀ q : Nat, (q : Int) < j → ¬ (O q ∧ C q)) ∨ (0 ≤ f ∧ f < j ∧ (O f.toNat ∧ C f.toNat) ∧ ∀ q : Nat, f < (q : Int) → (q : Int) < j → ¬ (O q ∧ C q))) ∧ (k ≠ 1 → k ≠ 5 → f = -9 ∧ ∀ q : Nat, (q : Int) < j → ¬ (O q ∧ ¬ S q))
theorem z_chI0 {k j f : Int} {O C S : Nat → Prop} (hj : j = 0) (hf : f = -9) : zChI k O C S j f := ⟨fun _ => Or.inl ⟨hf, fun q hq => by omega⟩, fun _ => Or.inl ⟨hf, fun q hq => by omega⟩, fun _ _ => ⟨hf, fun q hq => by omega⟩⟩
/-- a line that isn't his, or is said already -/
theorem z_chIN {k j j2 f : Int} {O C S : Nat → Prop} (h : zChI k O C S j f) (j0 : 0 ≤ j) (hj : j2 = j + 1) (s : ¬ O j.toNat ∨ (k ≠ 1 ∧ k ≠ 5 ∧ S j.toNat) ∨ ((k = 1 ∨ k = 5) ∧ ¬ C j.toNat) ∨ (k = 1 ∧ 0 ≤ f)) : zChI k O C S j2 f := by
  obtain ⟨h1, h2, h3⟩ := h
  refine ⟨fun hk => ?_, fun hk => ?_, fun k1 k5 => ?_⟩
  · rcases h1 hk with ⟨a, b⟩ | ⟨a, b, c, d⟩
    · refine Or.inl ⟨a, fun q hq w => ?_⟩
      by_cases e : (q : Int) = j
      · rw [show q = j.toNat by omega] at w
        rcases s with s | ⟨s, -, -⟩ | ⟨-, s⟩ | ⟨-, s⟩
        · exact s w.1
        · exact s hk
        · exact s w.2
        · omega
      · exact b q (by omega) w
    · exact Or.inr ⟨a, by omega, c, d⟩
  · rcases h2 hk with ⟨a, b⟩ | ⟨a, b, c, d⟩
    · refine Or.inl ⟨a, fun q hq w => ?_⟩
      by_cases e : (q : Int) = j
      · rw [show q = j.toNat by omega] at w
        rcases s with s | ⟨-, s, -⟩ | ⟨-, s⟩ | ⟨s, -⟩
        · exact s w.1
        · exact s hk
        · exact s w.2
        · omega
      · exact b q (by omega) w
    · refine Or.inr ⟨a, by omega, c, fun q q1 q2 w => ?_⟩
      by_cases e : (q : Int) = j
      · rw [show q = j.toNat by omega] at w
        rcases s with s | ⟨-, s, -⟩ | ⟨-, s⟩ | ⟨s, -⟩
        · exact s w.1
        · exact s hk
        · exact s w.2
        · omega
      · exact d q q1 (by omega) w
  · obtain ⟨a, b⟩ := h3 k1 k5
    refine ⟨a, fun q hq w => ?_⟩
    by_cases e : (q : Int) = j
    · rw [show q = j.toNat by omega] at w
      rcases s with s | ⟨-, -, s⟩ | ⟨s, -⟩ | ⟨s, -⟩
      · exact s w.1
      · exact w.2 s
      · omega
      · omega
    · exact b q (by omega) w
/-- a line that is found -/
theorem z_chIF {k j j2 f f2 : Int} {O C S : Nat → Prop} (h : zChI k O C S j f) (j0 : 0 ≤ j) (hj : j2 = j + 1) (hk : (k = 1 ∧ f < 0) ∨ k = 5) (o : O j.toNat) (c : C j.toNat) (hf : f2 = j) : zChI k O C S j2 f2 := by
  obtain ⟨h1, h2, h3⟩ := h
  subst hf
  refine ⟨fun q => ?_, fun q => ?_, fun k1 k5 => by omega⟩
  · rcases h1 q with ⟨a, b⟩ | ⟨a, b, -⟩
    · exact Or.inr ⟨j0, by omega, ⟨o, c⟩, b⟩
    · omega
  · exact Or.inr ⟨j0, by omega, ⟨o, c⟩, fun q q1 q2 => by omega⟩
theorem z_chIE {k j f L : Int} {O C S : Nat → Prop} (h : zChI k O C S j f) (hO : ∀ q : Nat, O q → (q : Int) < L) (hj : j = L) (hL : L ≤ 12) (k0 : 0 ≤ k) (k5 : k ≤ 5) (k4 : k ≠ 4) : zCho k O C S f := by
  subst hj
  obtain ⟨h1, h2, h3⟩ := h
  by_cases e1 : k = 1
  · refine Or.inr (Or.inl ⟨e1, ?_⟩)
    rcases h1 e1 with ⟨a, b⟩ | ⟨a, b, c, d⟩
    · exact Or.inl ⟨a, fun q _ w => b q (hO q w.1) w⟩
    · exact Or.inr ⟨a, by omega, c, d⟩
  · by_cases e5 : k = 5
    · refine Or.inr (Or.inr (Or.inl ⟨e5, ?_⟩))
      rcases h2 e5 with ⟨a, b⟩ | ⟨a, b, c, d⟩
      · exact Or.inl ⟨a, fun q _ w => b q (hO q w.1) w⟩
      · exact Or.inr ⟨a, by omega, c, fun q q1 _ w => d q q1 (hO q w.1) w⟩
    · obtain ⟨a, b⟩ := h3 e1 e5
      exact Or.inr (Or.inr (Or.inr ⟨by omega, -9, Or.inl ⟨rfl, fun q _ w => b q (hO q w.1) w⟩, Or.inr ⟨Or.inl rfl, a⟩⟩))
/-- the first of his lines that isn't said -/
theorem z_chIX {k j f r : Int} {O C S : Nat → Prop} (h : zChI k O C S j f) (j0 : 0 ≤ j) (j12 : j < 12) (k0 : 0 ≤ k) (k5 : k ≤ 5) (n1 : k ≠ 1) (n5 : k ≠ 5) (n4 : k ≠ 4) (o : O j.toNat) (s : ¬ S j.toNat) (hr : (C j.toNat ∧ r = j) ∨ (¬ C j.toNat ∧ r = -9)) : zCho k O C S r := by
  obtain ⟨a, b⟩ := h.2.2 n1 n5
  refine Or.inr (Or.inr (Or.inr ⟨by omega, j, Or.inr ⟨j0, j12, ⟨o, s⟩, b⟩, ?_⟩))
  rcases hr with ⟨c, d⟩ | ⟨c, d⟩
  · exact Or.inl ⟨by omega, c, d⟩
  · exact Or.inr ⟨Or.inr c, d⟩
/-! who comes in: the quickest -/
def zBst (P : Int) (com hs : Nat → Int) (r : Int) : Prop := (r = -9 ∧ ∀ q : Nat, (q : Int) < P → com q = -9) ∨ (∃ b : Nat, (b : Int) < P ∧ com b ≠ -9 ∧ r = com b ∧ (∀ q : Nat, q < b → com q ≠ -9 → hs q < hs b) ∧ ∀ q : Nat, b < q → (q : Int) < P → com q ≠ -9 → hs q ≤ hs b)
theorem z_bstU {P r s : Int} {com com2 hs hs2 : Nat → Int} (h : zBst P com hs r) (h2 : zBst P com2 hs2 s) (e : ∀ q : Nat, (q : Int) < P → com q = com2 q) (eh : ∀ q : Nat, (q : Int) < P → hs q = hs2 q) : r = s := by
  rcases h with ⟨a, b⟩ | ⟨b, b0, b1, b2, b3, b4⟩ <;> rcases h2 with ⟨a', b'⟩ | ⟨c, c0, c1, c2, c3, c4⟩
  · omega
  · exact absurd ((e c c0).symm.trans (b c c0)) c1
  · exact absurd ((e b b0).trans (b' b b0)) b1
  · rcases Nat.lt_trichotomy b c with q | q | q
    · have x1 := c3 b q (by rw [← e b b0]; exact b1)
      have x2 := b4 c q c0 (by rw [e c c0]; exact c1)
      rw [eh b b0, eh c c0] at x2
      omega
    · subst q
      rw [b2, c2, e b b0]
    · have x1 := b3 c q (by rw [e c c0]; exact c1)
      have x2 := c4 b q b0 (by rw [← e b b0]; exact b1)
      rw [eh b b0, eh c c0] at x1
      omega
/-- the class's loop -/
def zNxI (com hs : Nat → Int) (k n m : Int) : Prop := (n = -9 ∧ m = -1 ∧ ∀ q : Nat, (q : Int) < k → com q = -9) ∨ (∃ b : Nat, (b : Int) < k ∧ com b ≠ -9 ∧ n = com b ∧ m = hs b ∧ (∀ q : Nat, q < b → com q ≠ -9 → hs q < hs b) ∧ ∀ q : Nat, b < q → (q : Int) < k → com q ≠ -9 → hs q ≤ hs b)
theorem z_nxI0 {com hs : Nat → Int} {k n m : Int} (hk : k = 0) (hn : n = -9) (hm : m = -1) : zNxI com hs k n m := Or.inl ⟨hn, hm, fun q hq => by omega⟩
/-- he doesn't come, or isn't quicker -/
theorem z_nxIN {com hs : Nat → Int} {k k2 n m w : Int} (h : zNxI com hs k n m) (k0 : 0 ≤ k) (hk : k2 = k + 1) (hw : w = com k.toNat) (hh : 0 ≤ hs k.toNat) (s : w = -9 ∨ hs k.toNat ≤ m) : zNxI com hs k2 n m := by
  rcases h with ⟨a, b, c⟩ | ⟨b, b0, b1, b2, b3, b4, b5⟩
  · refine Or.inl ⟨a, b, fun q hq => ?_⟩
    by_cases e : (q : Int) = k
    · rw [show q = k.toNat by omega, ← hw]
      omega
    · exact c q (by omega)
  · refine Or.inr ⟨b, by omega, b1, b2, b3, b4, fun q q1 q2 q3 => ?_⟩
    by_cases e : (q : Int) = k
    · rw [show q = k.toNat by omega] at q3 ⊢
      rcases s with s | s
      · omega
      · omega
    · exact b5 q q1 (by omega) q3
/-- he is quicker -/
theorem z_nxIY {com hs : Nat → Int} {k k2 n m n2 m2 w : Int} (h : zNxI com hs k n m) (k0 : 0 ≤ k) (hk : k2 = k + 1) (hw : w = com k.toNat) (w9 : w ≠ -9) (s : m < hs k.toNat) (hn : n2 = w) (hm : m2 = hs k.toNat) : zNxI com hs k2 n2 m2 := by
  refine Or.inr ⟨k.toNat, by omega, by omega, by omega, hm, fun q q1 q2 => ?_, fun q q1 q2 => by omega⟩
  rcases h with ⟨a, b, c⟩ | ⟨b, b0, b1, b2, b3, b4, b5⟩
  · exact absurd (c q (by omega)) q2
  · rcases Nat.lt_trichotomy q b with e | e | e
    · have := b4 q e q2
      omega
    · rw [e]
      omega
    · have := b5 q e (by omega) q2
      omega
theorem z_nxE {P k n m : Int} {com hs : Nat → Int} (h : zNxI com hs k n m) (e : k = P) : zBst P com hs n := by
  subst e
  rcases h with ⟨a, -, c⟩ | ⟨b, b0, b1, b2, -, b4, b5⟩
  · exact Or.inl ⟨a, c⟩
  · exact Or.inr ⟨b, b0, b1, b2, b4, b5⟩
/-- the reference's loop -/
def zFoI (com hs : Nat → Int) (k b : Int) : Prop := (b = -9 ∧ ∀ q : Nat, (q : Int) < k → com q = -9) ∨ (0 ≤ b ∧ b < k ∧ com b.toNat ≠ -9 ∧ (∀ q : Nat, (q : Int) < b → com q ≠ -9 → hs q < hs b.toNat) ∧ ∀ q : Nat, b < (q : Int) → (q : Int) < k → com q ≠ -9 → hs q ≤ hs b.toNat)
theorem z_foI0 {com hs : Nat → Int} {k b : Int} (hk : k = 0) (hb : b = -9) : zFoI com hs k b := Or.inl ⟨hb, fun q hq => by omega⟩
theorem z_foIN {com hs : Nat → Int} {k k2 b w : Int} (h : zFoI com hs k b) (k0 : 0 ≤ k) (hk : k2 = k + 1) (hw : w = com k.toNat) (s : w = -9 ∨ (0 ≤ b ∧ hs k.toNat ≤ hs b.toNat)) : zFoI com hs k2 b := by
  rcases h with ⟨a, c⟩ | ⟨b0, b1, b2, b4, b5⟩
  · refine Or.inl ⟨a, fun q hq => ?_⟩
    by_cases e : (q : Int) = k
    · rw [show q = k.toNat by omega, ← hw]
      omega
    · exact c q (by omega)
  · refine Or.inr ⟨b0, by omega, b2, b4, fun q q1 q2 q3 => ?_⟩
    by_cases e : (q : Int) = k
    · rw [show q = k.toNat by omega] at q3 ⊢
      rcases s with s | s
      · omega
      · exact s.2
    · exact b5 q q1 (by omega) q3
theorem z_foIY {com hs : Nat → Int} {k k2 b b2 w : Int} (h : zFoI com hs k b) (k0 : 0 ≤ k) (hk : k2 = k + 1) (hw : w = com k.toNat) (w9 : w ≠ -9) (s : b < 0 ∨ hs b.toNat < hs k.toNat) (hb : b2 = k) : zFoI com hs k2 b2 := by
  rw [hb]
  refine Or.inr ⟨k0, by omega, by omega, fun q q1 q2 => ?_, fun q q1 q2 => by omega⟩
  rcases h with ⟨a, c⟩ | ⟨b0, b1, b2, b4, b5⟩
  · exact absurd (c q (by omega)) q2
  · have s2 : hs b.toNat < hs k.toNat := by
      rcases s with s | s
      · omega
      · exact s
    rcases Int.lt_trichotomy (q : Int) b with e | e | e
    · have := b4 q e q2
      omega
    · rw [show q = b.toNat by omega]
      exact s2
    · have := b5 q e (by omega) q2
      omega
theorem z_foIE {P k b r : Int} {com hs : Nat → Int} (h : zFoI com hs k b) (e : k = P) (s : (b < 0 ∧ r = -9) ∨ (0 ≤ b ∧ r = com b.toNat)) : zBst P com hs r := by
  subst e
  rcases h with ⟨a, c⟩ | ⟨b0, b1, b2, b4, b5⟩
  · rcases s with ⟨-, s⟩ | ⟨s, -⟩
    · exact Or.inl ⟨s, c⟩
    · omega
  · rcases s with ⟨s, -⟩ | ⟨-, s⟩
    · omega
    · exact Or.inr ⟨b.toNat, by omega, b2, s, fun q q1 q2 => b4 q (by omega) q2, fun q q1 q2 q3 => b5 q (by omega) q2 q3⟩
/-- with which line player p comes in: dead or not, his kind, his lines, what is cued and said -/
def zCwA (dd : Bool) (k L : Int) (wh : Nat → Int32) (C S : Nat → Prop) (p r : Int) : Prop := (dd = true ∧ r = -9) ∨ (dd = false ∧ zCho k (fun j => (j : Int) < L ∧ (wh j).toInt = p) C S r)
theorem z_cwU {dd dd2 : Bool} {k k2 L p r s : Int} {wh : Nat → Int32} {C C2 S S2 : Nat → Prop} (h : zCwA dd k L wh C S p r) (h2 : zCwA dd2 k2 L wh C2 S2 p s) (ed : dd = dd2) (ek : k = k2) (eC : ∀ j : Nat, j < 12 → (j : Int) < L → (wh j).toInt = p → (C j ↔ C2 j)) (eS : ∀ j : Nat, j < 12 → (S j ↔ S2 j)) : r = s := by
  subst ed ek
  rcases h with ⟨a, b⟩ | ⟨a, b⟩ <;> rcases h2 with ⟨c, d⟩ | ⟨c, d⟩
  · omega
  · rw [a] at c
    exact absurd c (by decide)
  · rw [a] at c
    exact absurd c (by decide)
  · exact z_choU b d (fun _ _ => Iff.rfl) (fun j hj o => eC j hj o.1 o.2) eS
noncomputable def zCom (dd : Nat → Bool) (kd : Nat → Int) (L : Int) (wh : Nat → Int32) (C S : Nat → Prop) (p : Nat) : Int := Classical.epsilon (fun r => zCwA (dd p) (kd p) L wh C S (p : Int) r)
theorem z_comE {dd : Nat → Bool} {kd : Nat → Int} {L r : Int} {wh : Nat → Int32} {C S : Nat → Prop} {p : Nat} (h : zCwA (dd p) (kd p) L wh C S (p : Int) r) : r = zCom dd kd L wh C S p := z_cwU h (Classical.epsilon_spec (p := fun r => zCwA (dd p) (kd p) L wh C S (p : Int) r) ⟨r, h⟩) rfl rfl (fun _ _ _ _ => Iff.rfl) (fun _ _ => Iff.rfl)
theorem z_oN {L p : Int} {wh : Nat → Int32} {j w : Int32} (g : w.toInt = (wh j.toNatClampNeg).toInt) (q : w.toInt ≠ p) : ¬ (((j.toInt.toNat : Nat) : Int) < L ∧ (wh j.toInt.toNat).toInt = p) := fun o => q (g.trans o.2)
theorem z_oY {L p : Int} {wh : Nat → Int32} {j w : Int32} (g : w.toInt = (wh j.toNatClampNeg).toInt) (q : w.toInt = p) (j0 : 0 ≤ j.toInt) (jL : j.toInt < L) : ((j.toInt.toNat : Nat) : Int) < L ∧ (wh j.toInt.toNat).toInt = p := ⟨by omega, (show w.toInt = (wh j.toInt.toNat).toInt from g).symm.trans q⟩
theorem z_icF {wd mn kd fg wh cu : Nat → Int32} {jk jw : Int32} {i r : Int} {j : Int32} (h : zYn (zIcR wd mn jk jw kd fg wh cu i j.toInt) r) (j0 : 0 ≤ j.toInt) (hr : r = 0) : ¬ zIcR wd mn jk jw kd fg wh cu i ((j.toInt.toNat : Nat) : Int) := by
  rw [Int.toNat_of_nonneg j0]
  rcases h with ⟨a, -⟩ | ⟨-, a⟩
  · omega
  · exact a
theorem z_icT {wd mn kd fg wh cu : Nat → Int32} {jk jw : Int32} {i r : Int} {j : Int32} (h : zYn (zIcR wd mn jk jw kd fg wh cu i j.toInt) r) (j0 : 0 ≤ j.toInt) (hr : r ≠ 0) : zIcR wd mn jk jw kd fg wh cu i ((j.toInt.toNat : Nat) : Int) := by
  rw [Int.toNat_of_nonneg j0]
  rcases h with ⟨-, a⟩ | ⟨a, -⟩
  · exact a
  · exact absurd a hr
theorem z_cw4 {dd : Bool} {k L p r : Int} {wh : Nat → Int32} {C S : Nat → Prop} (hk : k = 4) (hr : r = -9) : zCwA dd k L wh C S p r := by
  cases dd
  · exact Or.inr ⟨rfl, Or.inl ⟨hk, hr⟩⟩
  · exact Or.inl ⟨rfl, hr⟩
/-! the class: who comes in -/
def zCmC (P L : Int) (G : Nat → ZQ) (ow af : Nat → Int32) (sd dd la p : Int32) (r : Int) : Prop :=
  ((la.toInt < 0 ∨ L ≤ la.toInt) ∧ r = -9) ∨ (0 ≤ la.toInt ∧ la.toInt < L ∧ (0 ≤ p.toInt → p.toInt < P → ∀ (kd fg wh : Nat → Int32) (C : Nat → Prop), zKn P G kd fg → zOwA P L ow wh → (∀ j : Nat, j < 12 → (bt (af la.toNatClampNeg) j = true ↔ C j)) → zCwA (bt dd p.toInt.toNat) (kd p.toNatClampNeg).toInt L wh C (fun j => bt sd j = true) p.toInt r))
theorem z_cmD {P L r : Int} {G : Nat → ZQ} {ow af : Nat → Int32} {sd dd la p y : Int32} (l0 : 0 ≤ la.toInt) (lL : la.toInt < L) (hb : 0 ≤ p.toInt → p.toInt < 32 → ((y.toInt = 1 ∧ bt dd p.toInt.toNat = true) ∨ (y.toInt = 0 ∧ bt dd p.toInt.toNat = false))) (hy : y.toInt = 1) (hP : P ≤ 5) (hr : r = -9) : zCmC P L G ow af sd dd la p r := Or.inr ⟨l0, lL, fun p0 pP _ _ _ _ _ _ _ => Or.inl ⟨z_btT (hb p0 (by omega)) hy, hr⟩⟩
theorem z_cmT {P L r : Int} {G : Nat → ZQ} {ow af : Nat → Int32} {sd dd la p y x : Int32} (l0 : 0 ≤ la.toInt) (lL : la.toInt < L) (hL : L ≤ 12) (hb : 0 ≤ p.toInt → p.toInt < 32 → ((y.toInt = 1 ∧ bt dd p.toInt.toNat = true) ∨ (y.toInt = 0 ∧ bt dd p.toInt.toNat = false))) (hy : y.toInt ≠ 1) (hP : P ≤ 5) (ex : x = af la.toNatClampNeg) (h : zPr P G p.toInt (r = -9) (fun kd fg => zChB (kd p.toNatClampNeg).toInt (ow p.toNatClampNeg) x sd r)) : zCmC P L G ow af sd dd la p r := by
  refine Or.inr ⟨l0, lL, fun p0 pP kd fg wh C hK hA hC => Or.inr ⟨z_btF (hb p0 (by omega)) hy, ?_⟩⟩
  rcases h with ⟨h, -⟩ | ⟨-, -, h⟩
  · omega
  · have w := h kd fg hK
    rw [ex] at w
    have o := hA p.toNatClampNeg (by have := z_cl p0; omega)
    rw [z_cl p0] at o
    exact z_chP w o hL hC
/-- the players' answers as a row -/
noncomputable def zCq (L : Int) (kd wh : Nat → Int32) (C : Nat → Prop) (sd dd : Int32) (ms : Int) (q : Nat) : Int := if (q : Int) = ms then -9 else zCom (fun q => bt dd q) (fun q => (kd q).toInt) L wh C (fun j => bt sd j = true) q
def zHq (kd sp : Nat → Int32) (q : Nat) : Int := (zHs kd sp q).toInt
def zNlH (P L : Int) (G : Nat → ZQ) (sp ow af : Nat → Int32) (la : Int32) (kd fg wh : Nat → Int32) (C : Nat → Prop) : Prop := (0 ≤ la.toInt ∧ la.toInt < L) ∧ zKn P G kd fg ∧ zOwA P L ow wh ∧ (∀ p : Nat, (p : Int) < P → 0 ≤ zHq kd sp p) ∧ ∀ j : Nat, j < 12 → (bt (af la.toNatClampNeg) j = true ↔ C j)
def zNlI (P L : Int) (G : Nat → ZQ) (sp ow af : Nat → Int32) (sd dd la ms : Int32) (k n m : Int) : Prop := ∀ (kd fg wh : Nat → Int32) (C : Nat → Prop), zNlH P L G sp ow af la kd fg wh C → zNxI (zCq L kd wh C sd dd ms.toInt) (zHq kd sp) k n m
theorem z_nlI0 {P L k n m : Int} {G : Nat → ZQ} {sp ow af : Nat → Int32} {sd dd la ms : Int32} (hk : k = 0) (hn : n = -9) (hm : m = -1) : zNlI P L G sp ow af sd dd la ms k n m := fun _ _ _ _ _ => z_nxI0 hk hn hm
theorem z_cqE {P L r : Int} {G : Nat → ZQ} {sp ow af kd fg wh : Nat → Int32} {C : Nat → Prop} {sd dd la ms p : Int32} (H : zNlH P L G sp ow af la kd fg wh C) (p0 : 0 ≤ p.toInt) (pP : p.toInt < P) (s : (p.toInt = ms.toInt ∧ r = -9) ∨ (p.toInt ≠ ms.toInt ∧ zCmC P L G ow af sd dd la p r)) : r = zCq L kd wh C sd dd ms.toInt p.toInt.toNat := by
  obtain ⟨⟨l0, lL⟩, hK, hA, hH, hC⟩ := H
  unfold zCq
  rw [Int.toNat_of_nonneg p0]
  rcases s with ⟨s1, s2⟩ | ⟨s1, s2⟩
  · rw [if_pos s1, s2]
  · rw [if_neg s1]
    rcases s2 with ⟨s2, -⟩ | ⟨-, -, s2⟩
    · omega
    · refine z_comE ?_
      rw [Int.toNat_of_nonneg p0]
      exact s2 p0 pP kd fg wh C hK hA hC
theorem z_hqE {P : Int} {G : Nat → ZQ} {sp kd fg : Nat → Int32} {p h : Int32} (hK : zKn P G kd fg) (p0 : 0 ≤ p.toInt) (pP : p.toInt < P) (hh : zPr P G p.toInt (h.toInt = -9) (fun kd fg => h = zHs kd sp p.toNatClampNeg)) : h.toInt = zHq kd sp p.toInt.toNat := by
  rcases hh with ⟨hh, -⟩ | ⟨-, -, hh⟩
  · omega
  · have w := hh kd fg hK
    unfold zHq
    rw [w]
    rfl
/-- a step of nextLine -/
theorem z_nlIN {P L n m w : Int} {G : Nat → ZQ} {sp ow af : Nat → Int32} {sd dd la ms k k2 : Int32} (h : zNlI P L G sp ow af sd dd la ms k.toInt n m) (k0 : 0 ≤ k.toInt) (kP : k.toInt < P) (hk : k2.toInt = k.toInt + 1) (s : (k.toInt = ms.toInt ∧ w = -9) ∨ (k.toInt ≠ ms.toInt ∧ zCmC P L G ow af sd dd la k w)) (t : w = -9 ∨ ∃ y : Int32, zPr P G k.toInt (y.toInt = -9) (fun kd fg => y = zHs kd sp k.toNatClampNeg) ∧ y.toInt ≤ m) : zNlI P L G sp ow af sd dd la ms k2.toInt n m := fun kd fg wh C H => by
  refine z_nxIN (h kd fg wh C H) k0 hk (z_cqE H k0 kP s) (H.2.2.2.1 k.toInt.toNat (by omega)) ?_
  rcases t with t | ⟨y, t1, t2⟩
  · exact Or.inl t
  · exact Or.inr (by rw [← z_hqE H.2.1 k0 kP t1]; exact t2)
theorem z_nlIY {P L n m n2 m2 w : Int} {G : Nat → ZQ} {sp ow af : Nat → Int32} {sd dd la ms k k2 y y2 : Int32} (h : zNlI P L G sp ow af sd dd la ms k.toInt n m) (k0 : 0 ≤ k.toInt) (kP : k.toInt < P) (hk : k2.toInt = k.toInt + 1) (s : (k.toInt = ms.toInt ∧ w = -9) ∨ (k.toInt ≠ ms.toInt ∧ zCmC P L G ow af sd dd la k w)) (w9 : w ≠ -9) (t1 : zPr P G k.toInt (y.toInt = -9) (fun kd fg => y = zHs kd sp k.toNatClampNeg)) (t2 : m < y.toInt) (t3 : zPr P G k.toInt (y2.toInt = -9) (fun kd fg => y2 = zHs kd sp k.toNatClampNeg)) (hn : n2 = w) (hm : m2 = y2.toInt) : zNlI P L G sp ow af sd dd la ms k2.toInt n2 m2 := fun kd fg wh C H => z_nxIY (h kd fg wh C H) k0 hk (z_cqE H k0 kP s) w9 (by rw [← z_hqE H.2.1 k0 kP t1]; exact t2) hn (by rw [← z_hqE H.2.1 k0 kP t3]; exact hm)
def zNlC (P L : Int) (G : Nat → ZQ) (sp ow af : Nat → Int32) (sd dd la ti ms : Int32) (r : Int) : Prop := (ti.toInt = 0 ∧ r = 0) ∨ (ti.toInt ≠ 0 ∧ ∀ (kd fg wh : Nat → Int32) (C : Nat → Prop), zNlH P L G sp ow af la kd fg wh C → zBst P (zCq L kd wh C sd dd ms.toInt) (zHq kd sp) r)
theorem z_nlE {P L k n m : Int} {G : Nat → ZQ} {sp ow af : Nat → Int32} {sd dd la ti ms : Int32} (h : zNlI P L G sp ow af sd dd la ms k n m) (e : k = P) (ht : ti.toInt ≠ 0) : zNlC P L G sp ow af sd dd la ti ms n := Or.inr ⟨ht, fun kd fg wh C H => z_nxE (h kd fg wh C H) e⟩
/-! the reference: who follows -/
def zFwH (P : Int) (kd : Nat → Int32) : Prop := ∀ p : Nat, (p : Int) < P → 0 ≤ (kd p).toInt ∧ (kd p).toInt ≤ 5
noncomputable def zCr (L : Int) (kd wh : Nat → Int32) (C : Nat → Prop) (sd dd : Int32) (q : Nat) : Int := zCom (fun q => bt dd q) (fun q => (kd q).toInt) L wh C (fun j => bt sd j = true) q
theorem z_crE {P L r : Int} {kd wh : Nat → Int32} {C : Nat → Prop} {sd dd p : Int32} (H : zFwH P kd) (p0 : 0 ≤ p.toInt) (pP : p.toInt < P) (h : 0 ≤ (kd p.toNatClampNeg).toInt → (kd p.toNatClampNeg).toInt ≤ 5 → zCwA (bt dd p.toInt.toNat) (kd p.toNatClampNeg).toInt L wh C (fun j => bt sd j = true) p.toInt r) : r = zCr L kd wh C sd dd p.toInt.toNat := by
  have hk := H p.toNatClampNeg (by have := z_cl p0; omega)
  unfold zCr
  refine z_comE ?_
  rw [Int.toNat_of_nonneg p0]
  exact h hk.1 hk.2
def zFrI (P L : Int) (kd sp wh : Nat → Int32) (C : Nat → Prop) (sd dd : Int32) (k b : Int) : Prop := zFwH P kd → zFoI (zCr L kd wh C sd dd) (zHq kd sp) k b
theorem z_frI0 {P L k b : Int} {kd sp wh : Nat → Int32} {C : Nat → Prop} {sd dd : Int32} (hk : k = 0) (hb : b = -9) : zFrI P L kd sp wh C sd dd k b := fun _ => z_foI0 hk hb
theorem z_crR {P L r : Int} {kd wh : Nat → Int32} {C : Nat → Prop} {sd dd p : Int32} (H : zFwH P kd) (p0 : 0 ≤ p.toInt) (pP : p.toInt < P) (h : 0 ≤ (kd p.toNatClampNeg).toInt → (kd p.toNatClampNeg).toInt ≤ 5 → zCwA (bt dd p.toInt.toNat) (kd p.toNatClampNeg).toInt L wh C (fun j => bt sd j = true) p.toInt r) : r = -9 ∨ 0 ≤ r := by
  have hk := H p.toNatClampNeg (by have := z_cl p0; omega)
  rcases h hk.1 hk.2 with ⟨-, h⟩ | ⟨-, h⟩
  · exact Or.inl h
  · rcases z_choR h with h | ⟨h, -⟩
    · exact Or.inl h
    · exact Or.inr h
theorem z_frIN {P L b : Int} {kd sp wh : Nat → Int32} {C : Nat → Prop} {sd dd k k2 w bb : Int32} (h : zFrI P L kd sp wh C sd dd k.toInt bb.toInt) (k0 : 0 ≤ k.toInt) (kP : k.toInt < P) (hk : k2.toInt = k.toInt + 1) (hw : 0 ≤ (kd k.toNatClampNeg).toInt → (kd k.toNatClampNeg).toInt ≤ 5 → zCwA (bt dd k.toInt.toNat) (kd k.toNatClampNeg).toInt L wh C (fun j => bt sd j = true) k.toInt w.toInt) (s : w.toInt < 0 ∨ (0 ≤ bb.toInt ∧ ∃ x y : Int32, x = zHs kd sp k.toNatClampNeg ∧ y = zHs kd sp bb.toNatClampNeg ∧ x.toInt ≤ y.toInt)) : zFrI P L kd sp wh C sd dd k2.toInt bb.toInt := fun H => by
  refine z_foIN (h H) k0 hk (z_crE H k0 kP hw) ?_
  rcases s with s | ⟨s1, x, y, s2, s3, s4⟩
  · rcases z_crR H k0 kP hw with q | q
    · exact Or.inl q
    · omega
  · refine Or.inr ⟨s1, ?_⟩
    rw [s2, s3] at s4
    exact s4
theorem z_frIY {P L : Int} {kd sp wh : Nat → Int32} {C : Nat → Prop} {sd dd k k2 w bb b2 : Int32} (h : zFrI P L kd sp wh C sd dd k.toInt bb.toInt) (k0 : 0 ≤ k.toInt) (kP : k.toInt < P) (hk : k2.toInt = k.toInt + 1) (hw : 0 ≤ (kd k.toNatClampNeg).toInt → (kd k.toNatClampNeg).toInt ≤ 5 → zCwA (bt dd k.toInt.toNat) (kd k.toNatClampNeg).toInt L wh C (fun j => bt sd j = true) k.toInt w.toInt) (w0 : 0 ≤ w.toInt) (s : bb.toInt < 0 ∨ (0 ≤ bb.toInt ∧ ∃ x y : Int32, x = zHs kd sp k.toNatClampNeg ∧ y = zHs kd sp bb.toNatClampNeg ∧ y.toInt < x.toInt)) (hb : b2 = k) : zFrI P L kd sp wh C sd dd k2.toInt b2.toInt := fun H => by
  refine z_foIY (h H) k0 hk (z_crE H k0 kP hw) (by omega) ?_ (by rw [hb])
  rcases s with s | ⟨s1, x, y, s2, s3, s4⟩
  · exact Or.inl s
  · refine Or.inr ?_
    rw [s2, s3] at s4
    exact s4
theorem z_frE {P L k b r : Int} {kd sp wh : Nat → Int32} {C : Nat → Prop} {sd dd : Int32} (h : zFrI P L kd sp wh C sd dd k b) (e : k = P) (hb : b < 0) (hr : r = -9) : zFwH P kd → zBst P (zCr L kd wh C sd dd) (zHq kd sp) r := fun H => z_foIE (h H) e (Or.inl ⟨hb, hr⟩)
theorem z_frT {P L k : Int} {kd sp wh : Nat → Int32} {C : Nat → Prop} {sd dd b w : Int32} (h : zFrI P L kd sp wh C sd dd k b.toInt) (e : k = P) (b0 : 0 ≤ b.toInt) (bP : b.toInt < P) (hw : 0 ≤ (kd b.toNatClampNeg).toInt → (kd b.toNatClampNeg).toInt ≤ 5 → zCwA (bt dd b.toInt.toNat) (kd b.toNatClampNeg).toInt L wh C (fun j => bt sd j = true) b.toInt w.toInt) : zFwH P kd → zBst P (zCr L kd wh C sd dd) (zHq kd sp) w.toInt := fun H => z_foIE (h H) e (Or.inr ⟨b0, z_crE H b0 bP hw⟩)
/-! a line said -/
/-- said, dead, latest, times behind a line -/
def zSpk (kl : Prop) (on : Int32) (sd dd ti l sd2 dd2 la2 ti2 : Int32) : Prop := sd2 = sd ||| ((1 : Int32) <<< (l &&& 31)) ∧ la2 = l ∧ ti2 = ti + 1 ∧ ((kl ∧ dd2 = dd ||| ((1 : Int32) <<< (on &&& 31))) ∨ (¬ kl ∧ dd2 = dd))
theorem z_or0 (x : Int32) : x ||| 0 = x := b_ext fun i _ => by rw [b_or, b_0, Bool.or_false]
theorem z_shl0 {o : Int32} (h0 : 0 ≤ o.toInt) (h1 : o.toInt < 32) : (0 : Int32) <<< (o &&& 31) = 0 := b_ext fun i hi => by
  have hb := b_shl o.toInt.toNat (by omega) 0 hi
  rw [← z_nI h0] at hb
  rw [hb, b_0, b_0, Bool.and_false]
theorem z_spkC {ki on sd dd ti l sd2 dd2 la2 ti2 y k : Int32} (hb : (y.toInt = 1 ∧ bt ki l.toInt.toNat = true) ∨ (y.toInt = 0 ∧ bt ki l.toInt.toNat = false)) (ek : k = y <<< (on &&& 31)) (o0 : 0 ≤ on.toInt) (o1 : on.toInt < 32) (h : sd2 = sd ||| ((1 : Int32) <<< (l &&& 31)) ∧ dd2 = dd ||| k ∧ la2 = l ∧ ti2 = ti + 1) : zSpk (bt ki l.toInt.toNat = true) on sd dd ti l sd2 dd2 la2 ti2 := by
  obtain ⟨h1, h2, h3, h4⟩ := h
  refine ⟨h1, h3, h4, ?_⟩
  rcases hb with ⟨a, b⟩ | ⟨a, b⟩
  · refine Or.inl ⟨b, ?_⟩
    rw [h2, ek, show y = 1 from (fa_eq _ _).mpr (by rw [a]; decide)]
  · refine Or.inr ⟨z_bF b, ?_⟩
    rw [h2, ek, show y = 0 from (fa_eq _ _).mpr (by rw [a]; decide), z_shl0 o0 o1, z_or0]
theorem z_spkU {kl kl2 : Prop} {on on2 sd dd ti l sd2 dd2 la2 ti2 sd3 dd3 la3 ti3 : Int32} (h : zSpk kl on sd dd ti l sd2 dd2 la2 ti2) (h2 : zSpk kl2 on2 sd dd ti l sd3 dd3 la3 ti3) (e : kl ↔ kl2) (eo : on = on2) : sd2 = sd3 ∧ dd2 = dd3 ∧ la2 = la3 ∧ ti2 = ti3 := by
  subst eo
  obtain ⟨a1, a2, a3, a4⟩ := h
  obtain ⟨b1, b2, b3, b4⟩ := h2
  refine ⟨a1.trans b1.symm, ?_, a2.trans b2.symm, a3.trans b3.symm⟩
  rcases a4 with ⟨c, d⟩ | ⟨c, d⟩ <;> rcases b4 with ⟨c', d'⟩ | ⟨c', d'⟩
  · rw [d, d']
  · exact absurd (e.mp c) c'
  · exact absurd (e.mpr c') c
  · rw [d, d']
/-- what is cued matters on his own lines alone -/
theorem z_leC {Q R : Nat → Prop} {r : Int} (h : zLe Q r) (e : ∀ j : Nat, Q j ↔ R j) : zLe R r := by
  rcases h with ⟨a, b⟩ | ⟨a, b, c, d⟩
  · exact Or.inl ⟨a, fun j hj q => b j hj ((e j).mpr q)⟩
  · exact Or.inr ⟨a, b, (e _).mp c, fun j hj q => d j hj ((e j).mpr q)⟩
theorem z_grC {Q R : Nat → Prop} {r : Int} (h : zGr Q r) (e : ∀ j : Nat, Q j ↔ R j) : zGr R r := by
  rcases h with ⟨a, b⟩ | ⟨a, b, c, d⟩
  · exact Or.inl ⟨a, fun j hj q => b j hj ((e j).mpr q)⟩
  · exact Or.inr ⟨a, b, (e _).mp c, fun j hj hj2 q => d j hj hj2 ((e j).mpr q)⟩
theorem z_choC {k r : Int} {O C C2 S : Nat → Prop} (h : zCho k O C S r) (e : ∀ j : Nat, O j → (C j ↔ C2 j)) : zCho k O C2 S r := by
  have e1 : ∀ j : Nat, ((O j ∧ C j) ↔ (O j ∧ C2 j)) := fun j => ⟨fun q => ⟨q.1, (e j q.1).mp q.2⟩, fun q => ⟨q.1, (e j q.1).mpr q.2⟩⟩
  rcases h with ⟨a, b⟩ | ⟨a, b⟩ | ⟨a, b⟩ | ⟨a, n, b, c⟩
  · exact Or.inl ⟨a, b⟩
  · exact Or.inr (Or.inl ⟨a, z_leC b e1⟩)
  · exact Or.inr (Or.inr (Or.inl ⟨a, z_grC b e1⟩))
  · refine Or.inr (Or.inr (Or.inr ⟨a, n, b, ?_⟩))
    rcases z_leR b with q | ⟨-, -, q, -⟩
    · rcases c with ⟨c1, -⟩ | ⟨-, c⟩
      · exact absurd q c1
      · exact Or.inr ⟨Or.inl q, c⟩
    · rcases c with ⟨c1, c2, c3⟩ | ⟨c1, c2⟩
      · exact Or.inl ⟨c1, (e _ q).mp c2, c3⟩
      · refine Or.inr ⟨?_, c2⟩
        rcases c1 with c1 | c1
        · exact Or.inl c1
        · exact Or.inr fun w => c1 ((e _ q).mpr w)
theorem z_cwC {dd : Bool} {k L p r : Int} {wh : Nat → Int32} {C C2 S : Nat → Prop} (h : zCwA dd k L wh C S p r) (e : ∀ j : Nat, (j : Int) < L → (wh j).toInt = p → (C j ↔ C2 j)) : zCwA dd k L wh C2 S p r := by
  rcases h with h | ⟨a, b⟩
  · exact Or.inl h
  · exact Or.inr ⟨a, z_choC b (fun j o => e j o.1 o.2)⟩
theorem z_comC {dd : Nat → Bool} {kd kd2 : Nat → Int} {L : Int} {wh : Nat → Int32} {C C2 S : Nat → Prop} {p : Nat} (ek : kd p = kd2 p) (e : ∀ j : Nat, (j : Int) < L → (wh j).toInt = (p : Int) → (C j ↔ C2 j)) : zCom dd kd L wh C S p = zCom dd kd2 L wh C2 S p := by
  unfold zCom
  rw [ek]
  refine congrArg Classical.epsilon (funext fun r => propext ⟨fun h => z_cwC h e, fun h => z_cwC h (fun j a b => (e j a b).symm)⟩)
/-! a choice there always is; say -/
theorem z_leX (Q : Nat → Prop) : ∃ r : Int, zLe Q r := by
  have aux : ∀ n : Nat, n ≤ 12 → (∃ r : Int, zLe Q r) ∨ ∀ j : Nat, j < n → ¬ Q j := by
    intro n
    induction n with
    | zero => intro _; exact Or.inr fun j hj => by omega
    | succ n ih =>
      intro hn
      rcases ih (by omega) with h | h
      · exact Or.inl h
      · rcases Classical.em (Q n) with q | q
        · exact Or.inl ⟨(n : Int), Or.inr ⟨by omega, by omega, by rw [Int.toNat_natCast]; exact q, fun j hj => h j (by omega)⟩⟩
        · refine Or.inr fun j hj => ?_
          by_cases c : j = n
          · rw [c]; exact q
          · exact h j (by omega)
  rcases aux 12 (Nat.le_refl 12) with h | h
  · exact h
  · exact ⟨-9, Or.inl ⟨rfl, h⟩⟩
theorem z_grX (Q : Nat → Prop) : ∃ r : Int, zGr Q r := by
  have aux : ∀ n : Nat, n ≤ 12 → (∃ r : Int, zGr Q r) ∨ ∀ j : Nat, 12 - n ≤ j → j < 12 → ¬ Q j := by
    intro n
    induction n with
    | zero => intro _; exact Or.inr fun j h1 h2 => by omega
    | succ n ih =>
      intro hn
      rcases ih (by omega) with h | h
      · exact Or.inl h
      · rcases Classical.em (Q (12 - (n + 1))) with q | q
        · exact Or.inl ⟨((12 - (n + 1) : Nat) : Int), Or.inr ⟨by omega, by omega, by rw [Int.toNat_natCast]; exact q, fun j h1 h2 => h j (by omega) h2⟩⟩
        · refine Or.inr fun j h1 h2 => ?_
          by_cases c : j = 12 - (n + 1)
          · rw [c]; exact q
          · exact h j (by omega) h2
  rcases aux 12 (Nat.le_refl 12) with h | h
  · exact h
  · exact ⟨-9, Or.inl ⟨rfl, fun j hj => h j (by omega) hj⟩⟩
theorem z_choX {k : Int} (k0 : 0 ≤ k) (k5 : k ≤ 5) (O C S : Nat → Prop) : ∃ r : Int, zCho k O C S r := by
  rcases (show k = 4 ∨ k = 1 ∨ k = 5 ∨ (k = 0 ∨ k = 2 ∨ k = 3) by omega) with h | h | h | h
  · exact ⟨-9, Or.inl ⟨h, rfl⟩⟩
  · obtain ⟨r, w⟩ := z_leX (fun j => O j ∧ C j)
    exact ⟨r, Or.inr (Or.inl ⟨h, w⟩)⟩
  · obtain ⟨r, w⟩ := z_grX (fun j => O j ∧ C j)
    exact ⟨r, Or.inr (Or.inr (Or.inl ⟨h, w⟩))⟩
  · obtain ⟨n, w⟩ := z_leX (fun j => O j ∧ ¬ S j)
    by_cases c : n = -9
    · exact ⟨-9, Or.inr (Or.inr (Or.inr ⟨h, n, w, Or.inr ⟨Or.inl c, rfl⟩⟩))⟩
    · rcases Classical.em (C n.toNat) with q | q
      · exact ⟨n, Or.inr (Or.inr (Or.inr ⟨h, n, w, Or.inl ⟨c, q, rfl⟩⟩))⟩
      · exact ⟨-9, Or.inr (Or.inr (Or.inr ⟨h, n, w, Or.inr ⟨Or.inr q, rfl⟩⟩))⟩
theorem z_comX {dd : Nat → Bool} {kd : Nat → Int} {L : Int} {wh : Nat → Int32} {C S : Nat → Prop} {p : Nat} (k0 : 0 ≤ kd p) (k5 : kd p ≤ 5) : zCwA (dd p) (kd p) L wh C S (p : Int) (zCom dd kd L wh C S p) := by
  refine Classical.epsilon_spec (p := fun r => zCwA (dd p) (kd p) L wh C S (p : Int) r) ?_
  cases dd p
  · obtain ⟨r, w⟩ := z_choX k0 k5 (fun j => (j : Int) < L ∧ (wh j).toInt = (p : Int)) C S
    exact ⟨r, Or.inr ⟨rfl, w⟩⟩
  · exact ⟨-9, Or.inl ⟨rfl, rfl⟩⟩
theorem z_comR {dd : Nat → Bool} {kd : Nat → Int} {L : Int} {wh : Nat → Int32} {C S : Nat → Prop} {p : Nat} (k0 : 0 ≤ kd p) (k5 : kd p ≤ 5) (hL : L ≤ 12) : zCom dd kd L wh C S p = -9 ∨ (0 ≤ zCom dd kd L wh C S p ∧ zCom dd kd L wh C S p < L) := by
  rcases z_comX (dd := dd) (L := L) (wh := wh) (C := C) (S := S) k0 k5 with ⟨-, h⟩ | ⟨-, h⟩
  · exact Or.inl h
  · rcases z_choR h with h | ⟨h1, h2, h3, -⟩
    · exact Or.inl h
    · exact Or.inr ⟨h1, by omega⟩
/-- what is said now: nothing, or a line of the play; so often -/
def zLt (L la ti : Int32) (N : Int) : Prop := (la.toInt = -9 ∧ ti.toInt = 0) ∨ ((0 ≤ la.toInt ∧ la.toInt < L.toInt) ∧ 1 ≤ ti.toInt ∧ ti.toInt ≤ N)
def zSrR (P : Int) (sp : Nat → Int32) : Prop := ∀ p : Nat, (p : Int) < P → 0 ≤ (sp p).toInt ∧ (sp p).toInt ≤ 9
theorem z_hq0 {P : Int} {kd sp : Nat → Int32} {p : Nat} (h : zSrR P sp) (hp : (p : Int) < P) : 0 ≤ zHq kd sp p := by
  have b := h p hp
  unfold zHq zHs
  split
  · have e : (2 * sp p).toInt = 2 * (sp p).toInt := z_mul (by decide) rfl (by omega) (by omega)
    have e2 : (2 * sp p + 1).toInt = 2 * (sp p).toInt + 1 := z_add e (by decide) (by omega) (by omega)
    omega
  · exact b.1
def zSaC (P L : Int) (G : Nat → ZQ) (tx sz on cu sp ow : Nat → Int32) (ki : Int32) (af : Nat → Int32) (sd dd la ti r sd2 dd2 la2 ti2 : Int32) : Prop :=
  (L = 0 ∧ r.toInt = -3 ∧ sd2 = sd ∧ dd2 = dd ∧ la2 = la ∧ ti2 = ti) ∨ (0 < L ∧ zWe P L G tx sz on cu 0 af L ∧ zNlC P L G sp ow af sd dd la ti (-9) r.toInt ∧ ((r.toInt = -9 ∧ sd2 = sd ∧ dd2 = dd ∧ la2 = la ∧ ti2 = ti) ∨ (r.toInt ≠ -9 ∧ (0 ≤ r.toInt → r.toInt < L → 0 ≤ (on r.toNatClampNeg).toInt → (on r.toNatClampNeg).toInt < 5 → zSpk (bt ki r.toInt.toNat = true) (on r.toNatClampNeg) sd dd ti r sd2 dd2 la2 ti2))))
def zSaM (P L : Int) (wd mn : Nat → Int32) (jk jw : Int32) (kd fg sp wh cu kl : Nat → Int32) (sd dd la ti r sd2 dd2 la2 ti2 : Int32) : Prop :=
  (L = 0 ∧ r.toInt = -3 ∧ sd2 = sd ∧ dd2 = dd ∧ la2 = la ∧ ti2 = ti) ∨ (0 < L ∧ ((la.toInt < 0 ∧ r.toInt = 0) ∨ (0 ≤ la.toInt ∧ (zFwH P kd → zBst P (zCr L kd wh (fun j => zIcR wd mn jk jw kd fg wh cu la.toInt (j : Int)) sd dd) (zHq kd sp) r.toInt))) ∧ ((r.toInt < 0 ∧ sd2 = sd ∧ dd2 = dd ∧ la2 = la ∧ ti2 = ti) ∨ (0 ≤ r.toInt ∧ zSpk ((kl r.toNatClampNeg).toInt = 1) (wh r.toNatClampNeg) sd dd ti r sd2 dd2 la2 ti2)))
/-- the same line is cued -/
theorem z_cueE {P L jk jw i : Int32} {G : Nat → ZQ} {tx sz on cu wd mn kd fg wh : Nat → Int32} {x : Int32} (a : zCbP L.toInt (zWf wd (5 * i.toNatClampNeg)) (mn i.toNatClampNeg).toInt wd mn (zHe kd fg on cu 0) L.toInt x) (H : zPy P.toInt L.toInt G tx sz on cu wd mn kd fg) (hw : ∀ l : Nat, (l : Int) < L.toInt → wh l = on l) (hj : jk.toInt = -9) (i0 : 0 ≤ i.toInt) {j : Nat} (hj12 : j < 12) (hjL : (j : Int) < L.toInt) : bt x j = true ↔ zIcR wd mn jk jw kd fg wh cu i.toInt (j : Int) := by
  rw [a.2 j hj12]
  have key : 1 ≤ j → (zEnds (zWf wd (5 * i.toNatClampNeg)) (mn i.toNatClampNeg).toInt (zWf wd (5 * (j - 1))) (mn (j - 1)).toInt (zHe kd fg on cu 0 j) ↔ zIcR wd mn jk jw kd fg wh cu i.toInt (j : Int)) := fun j1 => by
    unfold zIcR
    rw [z_heE H.2.2 hw hjL, z_deJ hj i0, z_deN2 j1]
    exact ⟨fun q => ⟨by omega, q⟩, fun q => q.2⟩
  exact ⟨fun q => (key q.1).mp q.2.2, fun q => ⟨by have := q.1; omega, hjL, (key (by have := q.1; omega)).mpr q⟩⟩
theorem z_ltM {L la ti : Int32} {N N2 : Int} (h : zLt L la ti N) (e : N ≤ N2) : zLt L la ti N2 := by
  rcases h with h | ⟨a, b, c⟩
  · exact Or.inl h
  · exact Or.inr ⟨a, b, by omega⟩
theorem z_saR {P L ki jk jw sd dd la ti r r2 : Int32} {G : Nat → ZQ} {N : Int} {sp cu ow on tx sz af a1 a2 a4 a5 a7 a8 : Nat → Int32} {i1 i2 i3 : Int} (hr : zRe P L ki sp cu ow on tx sz (zSt a1 a2 sp a4 a5 cu a7 a8 i1 i2 i3)) (hk : zKn P.toInt G a1 a2) (hL2 : L.toInt ≤ 12) (hj : jk.toInt = -9) (hsr : zSrR P.toInt sp) (hlt : zLt L la ti N) (h0 : 0 < L.toInt) (hwe : zWe P.toInt L.toInt G tx sz on cu 0 af L.toInt) (hnl : zNlC P.toInt L.toInt G sp ow af sd dd la ti (-9) r.toInt) (hfo : (la.toInt < 0 ∧ r2.toInt = 0) ∨ (0 ≤ la.toInt ∧ (zFwH P.toInt a1 → zBst P.toInt (zCr L.toInt a1 a4 (fun j => zIcR a8 a5 jk jw a1 a2 a4 cu la.toInt (j : Int)) sd dd) (zHq a1 sp) r2.toInt))) : r.toInt = r2.toInt ∧ (r.toInt = -9 ∨ (0 ≤ r.toInt ∧ r.toInt < L.toInt)) := by
  have H := z_pyRe hr hL2 hk
  have hA := z_reOw hr
  have hw : ∀ l : Nat, (l : Int) < L.toInt → a4 l = on l := fun l hl => (hr.2.2.1 l (by omega)).2.1
  have e9 : (-9 : Int32).toInt = -9 := by decide
  have e0 : (0 : Int32).toInt = 0 := by decide
  rcases hlt with ⟨l1, l2⟩ | ⟨⟨l1, l1b⟩, l2, l3⟩
  · rcases hnl with ⟨-, n⟩ | ⟨n, -⟩
    · rcases hfo with ⟨-, f⟩ | ⟨f, -⟩
      · exact ⟨by omega, Or.inr ⟨by omega, by omega⟩⟩
      · omega
    · exact absurd l2 n
  · rcases hnl with ⟨n, -⟩ | ⟨-, hnl⟩
    · omega
    · rcases hfo with ⟨f, -⟩ | ⟨-, hfo⟩
      · omega
      · have row := hwe (by decide) (by decide) a8 a5 a1 a2 H la.toNatClampNeg (by have := z_cl l1; omega)
        rw [e0] at row
        have b1 := hnl a1 a2 a4 (fun j => bt (af la.toNatClampNeg) j = true) ⟨⟨l1, l1b⟩, hk, hA, fun p hp => z_hq0 hsr hp, fun j _ => Iff.rfl⟩
        have b2 := hfo (fun p hp => (hk p hp).2.2.2.1)
        have ec : ∀ q : Nat, zCq L.toInt a1 a4 (fun j => bt (af la.toNatClampNeg) j = true) sd dd (-9 : Int32).toInt q = zCom (fun q => bt dd q) (fun q => (a1 q).toInt) L.toInt a4 (fun j => bt (af la.toNatClampNeg) j = true) (fun j => bt sd j = true) q := fun q => by
          unfold zCq
          rw [if_neg (by omega)]
        refine ⟨z_bstU b1 b2 (fun q hq => ?_) (fun _ _ => rfl), ?_⟩
        · rw [ec q]
          unfold zCr
          exact z_comC rfl (fun j hjL ho => z_cueE row H hw hj l1 (by omega) hjL)
        · rcases b1 with ⟨b, -⟩ | ⟨b, b0, -, b3, -⟩
          · exact Or.inl b
          · rw [ec b] at b3
            have kb := (hk b b0).2.2.2.1
            rw [b3]
            exact z_comR kb.1 kb.2 hL2
theorem z_saLaw {P L ki Q M jk jw sd dd la ti sdR ddR laR tiR r r2 sd2 dd2 la2 ti2 sd3 dd3 la3 ti3 : Int32} {G : Nat → ZQ} {N : Int} {sp cu ow on tx sz af a1 a2 a3 a4 a5 a6 a7 a8 : Nat → Int32} {i1 i2 i3 : Int} (hC : zSaC P.toInt L.toInt G tx sz on cu sp ow ki af sd dd la ti r sd2 dd2 la2 ti2) (hM : zSaM Q.toInt M.toInt a8 a5 jk jw a1 a2 a3 a4 a6 a7 sdR ddR laR tiR r2 sd3 dd3 la3 ti3) (hr : zRe P L ki sp cu ow on tx sz (zSt a1 a2 a3 a4 a5 a6 a7 a8 i1 i2 i3)) (hk : zKn P.toInt G a1 a2) (hs : sp = a3) (hc : cu = a6) (hP : P.toInt = Q.toInt) (hL : L.toInt = M.toInt) (hL2 : L.toInt ≤ 12) (hP5 : P.toInt ≤ 5) (hj : jk.toInt = -9) (hsr : zSrR P.toInt sp) (hlt : zLt L la ti N) (hN : N ≤ 100000) (hN0 : 0 ≤ N) (e1 : sd = sdR) (e2 : dd = ddR) (e3 : la = laR) (e4 : ti = tiR) : r.toInt = r2.toInt ∧ sd2 = sd3 ∧ dd2 = dd3 ∧ la2 = la3 ∧ ti2 = ti3 ∧ zLt L la2 ti2 (N + 3) := by
  obtain rfl := z_i32 hP
  obtain rfl := z_i32 hL
  subst hs hc e1 e2 e3 e4
  rcases hC with ⟨c0, c1, rfl, rfl, rfl, rfl⟩ | ⟨c0, hwe, hnl, hsp⟩
  · rcases hM with ⟨m0, m1, rfl, rfl, rfl, rfl⟩ | ⟨m0, -⟩
    · exact ⟨by omega, rfl, rfl, rfl, rfl, z_ltM hlt (by omega)⟩
    · omega
  · rcases hM with ⟨m0, -⟩ | ⟨m0, hfo, hsy⟩
    · omega
    · obtain ⟨er, rr⟩ := z_saR hr hk hL2 hj hsr hlt c0 hwe hnl hfo
      rcases hsp with ⟨s1, rfl, rfl, rfl, rfl⟩ | ⟨s1, hsp⟩
      · rcases hsy with ⟨y1, rfl, rfl, rfl, rfl⟩ | ⟨y1, -⟩
        · exact ⟨er, rfl, rfl, rfl, rfl, z_ltM hlt (by omega)⟩
        · omega
      · rcases hsy with ⟨y1, -⟩ | ⟨y1, hsy⟩
        · omega
        · obtain rfl := z_i32 er
          have r0 : 0 ≤ r.toInt := y1
          have rL : r.toInt < L.toInt := by omega
          have hcl := z_cl r0
          have ok := ((z_pyRe hr hL2 hk).2.2 r.toNatClampNeg (by omega)).1
          have w := hsp r0 rL ok.1 (by omega)
          have ek : bt ki r.toInt.toNat = true ↔ (a7 r.toNatClampNeg).toInt = 1 := by
            rw [hr.2.2.2.2.1.2.1 r.toInt.toNat (by omega)]
            exact decide_eq_true_iff
          obtain ⟨q1, q2, q3, q4⟩ := z_spkU w hsy ek ((hr.2.2.1 r.toNatClampNeg (by omega)).2.1).symm
          refine ⟨rfl, q1, q2, q3, q4, Or.inr ?_⟩
          have t2 : ti2.toInt = ti.toInt + 1 := by
            have hb : 0 ≤ ti.toInt ∧ ti.toInt ≤ 100000 := by
              rcases hlt with ⟨-, h⟩ | ⟨-, h, h'⟩ <;> omega
            rw [w.2.2.1]
            exact z_add rfl (by decide) (by omega) (by omega)
          rw [w.2.1]
          refine ⟨⟨r0, rL⟩, ?_⟩
          rcases hlt with ⟨-, h⟩ | ⟨-, h, h'⟩
          · exact ⟨by omega, by omega⟩
          · exact ⟨by omega, by omega⟩
/-! now, through a piece and the image -/
def zNw (sd dd la ti sd2 dd2 la2 ti2 : Int32) : Prop := sd2 = sd ∧ dd2 = dd ∧ la2 = la ∧ ti2 = ti
def zPcN (t : Nat → Int32) (n P L : Int) (sd dd la ti sd2 dd2 la2 ti2 : Int32) : Prop := ((zFwK t n 0 0 0 ≠ -9 ∨ zCkK t n 0 P L ≠ -9) ∧ zNw sd dd la ti sd2 dd2 la2 ti2) ∨ (zFwK t n 0 0 0 = -9 ∧ zCkK t n 0 P L = -9 ∧ zNw 0 0 (-9) 0 sd2 dd2 la2 ti2)
theorem z_pnF {t : Nat → Int32} {n P L f : Int} {sd dd la ti : Int32} (h : zFfP t n P L f) (hf : f ≠ 0) : zPcN t n P L sd dd la ti sd dd la ti := by
  refine Or.inl ⟨?_, rfl, rfl, rfl, rfl⟩
  rcases h with ⟨a, -⟩ | ⟨-, a, -⟩ | ⟨-, -, a⟩
  · exact Or.inl a
  · exact Or.inr a
  · exact absurd a hf
theorem z_pnG {t : Nat → Int32} {n P L f : Int} {sd dd la ti : Int32} (h : zFfP t n P L f) (hf : f = 0) : zPcN t n P L sd dd la ti 0 0 (-9) 0 := by
  rcases h with ⟨a, b, c⟩ | ⟨-, a, b, c⟩ | ⟨a, b, -⟩
  · omega
  · omega
  · exact Or.inr ⟨a, b, rfl, rfl, rfl, rfl⟩
theorem z_pnEq {t : Nat → Int32} {n P L Q M : Int} {sd dd la ti sd2 dd2 la2 ti2 sdR ddR laR tiR sd3 dd3 la3 ti3 : Int32} (h : zPcN t n P L sd dd la ti sd2 dd2 la2 ti2) (h2 : zPcN t n Q M sdR ddR laR tiR sd3 dd3 la3 ti3) (hP : P = Q) (hL : L = M) (e1 : sd = sdR) (e2 : dd = ddR) (e3 : la = laR) (e4 : ti = tiR) : sd2 = sd3 ∧ dd2 = dd3 ∧ la2 = la3 ∧ ti2 = ti3 ∧ ((la2 = la ∧ ti2 = ti ∧ (zFwK t n 0 0 0 ≠ -9 ∨ zCkK t n 0 P L ≠ -9)) ∨ (la2 = -9 ∧ ti2 = 0)) := by
  subst hP hL e1 e2 e3 e4
  rcases h with ⟨a, b1, b2, b3, b4⟩ | ⟨a, a', b1, b2, b3, b4⟩ <;> rcases h2 with ⟨c, d1, d2, d3, d4⟩ | ⟨c, c', d1, d2, d3, d4⟩
  · exact ⟨b1.trans d1.symm, b2.trans d2.symm, b3.trans d3.symm, b4.trans d4.symm, Or.inl ⟨b3, b4, a⟩⟩
  · omega
  · omega
  · exact ⟨b1.trans d1.symm, b2.trans d2.symm, b3.trans d3.symm, b4.trans d4.symm, Or.inr ⟨b3, b4⟩⟩
/-- latest stays a line of the play: behind a faulty piece the lines are as they were -/
theorem z_pnL {t : Nat → Int32} {n N N2 : Int} {P0 L0 k0 P L k la ti la2 ti2 : Int32} {sp0 cu0 ow0 on0 tx0 sz0 sp cu ow on tx sz : Nat → Int32} (h : zPcD t n P0 L0 k0 sp0 cu0 ow0 on0 tx0 sz0 P L k sp cu ow on tx sz) (hl : zLt L0 la ti N) (hN : N ≤ N2) (s : (la2 = la ∧ ti2 = ti ∧ (zFwK t n 0 0 0 ≠ -9 ∨ zCkK t n 0 P0.toInt L0.toInt ≠ -9)) ∨ (la2 = -9 ∧ ti2 = 0)) : zLt L la2 ti2 N2 := by
  rcases s with ⟨rfl, rfl, s⟩ | ⟨rfl, rfl⟩
  · rcases h with ⟨-, -, rfl, -⟩ | ⟨a, b, -⟩
    · exact z_ltM hl hN
    · omega
  · exact Or.inl ⟨by decide, by decide⟩
/-- the quickness of a piece's players -/
theorem z_srB {t : Nat → Int32} {n : Int} (hf : zFwK t n 0 0 0 = -9) : ∀ (m : Nat) (k : Int) (S : ZS), (n - k).toNat = m → 0 ≤ k → 0 ≤ S.1.1 → zCkK t n k S.1.1 S.1.2.1 = -9 → zSrR S.1.1 (S.2 2) → zSrR (zBrK t n k S).1.1 ((zBrK t n k S).2 2) := by
  intro m
  induction m with
  | zero =>
    intro k S hm k0 s0 hc hs
    rw [z_brE (by omega)]
    exact hs
  | succ m ih =>
    intro k S hm k0 s0 hc hs
    have hk : k < n := by omega
    by_cases hb : zBg t n k
    · rw [z_brB hk hb]
      have hok := z_okBg hf k0 hk hb
      by_cases hp : zAt t n k = 112
      · by_cases ft : zFtP t n k S.1.1
        · have e1 : (zCm t n k S).1.1 = S.1.1 + 1 := by unfold zCm; rw [if_pos hp]
          have e2 : (zCm t n k S).1.2.1 = S.1.2.1 := by unfold zCm; rw [if_pos hp]
          refine ih (k + 1) _ (by omega) (by omega) (by omega) (by rw [e1, e2, ← z_ckP hk hb hp ft]; exact hc) ?_
          have hd : zDg t n (k + 3) := by
            rcases hok with ⟨-, -, -, q, -⟩ | ⟨q, -⟩
            · exact q
            · omega
          have d1 := hd.1
          have d2 := hd.2
          intro p hp2
          rw [e1] at hp2
          have e3 : (zCm t n k S).2 2 = upd (S.2 2) S.1.1.toNat (zIo (zAt t n (k + 3) - 48)) := by unfold zCm; rw [if_pos hp]; rfl
          rw [e3, z_upd]
          by_cases q : p = S.1.1.toNat
          · rw [if_pos q, z_ioT (by omega) (by omega)]
            omega
          · rw [if_neg q]
            exact hs p (by omega)
        · rw [z_ckPX hk hb hp ft] at hc
          omega
      · by_cases ft : zFtL t n k S.1.1 S.1.2.1
        · have e1 : (zCm t n k S).1.1 = S.1.1 := by unfold zCm; rw [if_neg hp]
          have e2 : (zCm t n k S).1.2.1 = S.1.2.1 + 1 := by unfold zCm; rw [if_neg hp]
          refine ih (k + 1) _ (by omega) (by omega) (by omega) (by rw [e1, e2, ← z_ckL hk hb hp ft]; exact hc) ?_
          have e3 : (zCm t n k S).2 2 = S.2 2 := by unfold zCm; rw [if_neg hp]; rfl
          rw [e1, e3]
          exact hs
        · rw [z_ckLX hk hb hp ft] at hc
          omega
    · rw [z_brN hk hb]
      exact ih (k + 1) S (by omega) (by omega) s0 (by rw [← z_ckN hk hb]; exact hc) hs
theorem z_srEq {t : Nat → Int32} {n : Int} {Q0 M0 r2 Q M : Int32} {a1 a2 a3 a4 a5 a6 a7 a8 b1 b2 b3 b4 b5 b6 b7 b8 : Nat → Int32} (h2 : zPcM t n Q0 M0 a1 a2 a3 a4 a5 a6 a7 a8 r2 Q M b1 b2 b3 b4 b5 b6 b7 b8) (q0 : 0 ≤ Q0.toInt) (hs : zSrR Q0.toInt a3) : zSrR Q.toInt b3 := by
  rcases h2 with ⟨-, -, rfl, -, -, -, rfl, -⟩ | ⟨-, -, -, rfl, -, -, -, rfl, -⟩ | ⟨f, c, y3⟩
  · exact hs
  · exact hs
  · have w := z_srB f (n - 0).toNat 0 (zSt a1 a2 a3 a4 a5 a6 a7 a8 Q0.toInt M0.toInt 0) rfl (by omega) q0 c hs
    rw [y3] at w
    exact w
theorem z_srU {P lo hi : Int} {sp sp2 : Nat → Int32} {p c r : Int32} (h : zSrR P sp) (q : zCuP P 0 9 sp p c r sp2) : zSrR P sp2 := by
  rcases q with ⟨-, -, q⟩ | ⟨-, -, -, -, q⟩ | ⟨-, -, -, -, -, q⟩ | ⟨-, -, q1, q2, -, q⟩
  · rw [q]; exact h
  · rw [q]; exact h
  · rw [q]; exact h
  · intro j hj
    rw [q, z_upd]
    split
    · exact ⟨q1, q2⟩
    · exact h j hj
/-- the image's now and quickness -/
def zNi (h L sd dd la ti : Int32) (K : Nat → Int32) (N : Int) : Prop := h.toInt = 1 → (sd = K 126 ∧ dd = K 127 ∧ la = K 128 ∧ ti = K 129) ∧ zLt L la ti N
theorem z_ni0 {L sd dd la ti : Int32} {K : Nat → Int32} {N : Int} : zNi 0 L sd dd la ti K N := fun h => absurd h (by decide)
theorem z_niT {h L sd dd la ti : Int32} {K K2 : Nat → Int32} {N N2 : Int} (i : zNi h L sd dd la ti K N) (k : zKK K K2) (e : N ≤ N2) : zNi h L sd dd la ti K2 N2 := fun h1 => by
  obtain ⟨⟨a, b, c, d⟩, w⟩ := i h1
  exact ⟨⟨by rw [k 126 (by decide)]; exact a, by rw [k 127 (by decide)]; exact b, by rw [k 128 (by decide)]; exact c, by rw [k 129 (by decide)]; exact d⟩, z_ltM w e⟩
theorem z_niM {h L sd dd la ti : Int32} {K : Nat → Int32} {N N2 : Int} (i : zNi h L sd dd la ti K N) (e : N ≤ N2) : zNi h L sd dd la ti K N2 := fun h1 => ⟨(i h1).1, z_ltM (i h1).2 e⟩
def zSi (h P : Int32) (sp : Nat → Int32) : Prop := h.toInt = 1 → zSrR P.toInt sp
theorem z_si0 {P : Int32} {sp : Nat → Int32} : zSi 0 P sp := fun h => absurd h (by decide)
theorem z_brCn {t : Nat → Int32} {n : Int} : ∀ (m : Nat) (k : Int) (S : ZS), S.1.2.2 ≤ (zBr t n m k S).1.2.2 := by
  intro m
  induction m with
  | zero => intro k S; exact Int.le_refl _
  | succ m ih =>
    intro k S
    show S.1.2.2 ≤ (if zBg t n k then zBr t n m (k + 1) (zCm t n k S) else zBr t n m (k + 1) S).1.2.2
    split
    · have w := ih (k + 1) (zCm t n k S)
      rw [z_cmC] at w
      omega
    · exact ih (k + 1) S
theorem z_pnX {t : Nat → Int32} {n : Int} {P0 L0 r P L : Int32} {a1 a2 a3 a4 a5 a6 a7 a8 b1 b2 b3 b4 b5 b6 b7 b8 : Nat → Int32} {sd dd la ti : Int32} (h : zPcM t n P0 L0 a1 a2 a3 a4 a5 a6 a7 a8 r P L b1 b2 b3 b4 b5 b6 b7 b8) (hr : r.toInt < 0) : zPcN t n P0.toInt L0.toInt sd dd la ti sd dd la ti := by
  refine Or.inl ⟨?_, rfl, rfl, rfl, rfl⟩
  rcases h with ⟨a, -⟩ | ⟨-, a, -⟩ | ⟨-, -, a⟩
  · exact Or.inl a
  · exact Or.inr a
  · have w := z_brCn (t := t) (n := n) (n - 0).toNat 0 (zSt a1 a2 a3 a4 a5 a6 a7 a8 P0.toInt L0.toInt 0)
    have e : (zBrK t n 0 (zSt a1 a2 a3 a4 a5 a6 a7 a8 P0.toInt L0.toInt 0)).1.2.2 = r.toInt := by rw [a]; rfl
    have w2 : (0 : Int) ≤ (zBrK t n 0 (zSt a1 a2 a3 a4 a5 a6 a7 a8 P0.toInt L0.toInt 0)).1.2.2 := w
    omega
theorem z_pnS {t : Nat → Int32} {n P L : Int} {sd dd la ti : Int32} (a : zFwK t n 0 0 0 = -9) (b : zCkK t n 0 P L = -9) : zPcN t n P L sd dd la ti 0 0 (-9) 0 := Or.inr ⟨a, b, rfl, rfl, rfl, rfl⟩
theorem z_niI {L sd dd la ti sd2 dd2 la2 ti2 : Int32} {K2 a1 a2 a3 a4 a5 a6 a7 a8 : Nat → Int32} {i1 i2 i3 sdR ddR laR tiR : Int32} {N N2 : Int} (hn : zNw sd dd la ti sd2 dd2 la2 ti2) (hl : zLt L la ti N) (e1 : sd = sdR) (e2 : dd = ddR) (e3 : la = laR) (e4 : ti = tiR) (hN : N ≤ N2) (hk : ∀ j : Nat, j < 130 → K2 j = zEnc a1 a2 a3 a4 a5 a6 a7 a8 i1 i2 i3 sdR ddR laR tiR j) : zNi 1 L sd2 dd2 la2 ti2 K2 N2 := fun _ => by
  obtain ⟨rfl, rfl, rfl, rfl⟩ := hn
  subst e1 e2 e3 e4
  exact ⟨⟨by rw [hk 126 (by decide), ← z_encI4], by rw [hk 127 (by decide), ← z_encI5], by rw [hk 128 (by decide), ← z_encI6], by rw [hk 129 (by decide), ← z_encI7]⟩, z_ltM hl hN⟩
def zRsN (h : Int32) (sd dd la ti sdI ddI laI tiI sd2 dd2 la2 ti2 : Int32) : Prop := (h.toInt = 0 ∧ zNw sd dd la ti sd2 dd2 la2 ti2) ∨ (h.toInt = 1 ∧ zNw sdI ddI laI tiI sd2 dd2 la2 ti2)
theorem z_niR {h h2 P L O P0 L0 Q0 P2 L2 O2 r q sd dd la ti sdI ddI laI tiI sd2 dd2 la2 ti2 : Int32} {sp cu sp0 cu0 sp2 cu2 K a1 a2 a3 a4 a5 a6 a7 a8 b1 b2 b3 b4 b5 b6 b7 b8 : Nat → Int32} {i1 i2 i3 i4 i5 i6 i7 r1 r2 r3 r4 r5 r6 r7 : Int32} {N N2 : Int} (hC : zRsC h P L O P0 L0 Q0 sp cu sp0 cu0 P2 L2 O2 r sp2 cu2) (hD : zRsN h sd dd la ti sdI ddI laI tiI sd2 dd2 la2 ti2) (hM : zRsM h2 K a1 a2 a3 a4 a5 a6 a7 a8 i1 i2 i3 i4 i5 i6 i7 b1 b2 b3 b4 b5 b6 b7 b8 r1 r2 r3 r4 r5 r6 r7 q) (hi : zNi h L0 sdI ddI laI tiI K N) (eh : h.toInt = h2.toInt) (hl : zLt L la ti N) (e1 : sd = i4) (e2 : dd = i5) (e3 : la = i6) (e4 : ti = i7) (hN : N ≤ N2) : sd2 = r4 ∧ dd2 = r5 ∧ la2 = r6 ∧ ti2 = r7 ∧ zLt L2 la2 ti2 N2 := by
  rcases hC with ⟨x1, -, -, rfl, -⟩ | ⟨x1, -, -, rfl, -⟩
  · rcases hD with ⟨-, rfl, rfl, rfl, rfl⟩ | ⟨y, -⟩
    · rcases hM with ⟨-, -, -, -, -, -, -, -, -, -, -, -, -, f4, f5, f6, f7⟩ | ⟨y1, -⟩
      · subst f4 f5 f6 f7 e1 e2 e3 e4
        exact ⟨rfl, rfl, rfl, rfl, z_ltM hl hN⟩
      · omega
    · omega
  · rcases hD with ⟨y, -⟩ | ⟨-, rfl, rfl, rfl, rfl⟩
    · omega
    · rcases hM with ⟨y1, -⟩ | ⟨y1, y2, y3, -⟩
      · omega
      · obtain ⟨⟨w1, w2, w3, w4⟩, w5⟩ := hi x1
        exact ⟨by rw [w1, y3 126 (by decide), ← z_encI4], by rw [w2, y3 127 (by decide), ← z_encI5], by rw [w3, y3 128 (by decide), ← z_encI6], by rw [w4, y3 129 (by decide), ← z_encI7], z_ltM w5 hN⟩
theorem z_siI {P : Int32} {sp sp0 sp2 : Nat → Int32} (h : zSrR P.toInt sp) (hP : P.toInt ≤ 5) (hs : zCpy 5 sp0 sp sp2) : zSi 1 P sp2 := fun _ p hp => by
  rw [hs p, if_pos (by omega)]
  exact h p hp
theorem z_siR {h P L O P0 L0 Q0 P2 L2 O2 r : Int32} {sp cu sp0 cu0 sp2 cu2 : Nat → Int32} (hC : zRsC h P L O P0 L0 Q0 sp cu sp0 cu0 P2 L2 O2 r sp2 cu2) (hi : zSi h P0 sp0) (hP : P0.toInt ≤ 5) (hs : zSrR P.toInt sp) : zSrR P2.toInt sp2 := by
  rcases hC with ⟨x1, -, rfl, -, rfl, -⟩ | ⟨x1, -, rfl, -, x5, -⟩
  · exact hs
  · intro p hp
    rw [x5 p, if_pos (by omega)]
    exact hi x1 p hp
/-- comes -/
theorem z_coLaw {P L ki Q M jk jw sd dd la ti sdR ddR laR p r r2 : Int32} {G : Nat → ZQ} {N : Int} {sp cu ow on tx sz af a1 a2 a3 a4 a5 a6 a7 a8 : Nat → Int32} {i1 i2 i3 : Int} (hC : zFoP P.toInt (zWe P.toInt L.toInt G tx sz on cu 0 af L.toInt ∧ zCmC P.toInt L.toInt G ow af sd dd la p r.toInt) p.toInt r.toInt) (hM : zFoP Q.toInt ((laR.toInt < 0 ∧ r2.toInt = -9) ∨ (0 ≤ laR.toInt ∧ (0 ≤ (a1 p.toNatClampNeg).toInt → (a1 p.toNatClampNeg).toInt ≤ 5 → zCwA (bt ddR p.toInt.toNat) (a1 p.toNatClampNeg).toInt M.toInt a4 (fun j => zIcR a8 a5 jk jw a1 a2 a4 a6 laR.toInt (j : Int)) (fun j => bt sdR j = true) p.toInt r2.toInt))) p.toInt r2.toInt) (hr : zRe P L ki sp cu ow on tx sz (zSt a1 a2 a3 a4 a5 a6 a7 a8 i1 i2 i3)) (hk : zKn P.toInt G a1 a2) (hc : cu = a6) (hP : P.toInt = Q.toInt) (hL : L.toInt = M.toInt) (hL2 : L.toInt ≤ 12) (hj : jk.toInt = -9) (hlt : zLt L la ti N) (e1 : sd = sdR) (e2 : dd = ddR) (e3 : la = laR) : r.toInt = r2.toInt := by
  obtain rfl := z_i32 hP
  obtain rfl := z_i32 hL
  subst hc e1 e2 e3
  have H := z_pyRe hr hL2 hk
  have hA := z_reOw hr
  have hw : ∀ l : Nat, (l : Int) < L.toInt → a4 l = on l := fun l hl => (hr.2.2.1 l (by omega)).2.1
  have e0 : (0 : Int32).toInt = 0 := by decide
  rcases hC with ⟨a, b⟩ | ⟨a, b, hwe, c⟩ <;> rcases hM with ⟨d, e⟩ | ⟨d, e, f⟩
  · omega
  · omega
  · omega
  · rcases hlt with ⟨l1, -⟩ | ⟨⟨l1, l1b⟩, -⟩
    · rcases c with ⟨-, c⟩ | ⟨c, -⟩
      · rcases f with ⟨-, f⟩ | ⟨f, -⟩
        · omega
        · omega
      · omega
    · rcases c with ⟨c, -⟩ | ⟨-, -, c⟩
      · omega
      · rcases f with ⟨f, -⟩ | ⟨-, f⟩
        · omega
        · have kb := (hk p.toNatClampNeg (by have := z_cl a; omega)).2.2.2.1
          have row := hwe (by decide) (by decide) a8 a5 a1 a2 H la.toNatClampNeg (by have := z_cl l1; omega)
          rw [e0] at row
          have w1 := c a b a1 a2 a4 (fun j => bt (af la.toNatClampNeg) j = true) hk hA (fun _ _ => Iff.rfl)
          exact z_cwU w1 (f kb.1 kb.2) rfl rfl (fun j hj12 hjL ho => z_cueE row H hw hj l1 hj12 hjL) (fun _ _ => Iff.rfl)

