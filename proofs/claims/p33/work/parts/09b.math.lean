/-- what is told of a line, of a player -/
def zBt (x p r : Int32) : Prop := (r.toInt = 1 ∧ bt x p.toInt.toNat = true) ∨ (r.toInt = 0 ∧ bt x p.toInt.toNat = false)
theorem z_btU {x p r r2 : Int32} (h1 : zBt x p r) (h2 : zBt x p r2) : r.toInt = r2.toInt := by
  rcases h1 with ⟨a, b⟩ | ⟨a, b⟩ <;> rcases h2 with ⟨c, d⟩ | ⟨c, d⟩
  · omega
  · rw [b] at d; cases d
  · rw [b] at d; cases d
  · omega
def zK1 (a : Nat → Int32) : Prop := ∀ l : Nat, l < 12 → 0 ≤ (a l).toInt ∧ (a l).toInt ≤ 1
def zK1i (h : Int32) (K : Nat → Int32) : Prop := h.toInt = 1 → ∀ l : Nat, l < 12 → 0 ≤ (K (51 + l)).toInt ∧ (K (51 + l)).toInt ≤ 1
theorem z_k10 : zK1 (fun _ => (0 : Int32)) := fun _ _ => (show (0 : Int) ≤ (0 : Int32).toInt ∧ (0 : Int32).toInt ≤ 1 from by decide)
theorem z_k1i0 {K : Nat → Int32} : zK1i 0 K := fun h => absurd h (by decide)
theorem z_k1B {t : Nat → Int32} {n : Int} : ∀ (m : Nat) (k : Int) (S : ZS), zK1 (S.2 6) → zK1 ((zBr t n m k S).2 6) := by
  intro m
  induction m with
  | zero => intro k S h; exact h
  | succ m ih =>
    intro k S h
    show zK1 ((if zBg t n k then zBr t n m (k + 1) (zCm t n k S) else zBr t n m (k + 1) S).2 6)
    split
    · refine ih (k + 1) _ ?_
      by_cases hp : zAt t n k = 112
      · have e3 : (zCm t n k S).2 6 = S.2 6 := by unfold zCm; rw [if_pos hp]; rfl
        rw [e3]
        exact h
      · have e3 : (zCm t n k S).2 6 = upd (S.2 6) S.1.2.1.toNat (zIo (zXc t n (k + 3 + zWd t n (k + 2)))) := by unfold zCm; rw [if_neg hp]; rfl
        rw [e3]
        intro l hl
        rw [z_upd]
        split
        · have x0 : 0 ≤ zXc t n (k + 3 + zWd t n (k + 2)) ∧ zXc t n (k + 3 + zWd t n (k + 2)) ≤ 1 := by unfold zXc; split <;> omega
          rw [z_ioT x0.1 (by omega)]
          exact x0
        · exact h l hl
    · exact ih (k + 1) S h
theorem z_k1Eq {t : Nat → Int32} {n : Int} {Q0 M0 r2 Q M : Int32} {a1 a2 a3 a4 a5 a6 a7 a8 b1 b2 b3 b4 b5 b6 b7 b8 : Nat → Int32} (h2 : zPcM t n Q0 M0 a1 a2 a3 a4 a5 a6 a7 a8 r2 Q M b1 b2 b3 b4 b5 b6 b7 b8) (hs : zK1 a7) : zK1 b7 := by
  rcases h2 with ⟨-, -, -, -, -, -, -, -, -, -, rfl, -⟩ | ⟨-, -, -, -, -, -, -, -, -, -, -, rfl, -⟩ | ⟨f, c, y3⟩
  · exact hs
  · exact hs
  · have w : zK1 ((zBrK t n 0 (zSt a1 a2 a3 a4 a5 a6 a7 a8 Q0.toInt M0.toInt 0)).2 6) := z_k1B (n - 0).toNat 0 (zSt a1 a2 a3 a4 a5 a6 a7 a8 Q0.toInt M0.toInt 0) hs
    rw [y3] at w
    exact w
theorem z_k1I {K2 a1 a2 a3 a4 a5 a6 a7 a8 : Nat → Int32} {i1 i2 i3 i4 i5 i6 i7 : Int32} (h : zK1 a7) (hk : ∀ j : Nat, j < 130 → K2 j = zEnc a1 a2 a3 a4 a5 a6 a7 a8 i1 i2 i3 i4 i5 i6 i7 j) : zK1i 1 K2 := fun _ l hl => by
  have w := z_encA7 (a1 := a1) (a2 := a2) (a3 := a3) (a4 := a4) (a5 := a5) (a6 := a6) (a7 := a7) (a8 := a8) (i1 := i1) (i2 := i2) (i3 := i3) (i4 := i4) (i5 := i5) (i6 := i6) (i7 := i7) l (by omega)
  rw [hk (51 + l) (by omega), ← w]
  exact h l hl
theorem z_k1T {h : Int32} {K K2 : Nat → Int32} (i : zK1i h K) (k : zKK K K2) : zK1i h K2 := fun h1 l hl => by rw [k (51 + l) (by omega)]; exact i h1 l hl
theorem z_k1R {h h2 q : Int32} {K a1 a2 a3 a4 a5 a6 a7 a8 b1 b2 b3 b4 b5 b6 b7 b8 : Nat → Int32} {i1 i2 i3 i4 i5 i6 i7 r1 r2 r3 r4 r5 r6 r7 : Int32} (hM : zRsM h2 K a1 a2 a3 a4 a5 a6 a7 a8 i1 i2 i3 i4 i5 i6 i7 b1 b2 b3 b4 b5 b6 b7 b8 r1 r2 r3 r4 r5 r6 r7 q) (hi : zK1i h K) (eh : h.toInt = h2.toInt) (hs : zK1 a7) : zK1 b7 := by
  rcases hM with ⟨-, -, -, -, -, -, -, -, rfl, -⟩ | ⟨y1, y2, y3, -⟩
  · exact hs
  · intro l hl
    have w := z_encA7 (a1 := b1) (a2 := b2) (a3 := b3) (a4 := b4) (a5 := b5) (a6 := b6) (a7 := b7) (a8 := b8) (i1 := r1) (i2 := r2) (i3 := r3) (i4 := r4) (i5 := r5) (i6 := r6) (i7 := r7) l (by omega)
    rw [w, ← y3 (51 + l) (by omega)]
    exact hi (by omega) l hl
def zQlC (L : Int) (on sz cu : Nat → Int32) (ki sd l w r : Int32) : Prop := ((l.toInt < 0 ∨ L ≤ l.toInt) ∧ r.toInt = -1) ∨ (0 ≤ l.toInt ∧ l.toInt < L ∧ ((w.toInt = 0 ∧ r = on l.toNatClampNeg) ∨ (w.toInt = 1 ∧ r = sz l.toNatClampNeg) ∨ (w.toInt = 2 ∧ r = cu l.toNatClampNeg) ∨ (w.toInt = 3 ∧ zBt ki l r) ∨ (w.toInt = 4 ∧ zBt sd l r) ∨ ((w.toInt < 0 ∨ 4 < w.toInt) ∧ r.toInt = -2)))
def zQlM (L : Int) (wh mn cu kl : Nat → Int32) (sd l w r : Int32) : Prop := ((l.toInt < 0 ∨ L ≤ l.toInt) ∧ r.toInt = -1) ∨ (0 ≤ l.toInt ∧ l.toInt < L ∧ ((w.toInt = 0 ∧ r = wh l.toNatClampNeg) ∨ (w.toInt = 1 ∧ r = mn l.toNatClampNeg) ∨ (w.toInt = 2 ∧ r = cu l.toNatClampNeg) ∨ (w.toInt = 3 ∧ r = kl l.toNatClampNeg) ∨ (w.toInt = 4 ∧ zBt sd l r) ∨ ((w.toInt < 0 ∨ 4 < w.toInt) ∧ r.toInt = -2)))
theorem z_bt3 {x l r r2 : Int32} {kl : Nat → Int32} (h1 : zBt x l r) (hb : bt x l.toInt.toNat = decide ((kl l.toNatClampNeg).toInt = 1)) (hk : 0 ≤ (kl l.toNatClampNeg).toInt ∧ (kl l.toNatClampNeg).toInt ≤ 1) (h2 : r2 = kl l.toNatClampNeg) : r.toInt = r2.toInt := by
  rw [h2]
  rcases h1 with ⟨a, b⟩ | ⟨a, b⟩
  · rw [b] at hb
    have := of_decide_eq_true hb.symm
    omega
  · rw [b] at hb
    have := of_decide_eq_false hb.symm
    omega
theorem z_qlLaw {P L ki M sd sdR l w r r2 : Int32} {sp cu ow on tx sz a1 a2 a3 a4 a5 a6 a7 a8 : Nat → Int32} {i1 i2 i3 : Int} (hC : zQlC L.toInt on sz cu ki sd l w r) (hM : zQlM M.toInt a4 a5 a6 a7 sdR l w r2) (hr : zRe P L ki sp cu ow on tx sz (zSt a1 a2 a3 a4 a5 a6 a7 a8 i1 i2 i3)) (hc : cu = a6) (hL : L.toInt = M.toInt) (hL2 : L.toInt ≤ 12) (hs : sd = sdR) (hk : zK1 a7) : r.toInt = r2.toInt := by
  subst hs
  rcases hC with ⟨a, b⟩ | ⟨a, b, c⟩ <;> rcases hM with ⟨d, e⟩ | ⟨d, e, f⟩
  · omega
  · omega
  · omega
  · have hl : (l.toNatClampNeg : Int) = l.toInt := z_cl a
    have q0 := hr.2.2.1 l.toNatClampNeg (by omega)
    have q2 : a4 l.toNatClampNeg = on l.toNatClampNeg := q0.2.1
    have q3 : a5 l.toNatClampNeg = sz l.toNatClampNeg := q0.2.2
    have q6 : bt ki l.toNatClampNeg = decide ((a7 l.toNatClampNeg).toInt = 1) := hr.2.2.2.2.1.2.1 l.toNatClampNeg (by omega)
    have e9 : l.toInt.toNat = l.toNatClampNeg := rfl
    rcases c with ⟨c1, c2⟩ | ⟨c1, c2⟩ | ⟨c1, c2⟩ | ⟨c1, c2⟩ | ⟨c1, c2⟩ | ⟨c1, c2⟩ <;> rcases f with ⟨f1, f2⟩ | ⟨f1, f2⟩ | ⟨f1, f2⟩ | ⟨f1, f2⟩ | ⟨f1, f2⟩ | ⟨f1, f2⟩ <;> first
      | (exfalso; omega)
      | omega
      | (rw [c2, f2, q2]; done)
      | (rw [c2, f2, q3]; done)
      | (rw [c2, f2, hc]; done)
      | exact z_bt3 c2 (by rw [e9]; exact q6) (hk _ (by omega)) f2
      | exact z_btU c2 f2
def zQpC (P : Int) (G : Nat → ZQ) (sp ow : Nat → Int32) (dd p w r : Int32) : Prop := ((p.toInt < 0 ∨ P ≤ p.toInt) ∧ r.toInt = -1) ∨ (0 ≤ p.toInt ∧ p.toInt < P ∧ ((w.toInt = 0 ∧ ∀ kd fg : Nat → Int32, zKn P G kd fg → r.toInt = (kd p.toNatClampNeg).toInt) ∨ (w.toInt = 1 ∧ ∀ kd fg : Nat → Int32, zKn P G kd fg → r = fg p.toNatClampNeg) ∨ (w.toInt = 2 ∧ ∀ kd fg : Nat → Int32, zKn P G kd fg → r = zHs kd sp p.toNatClampNeg) ∨ (w.toInt = 3 ∧ r = ow p.toNatClampNeg) ∨ (w.toInt = 4 ∧ zBt dd p r) ∨ ((w.toInt < 0 ∨ 4 < w.toInt) ∧ r.toInt = -2)))
def zQpM (P L : Int) (kd fg sp wh : Nat → Int32) (dd p w r : Int32) : Prop := ((p.toInt < 0 ∨ P ≤ p.toInt) ∧ r.toInt = -1) ∨ (0 ≤ p.toInt ∧ p.toInt < P ∧ ((w.toInt = 0 ∧ r = kd p.toNatClampNeg) ∨ (w.toInt = 1 ∧ r = fg p.toNatClampNeg) ∨ (w.toInt = 2 ∧ r = zHs kd sp p.toNatClampNeg) ∨ (w.toInt = 3 ∧ zOwL L wh p.toInt r) ∨ (w.toInt = 4 ∧ zBt dd p r) ∨ ((w.toInt < 0 ∨ 4 < w.toInt) ∧ r.toInt = -2)))
theorem z_prW {P p : Int} {G : Nat → ZQ} {b : Prop} {w : (Nat → Int32) → (Nat → Int32) → Prop} (h : zPr P G p b w) (h0 : 0 ≤ p) (h1 : p < P) : ∀ kd fg : Nat → Int32, zKn P G kd fg → w kd fg := by
  rcases h with ⟨a, -⟩ | ⟨-, -, c⟩
  · exact absurd a (by omega)
  · exact c
theorem z_qpLaw {P L ki Q M dd ddR p w r r2 : Int32} {G : Nat → ZQ} {sp cu ow on tx sz a1 a2 a3 a4 a5 a6 a7 a8 : Nat → Int32} {i1 i2 i3 : Int} (hC : zQpC P.toInt G sp ow dd p w r) (hM : zQpM Q.toInt M.toInt a1 a2 a3 a4 ddR p w r2) (hr : zRe P L ki sp cu ow on tx sz (zSt a1 a2 a3 a4 a5 a6 a7 a8 i1 i2 i3)) (hk : zKn P.toInt G a1 a2) (hs : sp = a3) (hP : P.toInt = Q.toInt) (hL : L.toInt = M.toInt) (hL2 : L.toInt ≤ 12) (hd : dd = ddR) : r.toInt = r2.toInt := by
  subst hd
  rcases hC with ⟨a, b⟩ | ⟨a, b, c⟩ <;> rcases hM with ⟨d, e⟩ | ⟨d, e, f⟩
  · omega
  · omega
  · omega
  · have hp : (p.toNatClampNeg : Int) = p.toInt := z_cl a
    have ho := (z_reOw hr) p.toNatClampNeg (by omega)
    rw [hp, hL] at ho
    rcases c with ⟨c1, c2⟩ | ⟨c1, c2⟩ | ⟨c1, c2⟩ | ⟨c1, c2⟩ | ⟨c1, c2⟩ | ⟨c1, c2⟩ <;> rcases f with ⟨f1, f2⟩ | ⟨f1, f2⟩ | ⟨f1, f2⟩ | ⟨f1, f2⟩ | ⟨f1, f2⟩ | ⟨f1, f2⟩ <;> first
      | (exfalso; omega)
      | omega
      | (rw [f2]; exact c2 _ _ hk)
      | (rw [f2, c2 _ _ hk]; done)
      | (rw [f2, c2 _ _ hk, hs]; done)
      | exact congrArg Int32.toInt (c2.trans (z_owU ho f2))
      | exact z_btU c2 f2
/-- refusals counted -/
def zRfv (f : Nat → Int32) (j : Nat) : Nat → Int32 := upd f j (f j + 1)
def zRfk (f : Nat → Int32) (k : Int) : Nat → Int32 := if k = 0 then f else zRfv f k.toNat
theorem z_rf0 {f : Nat → Int32} : f = zRfk f 0 := by
  unfold zRfk
  rw [if_pos rfl]
theorem z_rfK {f f1 : Nat → Int32} {a k : Int} (h : f1 = zRfv f (-a).toNat) (e : -a = k) (k0 : k ≠ 0) : f1 = zRfk f k := by
  rw [h, e]
  unfold zRfk
  rw [if_neg k0]
theorem z_rfV {f f2 : Nat → Int32} {y w w2 p : Int32} (hy : y.toInt = -p.toInt) (ew : w = f y.toNatClampNeg) (ew2 : w2 = w + 1) (ef : upd f y.toNatClampNeg w2 = f2) : f2 = zRfv f (-p.toInt).toNat := by
  have e : y.toNatClampNeg = (-p.toInt).toNat := by
    show y.toInt.toNat = _
    rw [hy]
  rw [← ef, ew2, ew, e]
  rfl
theorem z_rfEq {f g f1 g1 : Nat → Int32} {k1 k2 : Int} (h1 : f1 = zRfk f k1) (h2 : g1 = zRfk g k2) (e : f = g) (ek : k1 = k2) : f1 = g1 := by rw [h1, h2, e, ek]
/-- how many words -/
def zSm (f : Nat → Int32) : Nat → Int
  | 0 => 0
  | k + 1 => zSm f k + (f k).toInt
theorem z_smC {f g : Nat → Int32} : ∀ k : Nat, (∀ l : Nat, l < k → f l = g l) → zSm f k = zSm g k := by
  intro k
  induction k with
  | zero => intro _; rfl
  | succ k ih =>
    intro h
    show zSm f k + (f k).toInt = zSm g k + (g k).toInt
    rw [ih (fun l hl => h l (by omega)), h k (by omega)]
theorem z_smS {f : Nat → Int32} {a k a2 k2 w : Int32} (h : a.toInt = zSm f k.toInt.toNat) (k0 : 0 ≤ k.toInt) (hk : k2.toInt = k.toInt + 1) (ew : w = f k.toNatClampNeg) (ha : a2.toInt = a.toInt + w.toInt) : a2.toInt = zSm f k2.toInt.toNat := by
  rw [show k2.toInt.toNat = k.toInt.toNat + 1 by omega, ha, h, ew]
  rfl
theorem z_sm0 {f : Nat → Int32} {a k : Int32} (ha : a.toInt = 0) (hk : k.toInt = 0) : a.toInt = zSm f k.toInt.toNat := by
  rw [ha, hk]
  rfl
theorem z_smE {f : Nat → Int32} {a : Int32} {k L : Int} (h : a.toInt = zSm f k.toNat) (e : k = L) : a.toInt = zSm f L.toNat := by
  rw [← e]
  exact h
/-- count -/
def zCt9 (P L ti la ws sz rn lo : Int) (rf : Nat → Int32) (p r : Int) : Prop := (p = 0 ∧ r = P) ∨ (p = 1 ∧ r = L) ∨ (p = 2 ∧ r = ti) ∨ (p = 3 ∧ r = la) ∨ (p = 4 ∧ r = ws) ∨ (p = 5 ∧ r = sz) ∨ (p = 6 ∧ r = rn) ∨ (p = 7 ∧ r = lo) ∨ (11 ≤ p ∧ p ≤ 16 ∧ r = (rf (p - 10).toNat).toInt) ∨ ((p < 0 ∨ (7 < p ∧ p < 11) ∨ 16 < p) ∧ r = -9)
theorem z_ctR {P L ti la ws sz rn lo : Int} {rf : Nat → Int32} {p r : Int} {i w : Int32} (h1 : 11 ≤ p) (h2 : p ≤ 16) (hi : i.toInt = p - 10) (ew : w = rf i.toNatClampNeg) (hr : r = w.toInt) : zCt9 P L ti la ws sz rn lo rf p r := by
  refine Or.inr (Or.inr (Or.inr (Or.inr (Or.inr (Or.inr (Or.inr (Or.inr (Or.inl ⟨h1, h2, ?_⟩))))))))
  rw [hr, ew, show i.toNatClampNeg = (p - 10).toNat by have := z_cl (show 0 ≤ i.toInt by omega); omega]
theorem z_ctU {P L ti la ws sz rn lo P2 L2 ti2 la2 ws2 sz2 rn2 lo2 : Int} {rf rf2 : Nat → Int32} {p r r2 : Int} (h : zCt9 P L ti la ws sz rn lo rf p r) (h2 : zCt9 P2 L2 ti2 la2 ws2 sz2 rn2 lo2 rf2 p r2) (e1 : P = P2) (e2 : L = L2) (e3 : ti = ti2) (e4 : la = la2) (e5 : ws = ws2) (e6 : sz = sz2) (e7 : rn = rn2) (e8 : lo = lo2) (e9 : rf = rf2) : r = r2 := by
  subst e9
  rcases h with h | h | h | h | h | h | h | h | h | h <;> rcases h2 with h2 | h2 | h2 | h2 | h2 | h2 | h2 | h2 | h2 | h2 <;> omega
theorem z_wsRe {P L ki : Int32} {M : Int32} {sp cu ow on tx sz a1 a2 a3 a4 a5 a6 a7 a8 : Nat → Int32} {i1 i2 i3 : Int} (hr : zRe P L ki sp cu ow on tx sz (zSt a1 a2 a3 a4 a5 a6 a7 a8 i1 i2 i3)) (hL2 : L.toInt ≤ 12) (hL : L.toInt = M.toInt) : zSm sz L.toInt.toNat = zSm a5 M.toInt.toNat := by
  rw [← hL]
  exact z_smC _ (fun l hl => (hr.2.2.1 l (by omega)).2.2.symm)

