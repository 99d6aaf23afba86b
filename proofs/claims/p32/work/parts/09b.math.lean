/-- what is told of a line, of a player -/
def zBt (x p r : Int32) : Prop := (r.toInt = 1 ∧ bt x p.toInt.toNat = true) ∨ (r.toInt = 0 ∧ bt x p.toInt.toNat = false)
theorem z_btU {x p r r2 : Int32} (h1 : zBt x p r) (h2 : zBt x p r2) : r.toInt = r2.toInt := by
  rcases h1 with ⟨a, b⟩ | ⟨a, b⟩ <;> rcases h2 with ⟨c, d⟩ | ⟨c, d⟩
  · omega
  · rw [b] at d; cases d
  · rw [b] at d; cases d
  · omega
def zK1 (a : Nat → Int32) : Prop := ∀ l : Nat, l < 12 → 0 ≤ (a l).toInt ∧ (a l).toInt ≤ 1
def zK1i (h : Int32) (K : Nat → Int32) : Prop := h.toInt = 1 → ∀ l : Nat, l < 12 → 0 ≤ (K (51 + l)).toInt ∧ (K (51 + l)).toInt ≤ 1
theorem z_k10 : zK1 (fun _ => (0 : Int32)) := fun _ _ => (show (0 : Int) ≤ (0 : Int32).toInt ∧ (0 : Int32).toInt ≤ 1 from by decide)
theorem z_k1i0 {K : Nat → Int32} : zK1i 0 K := fun h => absurd h (by decide)
theorem z_k1B {t : Nat → Int32} {n : Int} : ∀ (m : Nat) (k : Int) (S : ZS), zK1 (S.2 6) → zK1 ((zBr t n m k S).2 6) := by
  intro m
  induction m with
  | zero => intro k S h; exact h
  | succ m ih =>
    intro k S h
    show zK1 ((if zBg t n k then zBr t n m (k + 1) (zCm t n k S) else zBr t n m (k + 1) S).2 6)
    split
    · refine ih (k + 1) _ ?_
      by_cases hp : zAt t n k = 112
      · have e3 : (zCm t n k S).2 6 = S.2 6 := by unfold zCm; rw [if_pos hp]; rfl
        rw [e3]
        exact h
      · have e3 : (zCm t n k S).2 6 = upd (S.2 6) S.1.2.1.toNat (zIo (zXc t n (k + 3 + zWd t n (k + 2)))) := by unfold zCm; rw [if_neg hp]; rfl
        rw [e3]
        intro l hl
        rw [z_upd]
        split
        · have x0 : 0 ≤ zXc t n (k + 3 + zWd t n (k + 2)) ∧ zXc t n (k + 3 + zWd t n (k + 2)) ≤ 1 := by unfold zXc; split <;> omega
          rw [z_ioT x0.1 (by omega)]
          exact x0
        · exact h l hl
    · exact ih (k + 1) S h
theorem z_k1Eq {t : Nat → Int32} {n : Int} {Q0 M0 r2 Q M : Int32} {a1 a2 a3 a4 a5 a6 a7 a8 b1 b2 b3 b4 b5 b6 b7 b8 : Nat → Int32} (h2 : zPcM t n Q0 M0 a1 a2 a3 a4 a5 a6 a7 a8 r2 Q M b1 b2 b3 b4 b5 b6 b7 b8) (hs : zK1 a7) : zK1 b7 := by
  rcases h2 with ⟨-, -, -, -, -, -, -, -, -, -, rfl, -⟩ | ⟨-, -, -, -, -, -, -, -, -, -, -, rfl, -⟩ | ⟨f, c, y3⟩
  · exact hs
  · exact hs
  · have w : zK1 ((zBrK t n 0 (zSt a1 a2 a3 a4 a5 a6 a7 a8 Q0.toInt M0.toInt 0)).2 6) := z_k1B (n - 0).toNat 0 (zSt a1 a2 a3 a4 a5 a6 a7 a8 Q0.toInt M0.toInt 0) hs
    rw [y3] at w
    exact w
theorem z_k1I {K2 a1 a2 a3 a4 a5 a6 a7 a8 : Nat → Int32} {i1 i2 i3 i4 i5 i6 i7 : Int32} (h : zK1 a7) (hk : ∀ j : Nat, j < 130 → K2 j = zEnc a1 a2 a3 a4 a5 a6 a7 a8 i1 i2 i3 i4 i5 i6 i7 j) : zK1i 1 K2 := fun _ l hl => by
  have w := z_encA7 (a1 := a1) (a2 := a2) (a3 := a3) (a4 := a4) (a5 := a5) (a6 := a6) (a7 := a7) (a8 := a8) (i1 := i1) (i2 := i2) (i3 := i3) (i4 := i4) (i5 := i5) (i6 := i6) (i7 := i7) l (by omega)
  rw [hk (51 + l) (by omega), ← w]
  exact h l hl
theorem z_k1T {h : Int32} {K K2 : Nat → Int32} (i : zK1i h K) (k : zKK K K2) : zK1i h K2 := fun h1 l hl => by rw [k (51 + l) (by omega)]; exact i h1 l hl
theorem z_k1R {h h2 q : Int32} {K a1 a2 a3 a4 a5 a6 a7 a8 b1 b2 b3 b4 b5 b6 b7 b8 : Nat → Int32} {i1 i2 i3 i4 i5 i6 i7 r1 r2 r3 r4 r5 r6 r7 : Int32} (hM : zRsM h2 K a1 a2 a3 a4 a5 a6 a7 a8 i1 i2 i3 i4 i5 i6 i7 b1 b2 b3 b4 b5 b6 b7 b8 r1 r2 r3 r4 r5 r6 r7 q) (hi : zK1i h K) (eh : h.toInt = h2.toInt) (hs : zK1 a7) : zK1 b7 := by
  rcases hM with ⟨-, -, -, -, -, -, -, -, rfl, -⟩ | ⟨y1, y2, y3, -⟩
  · exact hs
  · intro l hl
    have w := z_encA7 (a1 := b1) (a2 := b2) (a3 := b3) (a4 := b4) (a5 := b5) (a6 := b6) (a7 := b7) (a8 := b8) (i1 := r1) (i2 := r2) (i3 := r3) (i4 := r4) (i5 := r5) (i6 := r6) (i7 := r7) l (by omega)
    rw [w, ← y3 (51 + l) (by omega)]
    exact hi (by omega) l hl
def zQlC (L : Int) (on sz cu : Nat → Int32) (ki sd l w r : Int32) : Prop := ((l.toInt < 0 ∨ L ≤ l.toInt) ∧ r.toInt = -1) ∨ (0 ≤ l.toInt ∧ l.toInt < L ∧ ((w.toInt = 0 ∧ r = on l.toNatClampNeg) ∨ (w.toInt = 1 ∧ r = sz l.toNatClampNeg) ∨ (w.toInt = 2 ∧ r = cu l.toNatClampNeg) ∨ (w.toInt = 3 ∧ zBt ki l r) ∨ (w.toInt = 4 ∧ zBt sd l r) ∨ ((w.toInt < 0 ∨ 4 < w.toInt) ∧ r.toInt = -2)))
def zQlM (L : Int) (wh mn cu kl : Nat → Int32) (sd l w r : Int32) : Prop := ((l.toInt < 0 ∨ L ≤ l.toInt) ∧ r.toInt = -1) ∨ (0 ≤ l.toInt ∧ l.toInt < L ∧ ((w.toInt = 0 ∧ r = wh l.toNatClampNeg) ∨ (w.toInt = 1 ∧ r = mn l.toNatClampNeg) ∨ (w.toInt = 2 ∧ r = cu l.toNatClampNeg) ∨ (w.toInt = 3 ∧ r = kl l.toNatClampNeg) ∨ (w.toInt = 4 ∧ zBt sd l r) ∨ ((w.toInt < 0 ∨ 4 < w.toInt) ∧ r.toInt = -2)))
theorem z_bt3 {x l r r2 : Int32} {kl : Nat → Int32} (h1 : zBt x l r) (hb : bt x l.toInt.toNat = decide ((kl l.toNatClampNeg).toInt = 1)) (hk : 0 ≤ (kl l.toNatClampNeg).toInt ∧ (kl l.toNatClampNeg).toInt ≤ 1) (h2 : r2 = kl l.toNatClampNeg) : r.toInt = r2.toInt := by
  rw [h2]
  rcases h1 with ⟨a, b⟩ | ⟨a, b⟩
  · rw [b] at hb
    have := of_decide_eq_true hb.symm
    omega
  · rw [b] at hb
    have := of_decide_eq_false hb.symm
    omega
theorem z_qlLaw {P L ki M sd sdR l w r r2 : Int32} {sp cu ow on tx sz a1 a2 a3 a4 a5 a6 a7 a8 : Nat → Int32} {i1 i2 i3 : Int} (hC : zQlC L.toInt on sz cu ki sd l w r) (hM : zQlM M.toInt a4 a5 a6 a7 sdR l w r2) (hr : zRe P L ki sp cu ow on tx sz (zSt a1 a2 a3 a4 a5 a6 a7 a8 i1 i2 i3)) (hc : cu = a6) (hL : L.toInt = M.toInt) (hL2 : L.toInt ≤ 12) (hs : sd = sdR) (hk : zK1 a7) : r.toInt = r2.toInt := by
  subst hs
  rcases hC with ⟨a, b⟩ | ⟨a, b, c⟩ <;> rcases hM with ⟨d, e⟩ | ⟨d, e, f⟩
  · omega
  · omega
  · omega
  · have hl : (l.toNatClampNeg : Int) = l.toInt := z_cl a
    have q0 := hr.2.2.1 l.toNatClampNeg (by omega)
    have q2 : a4 l.toNatClampNeg = on l.toNatClampNeg := q0.2.1
    have q3 : a5 l.toNatClampNeg = sz l.toNatClampNeg := q0.2.2
    have q6 : bt ki l.toNatClampNeg = decide ((a7 l.toNatClampNeg).toInt = 1) := hr.2.2.2.2.1.2.1 l.toNatClampNeg (by omega)
    have e9 : l.toInt.toNat = l.toNatClampNeg := rfl
    rcases c with ⟨c1, c2⟩ | ⟨c1, c2⟩ | ⟨c1, c2⟩ | ⟨c1, c2⟩ | ⟨c1, c2⟩ | ⟨c1, c2⟩ <;> rcases f with ⟨f1, f2⟩ | ⟨f1, f2⟩ | ⟨f1, f2⟩ | ⟨f1, f2⟩ | ⟨f1, f2⟩ | ⟨f1, f2⟩ <;> first
      | (exfalso; omega)
      | omega
      | (rw [c2, f2, q2]; done)
      | (rw [c2, f2, q3]; done)
      | (rw [c2, f2, hc]; done)
      | exact z_bt3 c2 (by rw [e9]; exact q6) (hk _ (by omega)) f2
      | exact z_btU c2 f2
def zQpC (P : Int) (G : Nat → ZQ) (sp ow : Nat → Int32) (dd p w r : Int32) : Prop := ((p.toInt < 0 ∨ P ≤ p.toInt) ∧ r.toInt = -1) ∨ (0 ≤ p.toInt ∧ p.toInt < P ∧ ((w.toInt = 0 ∧ ∀ kd fg : Nat → Int32, zKn P G kd fg → r.toInt = (kd p.toNatClampNeg).toInt) ∨ (w.toInt = 1 ∧ ∀ kd fg : Nat → Int32, zKn P G kd fg → r = fg p.toNatClampNeg) ∨ (w.toInt = 2 ∧ ∀ kd fg : Nat → Int32, zKn P G kd fg → r = zHs kd sp p.toNatClampNeg) ∨ (w.toInt = 3 ∧ r = ow p.toNatClampNeg) ∨ (w.toInt = 4 ∧ zBt dd p r) ∨ ((w.toInt < 0 ∨ 4 < w.toInt) ∧ r.toInt = -2)))
def zQpM (P L : Int) (kd fg sp wh : Nat → Int32) (dd p w r : Int32) : Prop := ((p.toInt < 0 ∨ P ≤ p.toInt) ∧ r.toInt = -1) ∨ (0 ≤ p.toInt ∧ p.toInt < P ∧ ((w.toInt = 0 ∧ r = kd p.toNatClampNeg) ∨ (w.toInt = 1 ∧ r = fg p.toNatClampNeg) ∨ (w.toInt = 2 ∧ r = zHs kd sp p.toNatClampNeg) ∨ (w.toInt = 3 ∧ zOwL L wh p.toInt r) ∨ (w.toInt = 4 ∧ zBt dd p r) ∨ ((w.toInt < 0 ∨ 4 < w.toInt) ∧ r.toInt = -2)))
theorem z_prW {P p : Int} {G : Nat → ZQ} {b : Prop} {w : (Nat → Int32) → (Nat → Int32) → Prop} (h : zPr P G p b w) (h0 : 0 ≤ p) (h1 : p < P) : ∀ kd fg : Nat → Int32, zKn P G kd fg → w kd fg := by
  rcases h with ⟨a, -⟩ | ⟨-, -, c⟩
  · exact absurd a (by omega)
  · exact c
theorem z_qpLaw {P L ki Q M dd ddR p w r r2 : Int32} {G : Nat → ZQ} {sp cu ow on tx sz a1 a2 a3 a4 a5 a6 a7 a8 : Nat → Int32} {i1 i2 i3 : Int} (hC : zQpC P.toInt G sp ow dd p w r) (hM : zQpM Q.toInt M.toInt a1 a2 a3 a4 ddR p w r2) (hr : zRe P L ki sp cu ow on tx sz (zSt a1 a2 a3 a4 a5 a6 a7 a8 i1 i2 i3)) (hk : zKn P.toInt G a1 a2) (hs : sp = a3) (hP : P.toInt = Q.toInt) (hL : L.toInt = M.toInt) (hL2 : L.toInt ≤ 12) (hd : dd = ddR) : r.toInt = r2.toInt := by
  subst hd
  rcases hC with ⟨a, b⟩ | ⟨a, b, c⟩ <;> rcases hM with ⟨d, e⟩ | ⟨d, e, f⟩
  · omega
  · omega
  · omega
  · have hp : (p.toNatClampNeg : Int) = p.toInt := z_cl a
    have ho := (z_reOw hr) p.toNatClampNeg (by omega)
    rw [hp, hL] at ho
    rcases c with ⟨c1, c2⟩ | ⟨c1, c2⟩ | ⟨c1, c2⟩ | ⟨c1, c2⟩ | ⟨c1, c2⟩ | ⟨c1, c2⟩ <;> rcases f with ⟨f1, f2⟩ | ⟨f1, f2⟩ | ⟨f1, f2⟩ | ⟨f1, f2⟩ | ⟨f1, f2⟩ | ⟨f1, f2⟩ <;> first
      | (exfalso; omega)
      | omega
      | (rw [f2]; exact c2 _ _ hk)
      | (rw [f2, c2 _ _ hk]; done)
      | (rw [f2, c2 _ _ hk, hs]; done)
      | exact congrArg Int32.toInt (c2.trans (z_owU ho f2))
      | exact z_btU c2 f2
/-- a night: what has been said behind so many lines, and which line is said next -/
def zSy (kl : Nat → Bool) (on : Nat → Int32) (s : Int32 × Int32 × Int32) (l : Int) : Int32 × Int32 × Int32 := if l = -9 then s else (s.1 ||| ((1 : Int32) <<< (zIo l &&& 31)), if kl l.toNat = true then s.2.1 ||| ((1 : Int32) <<< (on l.toNat &&& 31)) else s.2.1, zIo l)
def zNnx (F : Int32 → Int32 → Int32 → Int) (k : Nat) (s : Int32 × Int32 × Int32) : Int := if k = 0 then 0 else F s.1 s.2.1 s.2.2
def zNst (F : Int32 → Int32 → Int32 → Int) (kl : Nat → Bool) (on : Nat → Int32) : Nat → Int32 × Int32 × Int32
  | 0 => (0, 0, -9)
  | k + 1 => zSy kl on (zNst F kl on k) (zNnx F k (zNst F kl on k))
def zNl (F : Int32 → Int32 → Int32 → Int) (kl : Nat → Bool) (on : Nat → Int32) (k : Nat) : Int := zNnx F k (zNst F kl on k)
def zNI (F : Int32 → Int32 → Int32 → Int) (kl : Nat → Bool) (on : Nat → Int32) (k : Int) (sd dd la : Int32) : Prop := (sd, dd, la) = zNst F kl on k.toNat ∧ (∀ q : Nat, (q : Int) < k → zNl F kl on q ≠ -9) ∧ (0 < k → la.toInt = zNl F kl on (k.toNat - 1))
theorem z_nI0 {F : Int32 → Int32 → Int32 → Int} {kl : Nat → Bool} {on : Nat → Int32} {k : Int} (hk : k = 0) : zNI F kl on k 0 0 (-9) := by
  subst hk
  exact ⟨rfl, fun q hq => by omega, fun h => by omega⟩
theorem z_nIS {F : Int32 → Int32 → Int32 → Int} {kl : Nat → Bool} {on : Nat → Int32} {k k2 : Int} {sd dd la ti r sd2 dd2 la2 ti2 : Int32} (h : zNI F kl on k sd dd la) (k0 : 0 ≤ k) (hk : k2 = k + 1) (hr : r.toInt = zNl F kl on k.toNat) (r9 : r.toInt ≠ -9) (hs : zSpk (kl r.toInt.toNat = true) (on r.toNatClampNeg) sd dd ti r sd2 dd2 la2 ti2) : zNI F kl on k2 sd2 dd2 la2 := by
  obtain ⟨h1, h2, -⟩ := h
  obtain ⟨q1, q2, q3, q4⟩ := hs
  have e2 : k2.toNat = k.toNat + 1 := by omega
  refine ⟨?_, fun q hq => ?_, fun _ => ?_⟩
  · rw [e2]
    show _ = zSy kl on (zNst F kl on k.toNat) (zNl F kl on k.toNat)
    rw [← h1, ← hr]
    unfold zSy
    rw [if_neg r9, ← z_io (x := r) rfl]
    rcases q4 with ⟨a, b⟩ | ⟨a, b⟩
    · rw [if_pos a, q1, q2, b]
      try rfl
    · rw [if_neg a, q1, q2, b]
      try rfl
  · by_cases c : (q : Int) < k
    · exact h2 q c
    · rw [show q = k.toNat by omega, ← hr]
      exact r9
  · rw [e2, q2, hr]
    rfl
def zNE (F : Int32 → Int32 → Int32 → Int) (kl : Nat → Bool) (on : Nat → Int32) (lim n : Int) (sd dd la : Int32) : Prop := 0 ≤ n ∧ n ≤ lim ∧ zNI F kl on n sd dd la ∧ (n = lim ∨ zNl F kl on n.toNat = -9)
theorem z_nEU {F : Int32 → Int32 → Int32 → Int} {kl : Nat → Bool} {on : Nat → Int32} {lim n n2 : Int} {sd dd la sd2 dd2 la2 : Int32} (h : zNE F kl on lim n sd dd la) (h2 : zNE F kl on lim n2 sd2 dd2 la2) : n = n2 := by
  obtain ⟨a1, a2, ⟨-, a3, -⟩, a4⟩ := h
  obtain ⟨b1, b2, ⟨-, b3, -⟩, b4⟩ := h2
  rcases Int.lt_trichotomy n n2 with c | c | c
  · rcases a4 with a4 | a4
    · omega
    · exact absurd a4 (b3 n.toNat (by omega))
  · exact c
  · rcases b4 with b4 | b4
    · omega
    · exact absurd b4 (a3 n2.toNat (by omega))
/-- the same night -/
theorem z_nstC {F F2 : Int32 → Int32 → Int32 → Int} {kl kl2 : Nat → Bool} {on on2 : Nat → Int32} {L : Int} (L0 : 0 < L) (L12 : L ≤ 12) (hF : ∀ sd dd la : Int32, 0 ≤ la.toInt → la.toInt < L → F sd dd la = F2 sd dd la ∧ (F sd dd la = -9 ∨ (0 ≤ F sd dd la ∧ F sd dd la < L))) (hk : ∀ l : Nat, (l : Int) < L → kl l = kl2 l) (ho : ∀ l : Nat, (l : Int) < L → on l = on2 l) : ∀ k : Nat, zNst F kl on k = zNst F2 kl2 on2 k ∧ (0 < k → 0 ≤ (zNst F kl on k).2.2.toInt ∧ (zNst F kl on k).2.2.toInt < L) := by
  intro k
  induction k with
  | zero => exact ⟨rfl, fun h => absurd h (by decide)⟩
  | succ k ih =>
    obtain ⟨i1, i2⟩ := ih
    have key : zNnx F k (zNst F kl on k) = zNnx F2 k (zNst F2 kl2 on2 k) ∧ (zNnx F k (zNst F kl on k) = -9 ∨ (0 ≤ zNnx F k (zNst F kl on k) ∧ zNnx F k (zNst F kl on k) < L)) ∧ (zNnx F k (zNst F kl on k) = -9 → 0 < k) := by
      unfold zNnx
      by_cases c : k = 0
      · rw [if_pos c, if_pos c]
        exact ⟨rfl, Or.inr ⟨by omega, L0⟩, fun h => by omega⟩
      · rw [if_neg c, if_neg c, ← i1]
        have w := hF (zNst F kl on k).1 (zNst F kl on k).2.1 (zNst F kl on k).2.2 (i2 (by omega)).1 (i2 (by omega)).2
        exact ⟨w.1, w.2, fun _ => by omega⟩
    obtain ⟨k1, k2, k3⟩ := key
    show zSy kl on (zNst F kl on k) (zNnx F k (zNst F kl on k)) = zSy kl2 on2 (zNst F2 kl2 on2 k) (zNnx F2 k (zNst F2 kl2 on2 k)) ∧ (0 < k + 1 → 0 ≤ (zSy kl on (zNst F kl on k) (zNnx F k (zNst F kl on k))).2.2.toInt ∧ (zSy kl on (zNst F kl on k) (zNnx F k (zNst F kl on k))).2.2.toInt < L)
    rw [← k1, ← i1]
    generalize zNnx F k (zNst F kl on k) = l at k2 k3
    unfold zSy
    by_cases c : l = -9
    · rw [if_pos c, if_pos c]
      exact ⟨rfl, fun _ => i2 (k3 c)⟩
    · rw [if_neg c, if_neg c]
      have lr : 0 ≤ l ∧ l < L := by
        rcases k2 with k2 | k2
        · exact absurd k2 c
        · exact k2
      rw [hk l.toNat (by omega), ho l.toNat (by omega)]
      refine ⟨rfl, fun _ => ?_⟩
      show 0 ≤ (zIo l).toInt ∧ (zIo l).toInt < L
      rw [z_ioT lr.1 (by omega)]
      exact lr
theorem z_nlC {F F2 : Int32 → Int32 → Int32 → Int} {kl kl2 : Nat → Bool} {on on2 : Nat → Int32} {L : Int} (L0 : 0 < L) (L12 : L ≤ 12) (hF : ∀ sd dd la : Int32, 0 ≤ la.toInt → la.toInt < L → F sd dd la = F2 sd dd la ∧ (F sd dd la = -9 ∨ (0 ≤ F sd dd la ∧ F sd dd la < L))) (hk : ∀ l : Nat, (l : Int) < L → kl l = kl2 l) (ho : ∀ l : Nat, (l : Int) < L → on l = on2 l) (k : Nat) : zNl F kl on k = zNl F2 kl2 on2 k ∧ (zNl F kl on k = -9 ∨ (0 ≤ zNl F kl on k ∧ zNl F kl on k < L)) := by
  obtain ⟨i1, i2⟩ := z_nstC (k := k) L0 L12 hF hk ho
  unfold zNl zNnx
  by_cases c : k = 0
  · rw [if_pos c, if_pos c]
    exact ⟨rfl, Or.inr ⟨by omega, L0⟩⟩
  · rw [if_neg c, if_neg c, ← i1]
    exact hF _ _ _ (i2 (by omega)).1 (i2 (by omega)).2
theorem z_nEC {F F2 : Int32 → Int32 → Int32 → Int} {kl kl2 : Nat → Bool} {on on2 : Nat → Int32} {L lim n : Int} {sd dd la : Int32} (h : zNE F kl on lim n sd dd la) (L0 : 0 < L) (L12 : L ≤ 12) (hF : ∀ sd dd la : Int32, 0 ≤ la.toInt → la.toInt < L → F sd dd la = F2 sd dd la ∧ (F sd dd la = -9 ∨ (0 ≤ F sd dd la ∧ F sd dd la < L))) (hk : ∀ l : Nat, (l : Int) < L → kl l = kl2 l) (ho : ∀ l : Nat, (l : Int) < L → on l = on2 l) : zNE F2 kl2 on2 lim n sd dd la := by
  have e := fun k => (z_nlC L0 L12 hF hk ho k).1
  obtain ⟨a1, a2, ⟨a3, a4, a5⟩, a6⟩ := h
  exact ⟨a1, a2, ⟨by rw [← (z_nstC L0 L12 hF hk ho n.toNat).1]; exact a3, fun q hq => by rw [← e q]; exact a4 q hq, fun h0 => by rw [← e (n.toNat - 1)]; exact a5 h0⟩, by rw [← e n.toNat]; exact a6⟩
/-- the next line as a function -/
noncomputable def zFu (P : Int) (com : Int32 → Int32 → Int32 → Nat → Int) (hs : Nat → Int) (sd dd la : Int32) : Int := Classical.epsilon (fun r => zBst P (com sd dd la) hs r)
theorem z_fuE {P r : Int} {com : Int32 → Int32 → Int32 → Nat → Int} {hs : Nat → Int} {sd dd la : Int32} (h : zBst P (com sd dd la) hs r) : r = zFu P com hs sd dd la := z_bstU h (Classical.epsilon_spec (p := fun r => zBst P (com sd dd la) hs r) ⟨r, h⟩) (fun _ _ => rfl) (fun _ _ => rfl)
noncomputable def zCc (L : Int) (kd wh : Nat → Int32) (C : Nat → Nat → Prop) (ms : Int) (sd dd la : Int32) : Nat → Int := zCq L kd wh (C la.toNatClampNeg) sd dd ms
noncomputable def zFg (P L : Int) (kd sp wh : Nat → Int32) (C : Nat → Nat → Prop) (ms : Int) : Int32 → Int32 → Int32 → Int := zFu P (zCc L kd wh C ms) (zHq kd sp)
/-- the class: a night in mind -/
def zGoH (P L : Int) (G : Nat → ZQ) (sp ow af on kd fg wh : Nat → Int32) (C : Nat → Nat → Prop) : Prop := (0 < L ∧ L ≤ 12) ∧ zKn P G kd fg ∧ zOwA P L ow wh ∧ (∀ p : Nat, (p : Int) < P → 0 ≤ zHq kd sp p) ∧ (∀ l : Nat, (l : Int) < L → 0 ≤ (on l).toInt ∧ (on l).toInt < 5) ∧ ∀ la : Nat, (la : Int) < L → ∀ j : Nat, j < 12 → (bt (af la) j = true ↔ C la j)
theorem z_cqR {L : Int} {kd wh : Nat → Int32} {C : Nat → Prop} {sd dd : Int32} {ms : Int} {q : Nat} (k0 : 0 ≤ (kd q).toInt) (k5 : (kd q).toInt ≤ 5) (hL : L ≤ 12) : zCq L kd wh C sd dd ms q = -9 ∨ (0 ≤ zCq L kd wh C sd dd ms q ∧ zCq L kd wh C sd dd ms q < L) := by
  unfold zCq
  split
  · exact Or.inl rfl
  · exact z_comR k0 k5 hL
theorem z_bstR {P L r : Int} {com hs : Nat → Int} (h : zBst P com hs r) (hc : ∀ q : Nat, (q : Int) < P → com q = -9 ∨ (0 ≤ com q ∧ com q < L)) : r = -9 ∨ (0 ≤ r ∧ r < L) := by
  rcases h with ⟨a, -⟩ | ⟨b, b0, -, b3, -⟩
  · exact Or.inl a
  · rw [b3]
    exact hc b b0
theorem z_goN {P L k r : Int} {G : Nat → ZQ} {sp ow af on kd fg wh : Nat → Int32} {C : Nat → Nat → Prop} {kl : Nat → Bool} {sd dd la ti ms : Int32} (H : zGoH P L G sp ow af on kd fg wh C) (hI : zNI (zFg P L kd sp wh C ms.toInt) kl on k sd dd la) (k0 : 0 ≤ k) (hl : 0 < k → 0 ≤ la.toInt ∧ la.toInt < L) (ht : ti.toInt = k) (hn : zNlC P L G sp ow af sd dd la ti ms r) : r = zNl (zFg P L kd sp wh C ms.toInt) kl on k.toNat ∧ (r = -9 ∨ (0 ≤ r ∧ r < L)) := by
  obtain ⟨⟨L0, L12⟩, hK, hA, hq, ho, hC⟩ := H
  rcases hn with ⟨n1, n2⟩ | ⟨n1, n2⟩
  · unfold zNl zNnx
    rw [if_pos (by omega)]
    exact ⟨n2, Or.inr ⟨by omega, by omega⟩⟩
  · obtain ⟨la0, laL⟩ := hl (by omega)
    have hla := z_cl la0
    have b := n2 kd fg wh (C la.toNatClampNeg) ⟨⟨la0, laL⟩, hK, hA, hq, fun j hj => hC la.toNatClampNeg (by omega) j hj⟩
    refine ⟨?_, z_bstR b (fun q hq2 => z_cqR (hK q hq2).2.2.2.1.1 (hK q hq2).2.2.2.1.2 L12)⟩
    unfold zNl zNnx
    rw [if_neg (by omega), ← hI.1]
    exact z_fuE (com := zCc L kd wh C ms.toInt) b
def zGoI (P L : Int) (G : Nat → ZQ) (sp ow af on : Nat → Int32) (ki ms : Int32) (k : Int) (sd dd la ti : Int32) : Prop := ∀ (kd fg wh : Nat → Int32) (C : Nat → Nat → Prop), zGoH P L G sp ow af on kd fg wh C → ti.toInt = k ∧ zNI (zFg P L kd sp wh C ms.toInt) (fun l => bt ki l) on k sd dd la ∧ (0 < k → 0 ≤ la.toInt ∧ la.toInt < L)
theorem z_goI0 {P L : Int} {G : Nat → ZQ} {sp ow af on : Nat → Int32} {ki ms : Int32} {k : Int} (hk : k = 0) : zGoI P L G sp ow af on ki ms k 0 0 (-9) 0 := fun kd fg wh C H => ⟨by rw [hk]; decide, z_nI0 hk, fun h => by omega⟩
theorem z_goS {P L k k2 : Int} {G : Nat → ZQ} {sp ow af on : Nat → Int32} {ki ms sd dd la ti r sd2 dd2 la2 ti2 : Int32} (h : zGoI P L G sp ow af on ki ms k sd dd la ti) (k0 : 0 ≤ k) (k1 : k < 1000) (hk : k2 = k + 1) (hn : zNlC P L G sp ow af sd dd la ti ms r.toInt) (r9 : r.toInt ≠ -9) (hs : 0 ≤ r.toInt → r.toInt < L → 0 ≤ (on r.toNatClampNeg).toInt → (on r.toNatClampNeg).toInt < 5 → zSpk (bt ki r.toInt.toNat = true) (on r.toNatClampNeg) sd dd ti r sd2 dd2 la2 ti2) : zGoI P L G sp ow af on ki ms k2 sd2 dd2 la2 ti2 := fun kd fg wh C H => by
  obtain ⟨h1, h2, h3⟩ := h kd fg wh C H
  obtain ⟨e, q⟩ := z_goN H h2 k0 h3 h1 hn
  have q : 0 ≤ r.toInt ∧ r.toInt < L := by
    rcases q with q | q
    · exact absurd q r9
    · exact q
  have hr := z_cl q.1
  have o := H.2.2.2.2.1 r.toNatClampNeg (by omega)
  have s := hs q.1 q.2 o.1 o.2
  refine ⟨?_, z_nIS h2 k0 hk e r9 s, fun _ => by rw [s.2.1]; exact q⟩
  rw [s.2.2.1, z_add rfl (show (1 : Int32).toInt = 1 by decide) (by omega) (by omega)]
  omega
def zGoC (P L : Int) (G : Nat → ZQ) (sp ow af on : Nat → Int32) (ki ms : Int32) (lim : Int) (sd dd la r : Int32) : Prop := 0 ≤ lim → ∀ (kd fg wh : Nat → Int32) (C : Nat → Nat → Prop), zGoH P L G sp ow af on kd fg wh C → zNE (zFg P L kd sp wh C ms.toInt) (fun l => bt ki l) on lim r.toInt sd dd la
theorem z_goX {P L k lim : Int} {G : Nat → ZQ} {sp ow af on : Nat → Int32} {ki ms sd dd la ti r : Int32} (h : zGoI P L G sp ow af on ki ms k sd dd la ti) (k0 : 0 ≤ k) (kl : k < lim) (hn : zNlC P L G sp ow af sd dd la ti ms r.toInt) (r9 : r.toInt = -9) : zGoC P L G sp ow af on ki ms lim sd dd la ti := fun l0 kd fg wh C H => by
  obtain ⟨h1, h2, h3⟩ := h kd fg wh C H
  obtain ⟨e, -⟩ := z_goN H h2 k0 h3 h1 hn
  rw [h1]
  exact ⟨k0, by omega, h2, Or.inr (by rw [← e]; exact r9)⟩
theorem z_goE {P L k lim : Int} {G : Nat → ZQ} {sp ow af on : Nat → Int32} {ki ms sd dd la ti : Int32} (h : zGoI P L G sp ow af on ki ms k sd dd la ti) (k0 : 0 ≤ k) (kl : lim ≤ k) (k2 : k ≤ lim ∨ k = 0) : zGoC P L G sp ow af on ki ms lim sd dd la ti := fun l0 kd fg wh C H => by
  obtain ⟨h1, h2, h3⟩ := h kd fg wh C H
  rw [h1]
  exact ⟨k0, by omega, h2, Or.inl (by omega)⟩
/-- the reference: a night in mind -/
noncomputable def zCv (L : Int) (wd mn : Nat → Int32) (jk jw : Int32) (kd fg wh cu : Nat → Int32) (sd dd la : Int32) : Nat → Int := zCr L kd wh (fun j => zIcR wd mn jk jw kd fg wh cu la.toInt (j : Int)) sd dd
noncomputable def zFr (P L : Int) (wd mn : Nat → Int32) (jk jw : Int32) (kd fg sp wh cu : Nat → Int32) : Int32 → Int32 → Int32 → Int := zFu P (zCv L wd mn jk jw kd fg wh cu) (zHq kd sp)
def zKb (kl : Nat → Int32) (l : Nat) : Bool := decide ((kl l).toInt = 1)
theorem z_spkP {kl kl2 : Prop} {on sd dd ti l sd2 dd2 la2 ti2 : Int32} (h : zSpk kl on sd dd ti l sd2 dd2 la2 ti2) (e : kl ↔ kl2) : zSpk kl2 on sd dd ti l sd2 dd2 la2 ti2 := by
  obtain ⟨a, b, c, d⟩ := h
  refine ⟨a, b, c, ?_⟩
  rcases d with ⟨d1, d2⟩ | ⟨d1, d2⟩
  · exact Or.inl ⟨e.mp d1, d2⟩
  · exact Or.inr ⟨fun q => d1 (e.mpr q), d2⟩
def zGnI (P L : Int) (wd mn : Nat → Int32) (jk jw : Int32) (kd fg sp wh cu kl : Nat → Int32) (k l : Int) (sd dd la : Int32) (ni : Nat → Int32) : Prop := 0 < L → L ≤ 12 → zFwH P kd → zNI (zFr P L wd mn jk jw kd fg sp wh cu) (zKb kl) wh k sd dd la ∧ (∀ q : Nat, (q : Int) < k → (ni q).toInt = zNl (zFr P L wd mn jk jw kd fg sp wh cu) (zKb kl) wh q) ∧ l = zNl (zFr P L wd mn jk jw kd fg sp wh cu) (zKb kl) wh k.toNat ∧ (l = -9 ∨ (0 ≤ l ∧ l < L))
theorem z_gnI0 {P L : Int} {wd mn : Nat → Int32} {jk jw : Int32} {kd fg sp wh cu kl : Nat → Int32} {k l : Int} {ni : Nat → Int32} (hk : k = 0) (hl : l = 0) : zGnI P L wd mn jk jw kd fg sp wh cu kl k l 0 0 (-9) ni := fun L0 _ _ => by
  subst hk hl
  exact ⟨z_nI0 rfl, fun q hq => by omega, rfl, Or.inr ⟨by omega, L0⟩⟩
theorem z_gnS {P L k k2 l2 : Int} {wd mn : Nat → Int32} {jk jw : Int32} {kd fg sp wh cu kl : Nat → Int32} {l i sd dd la ti sd2 dd2 la2 ti2 : Int32} {ni ni2 : Nat → Int32} (h : zGnI P L wd mn jk jw kd fg sp wh cu kl k l.toInt sd dd la ni) (k0 : 0 ≤ k) (hi : i.toInt = k) (hk : k2 = k + 1) (l0 : 0 ≤ l.toInt) (hs : zSpk ((kl l.toNatClampNeg).toInt = 1) (wh l.toNatClampNeg) sd dd ti l sd2 dd2 la2 ti2) (hn : upd ni i.toNatClampNeg l = ni2) (hf : zFwH P kd → zBst P (zCr L kd wh (fun j => zIcR wd mn jk jw kd fg wh cu la2.toInt (j : Int)) sd2 dd2) (zHq kd sp) l2) : zGnI P L wd mn jk jw kd fg sp wh cu kl k2 l2 sd2 dd2 la2 ni2 := fun L0 L12 hw => by
  obtain ⟨h1, h2, h3, h4⟩ := h L0 L12 hw
  have e : (kl l.toNatClampNeg).toInt = 1 ↔ zKb kl l.toInt.toNat = true := by unfold zKb; exact ⟨fun q => decide_eq_true q, fun q => of_decide_eq_true q⟩
  have n2 := z_nIS h1 k0 hk h3 (by omega) (z_spkP hs e)
  have b := hf hw
  have hi2 : (i.toNatClampNeg : Int) = k := by rw [z_cl (by omega)]; exact hi
  refine ⟨n2, fun q hq => ?_, ?_, z_bstR b (fun q hq => z_comR (hw q hq).1 (hw q hq).2 L12)⟩
  · rw [← hn, z_upd]
    split
    · rw [h3, show q = k.toNat by omega]
    · exact h2 q (by omega)
  · unfold zNl zNnx
    rw [if_neg (by omega), ← n2.1]
    exact z_fuE (com := zCv L wd mn jk jw kd fg wh cu) b
def zGnM (P L : Int) (wd mn : Nat → Int32) (jk jw : Int32) (kd fg sp wh cu kl : Nat → Int32) (nm nd de : Int32) (ni : Nat → Int32) : Prop := 0 < L → L ≤ 12 → zFwH P kd → ∃ sd la : Int32, zNE (zFr P L wd mn jk jw kd fg sp wh cu) (zKb kl) wh 60 nm.toInt sd nd la ∧ (∀ q : Nat, (q : Int) < nm.toInt → (ni q).toInt = zNl (zFr P L wd mn jk jw kd fg sp wh cu) (zKb kl) wh q) ∧ ((de.toInt = 1 ∧ zNl (zFr P L wd mn jk jw kd fg sp wh cu) (zKb kl) wh nm.toInt.toNat = -9) ∨ (de.toInt = 0 ∧ zNl (zFr P L wd mn jk jw kd fg sp wh cu) (zKb kl) wh nm.toInt.toNat ≠ -9))
theorem z_gnE {P L l : Int} {wd mn : Nat → Int32} {jk jw : Int32} {kd fg sp wh cu kl : Nat → Int32} {nm sd dd la de : Int32} {ni : Nat → Int32} (h : zGnI P L wd mn jk jw kd fg sp wh cu kl nm.toInt l sd dd la ni) (n0 : 0 ≤ nm.toInt) (n6 : nm.toInt ≤ 60) (hd : (l < 0 ∧ de.toInt = 1) ∨ (0 ≤ l ∧ 60 ≤ nm.toInt ∧ de.toInt = 0)) : zGnM P L wd mn jk jw kd fg sp wh cu kl nm dd de ni := fun L0 L12 hw => by
  obtain ⟨h1, h2, h3, h4⟩ := h L0 L12 hw
  refine ⟨sd, la, ⟨n0, n6, h1, ?_⟩, h2, ?_⟩
  · rcases hd with ⟨a, b⟩ | ⟨a, b, c⟩
    · exact Or.inr (by rw [← h3]; omega)
    · exact Or.inl (by omega)
  · rw [← h3]
    rcases hd with ⟨a, b⟩ | ⟨a, b, c⟩
    · exact Or.inl ⟨b, by omega⟩
    · exact Or.inr ⟨c, by omega⟩
/-- there always is a next line, or none -/
theorem z_foX (com hs : Nat → Int) : ∀ k : Nat, ∃ b : Int, zFoI com hs (k : Int) b := by
  intro k
  induction k with
  | zero => exact ⟨-9, z_foI0 rfl rfl⟩
  | succ k ih =>
    obtain ⟨b, h⟩ := ih
    have ek : ((k : Int)).toNat = k := Int.toNat_natCast k
    by_cases c : com k = -9
    · exact ⟨b, z_foIN (w := com k) h (by omega) (by omega) (by rw [ek]) (Or.inl c)⟩
    · by_cases d : b < 0 ∨ hs b.toNat < hs k
      · exact ⟨(k : Int), z_foIY (w := com k) h (by omega) (by omega) (by rw [ek]) c (by rw [ek]; exact d) rfl⟩
      · exact ⟨b, z_foIN (w := com k) h (by omega) (by omega) (by rw [ek]) (Or.inr ⟨by omega, by rw [ek]; omega⟩)⟩
theorem z_bstX {P : Int} (P0 : 0 ≤ P) (com hs : Nat → Int) : ∃ r : Int, zBst P com hs r := by
  obtain ⟨b, h⟩ := z_foX com hs P.toNat
  by_cases c : b < 0
  · exact ⟨-9, z_foIE h (by omega) (Or.inl ⟨c, rfl⟩)⟩
  · exact ⟨com b.toNat, z_foIE h (by omega) (Or.inr ⟨by omega, rfl⟩)⟩
theorem z_fuS {P : Int} (P0 : 0 ≤ P) {com : Int32 → Int32 → Int32 → Nat → Int} {hs : Nat → Int} {sd dd la : Int32} : zBst P (com sd dd la) hs (zFu P com hs sd dd la) := Classical.epsilon_spec (p := fun r => zBst P (com sd dd la) hs r) (z_bstX P0 (com sd dd la) hs)
theorem z_bstH {P r : Int} {com hs hs2 : Nat → Int} (h : zBst P com hs r) (eh : ∀ q : Nat, (q : Int) < P → com q ≠ -9 → hs q = hs2 q) : zBst P com hs2 r := by
  rcases h with h | ⟨b, b0, b1, b2, b3, b4⟩
  · exact Or.inl h
  · exact Or.inr ⟨b, b0, b1, b2, fun q hq hc => by rw [← eh q (by omega) hc, ← eh b b0 b1]; exact b3 q hq hc, fun q hq hP hc => by rw [← eh q hP hc, ← eh b b0 b1]; exact b4 q hq hP hc⟩
theorem z_fuC {P : Int} (P0 : 0 ≤ P) {com com2 : Int32 → Int32 → Int32 → Nat → Int} {hs hs2 : Nat → Int} {sd dd la : Int32} (e : ∀ q : Nat, (q : Int) < P → com sd dd la q = com2 sd dd la q) (eh : ∀ q : Nat, (q : Int) < P → com sd dd la q ≠ -9 → hs q = hs2 q) : zFu P com hs sd dd la = zFu P com2 hs2 sd dd la := z_bstU (z_bstH (z_fuS P0) eh) (z_fuS P0) e (fun _ _ => rfl)
/-- what holds where the class's play agrees with the reference's: the night is the same -/
theorem z_goHr {P L ki : Int32} {G : Nat → ZQ} {sp cu ow on tx sz af a1 a2 a4 a5 a7 a8 : Nat → Int32} {i1 i2 i3 : Int} (hr : zRe P L ki sp cu ow on tx sz (zSt a1 a2 sp a4 a5 cu a7 a8 i1 i2 i3)) (hk : zKn P.toInt G a1 a2) (hL2 : L.toInt ≤ 12) (hP5 : P.toInt ≤ 5) (hsr : zSrR P.toInt sp) (h0 : 0 < L.toInt) : zGoH P.toInt L.toInt G sp ow af on a1 a2 a4 (fun la j => bt (af la) j = true) := ⟨⟨h0, hL2⟩, hk, z_reOw hr, fun p hp => z_hq0 hsr hp, fun l hl => by have w := (hr.2.2.2.2.2.2 l hl).1; omega, fun _ _ _ _ => Iff.rfl⟩
theorem z_ngF {P L ki jk jw : Int32} {G : Nat → ZQ} {sp cu ow on tx sz af a1 a2 a4 a5 a7 a8 : Nat → Int32} {i1 i2 i3 : Int} (hr : zRe P L ki sp cu ow on tx sz (zSt a1 a2 sp a4 a5 cu a7 a8 i1 i2 i3)) (hk : zKn P.toInt G a1 a2) (hL2 : L.toInt ≤ 12) (hP0 : 0 ≤ P.toInt) (hj : jk.toInt = -9) (hwe : zWe P.toInt L.toInt G tx sz on cu 0 af L.toInt) (sd dd la : Int32) (l0 : 0 ≤ la.toInt) (l1 : la.toInt < L.toInt) : zFg P.toInt L.toInt a1 sp a4 (fun la j => bt (af la) j = true) (-9 : Int32).toInt sd dd la = zFr P.toInt L.toInt a8 a5 jk jw a1 a2 sp a4 cu sd dd la ∧ (zFg P.toInt L.toInt a1 sp a4 (fun la j => bt (af la) j = true) (-9 : Int32).toInt sd dd la = -9 ∨ (0 ≤ zFg P.toInt L.toInt a1 sp a4 (fun la j => bt (af la) j = true) (-9 : Int32).toInt sd dd la ∧ zFg P.toInt L.toInt a1 sp a4 (fun la j => bt (af la) j = true) (-9 : Int32).toInt sd dd la < L.toInt)) := by
  have H := z_pyRe hr hL2 hk
  have hw : ∀ l : Nat, (l : Int) < L.toInt → a4 l = on l := fun l hl => (hr.2.2.1 l (by omega)).2.1
  have e9 : (-9 : Int32).toInt = -9 := by decide
  have e0 : (0 : Int32).toInt = 0 := by decide
  have row := hwe (by decide) (by decide) a8 a5 a1 a2 H la.toNatClampNeg (by have := z_cl l0; omega)
  rw [e0] at row
  refine ⟨z_fuC hP0 (fun q hq => ?_) (fun _ _ _ => rfl), z_bstR (z_fuS hP0) (fun q hq => z_cqR (hk q hq).2.2.2.1.1 (hk q hq).2.2.2.1.2 hL2)⟩
  show zCq L.toInt a1 a4 (fun j => bt (af la.toNatClampNeg) j = true) sd dd (-9 : Int32).toInt q = zCr L.toInt a1 a4 (fun j => zIcR a8 a5 jk jw a1 a2 a4 cu la.toInt (j : Int)) sd dd q
  unfold zCq zCr
  rw [if_neg (by omega)]
  exact z_comC rfl (fun j hjL ho => z_cueE row H hw hj l0 (by omega) hjL)
theorem z_kbE {P L ki : Int32} {sp cu ow on tx sz a1 a2 a3 a4 a5 a6 a7 a8 : Nat → Int32} {i1 i2 i3 : Int} (hr : zRe P L ki sp cu ow on tx sz (zSt a1 a2 a3 a4 a5 a6 a7 a8 i1 i2 i3)) (hL2 : L.toInt ≤ 12) (l : Nat) (hl : (l : Int) < L.toInt) : bt ki l = zKb a7 l := hr.2.2.2.2.1.2.1 l (by omega)
theorem z_goR {P L ki jk jw r sd dd la : Int32} {lim : Int} {G : Nat → ZQ} {sp cu ow on tx sz af a1 a2 a4 a5 a7 a8 : Nat → Int32} {i1 i2 i3 : Int} (hC : zGoC P.toInt L.toInt G sp ow af on ki (-9) lim sd dd la r) (hr : zRe P L ki sp cu ow on tx sz (zSt a1 a2 sp a4 a5 cu a7 a8 i1 i2 i3)) (hk : zKn P.toInt G a1 a2) (hL2 : L.toInt ≤ 12) (hP5 : P.toInt ≤ 5) (hP0 : 0 ≤ P.toInt) (hsr : zSrR P.toInt sp) (h0 : 0 < L.toInt) (hlim : 0 ≤ lim) (hj : jk.toInt = -9) (hwe : zWe P.toInt L.toInt G tx sz on cu 0 af L.toInt) : zNE (zFr P.toInt L.toInt a8 a5 jk jw a1 a2 sp a4 cu) (zKb a7) a4 lim r.toInt sd dd la :=
  z_nEC (hC hlim a1 a2 a4 _ (z_goHr hr hk hL2 hP5 hsr h0)) h0 hL2 (z_ngF hr hk hL2 hP0 hj hwe) (z_kbE hr hL2) (fun l hl => (hr.2.2.1 l (by omega)).2.1.symm)
/-- night -/
def zNgC (P L : Int) (G : Nat → ZQ) (tx sz on cu sp ow : Nat → Int32) (ki p r : Int32) : Prop := (p.toInt < 0 ∧ r.toInt = -4) ∨ (0 ≤ p.toInt ∧ L = 0 ∧ r.toInt = -3) ∨ (0 ≤ p.toInt ∧ 0 < L ∧ ((60 ≤ p.toInt ∧ r.toInt = -9) ∨ (p.toInt < 60 ∧ ∃ (af : Nat → Int32) (sd dd la wt : Int32), zWe P L G tx sz on cu 0 af L ∧ zGoC P L G sp ow af on ki (-9) (p.toInt + 1) sd dd la wt ∧ ((wt.toInt = p.toInt + 1 ∧ r = la) ∨ (wt.toInt ≠ p.toInt + 1 ∧ r.toInt = -9)))))
def zNgM (P L : Int) (wd mn : Nat → Int32) (jk jw : Int32) (kd fg sp wh cu kl : Nat → Int32) (p r : Int32) : Prop := (p.toInt < 0 ∧ r.toInt = -4) ∨ (0 ≤ p.toInt ∧ L = 0 ∧ r.toInt = -3) ∨ (0 ≤ p.toInt ∧ 0 < L ∧ ∃ (nm nd de : Int32) (ni : Nat → Int32), zGnM P L wd mn jk jw kd fg sp wh cu kl nm nd de ni ∧ ((p.toInt < nm.toInt ∧ r = ni p.toNatClampNeg) ∨ (nm.toInt ≤ p.toInt ∧ r.toInt = -9)))
theorem z_nIV {F : Int32 → Int32 → Int32 → Int} {kl : Nat → Bool} {on : Nat → Int32} {lim lim2 n m p : Int} {sd dd la sd2 dd2 la2 : Int32} (h : zNE F kl on (p + 1) n sd dd la) (h2 : zNE F kl on 60 m sd2 dd2 la2) (p0 : 0 ≤ p) (p6 : p < 60) : (n = p + 1 ↔ p < m) ∧ (n = p + 1 → la.toInt = zNl F kl on p.toNat) := by
  obtain ⟨a1, a2, ⟨-, a3, a5⟩, a4⟩ := h
  obtain ⟨b1, b2, ⟨-, b3, -⟩, b4⟩ := h2
  refine ⟨⟨fun e => ?_, fun e => ?_⟩, fun e => ?_⟩
  · rcases b4 with b4 | b4
    · omega
    · by_cases c : p < m
      · exact c
      · exact absurd b4 (a3 m.toNat (by omega))
  · rcases a4 with a4 | a4
    · exact a4
    · by_cases c : n = p + 1
      · exact c
      · exact absurd a4 (b3 n.toNat (by omega))
  · rw [a5 (by omega), show n.toNat - 1 = p.toNat by omega]
theorem z_ngLaw {P L ki Q M jk jw p r r2 : Int32} {G : Nat → ZQ} {sp cu ow on tx sz a1 a2 a3 a4 a5 a6 a7 a8 : Nat → Int32} {i1 i2 i3 : Int} (hC : zNgC P.toInt L.toInt G tx sz on cu sp ow ki p r) (hM : zNgM Q.toInt M.toInt a8 a5 jk jw a1 a2 a3 a4 a6 a7 p r2) (hr : zRe P L ki sp cu ow on tx sz (zSt a1 a2 a3 a4 a5 a6 a7 a8 i1 i2 i3)) (hk : zKn P.toInt G a1 a2) (hs : sp = a3) (hc : cu = a6) (hP : P.toInt = Q.toInt) (hL : L.toInt = M.toInt) (hL2 : L.toInt ≤ 12) (hP5 : P.toInt ≤ 5) (hP0 : 0 ≤ P.toInt) (hj : jk.toInt = -9) (hsr : zSrR P.toInt sp) : r.toInt = r2.toInt := by
  obtain rfl := z_i32 hP
  obtain rfl := z_i32 hL
  subst hs hc
  rcases hC with ⟨c1, c2⟩ | ⟨c1, c2, c3⟩ | ⟨c1, c2, hC⟩ <;> rcases hM with ⟨m1, m2⟩ | ⟨m1, m2, m3⟩ | ⟨m1, m2, nm, nd, de, ni, hg, hM⟩
  · omega
  · omega
  · omega
  · omega
  · omega
  · omega
  · omega
  · omega
  · obtain ⟨sd2, la2, n2, n3, -⟩ := hg c2 hL2 (fun p hp => (hk p hp).2.2.2.1)
    rcases hC with ⟨c3, c4⟩ | ⟨c3, af, sd, dd, la, wt, hwe, hgo, hC⟩
    · rcases hM with ⟨m3, m4⟩ | ⟨m3, m4⟩
      · have := n2.2.1
        omega
      · omega
    · have n1 := z_goR (jk := jk) (jw := jw) hgo hr hk hL2 hP5 hP0 hsr c2 (by omega) hj hwe
      obtain ⟨v1, v2⟩ := z_nIV (lim := 0) (lim2 := 0) n1 n2 c1 c3
      rcases hC with ⟨c4, c5⟩ | ⟨c4, c5⟩
      · rcases hM with ⟨m3, m4⟩ | ⟨m3, m4⟩
        · rw [c5, m4, n3 p.toNatClampNeg (by rw [z_cl c1]; exact m3), v2 c4]
          rfl
        · have := v1.mp c4
          omega
      · rcases hM with ⟨m3, m4⟩ | ⟨m3, m4⟩
        · exact absurd (v1.mpr m3) c4
        · omega
/-- leaps -/
def zLq (ti la l lp lp2 : Int32) : Prop := (0 < ti.toInt ∧ l.toInt ≠ (la + 1).toInt ∧ lp2 = lp + 1) ∨ ((ti.toInt ≤ 0 ∨ l.toInt = (la + 1).toInt) ∧ lp2 = lp)
def zLs (F : Int32 → Int32 → Int32 → Int) (kl : Nat → Bool) (on : Nat → Int32) : Nat → Int
  | 0 => 0
  | k + 1 => zLs F kl on k + (if 0 < k ∧ zNl F kl on k ≠ zNl F kl on (k - 1) + 1 then 1 else 0)
theorem z_lsB {F : Int32 → Int32 → Int32 → Int} {kl : Nat → Bool} {on : Nat → Int32} : ∀ k : Nat, 0 ≤ zLs F kl on k ∧ zLs F kl on k ≤ (k : Int) := by
  intro k
  induction k with
  | zero => exact ⟨Int.le_refl _, Int.le_refl _⟩
  | succ k ih =>
    show 0 ≤ zLs F kl on k + (if 0 < k ∧ zNl F kl on k ≠ zNl F kl on (k - 1) + 1 then 1 else 0) ∧ zLs F kl on k + (if 0 < k ∧ zNl F kl on k ≠ zNl F kl on (k - 1) + 1 then 1 else 0) ≤ ((k + 1 : Nat) : Int)
    split <;> omega
theorem z_lsC {F F2 : Int32 → Int32 → Int32 → Int} {kl kl2 : Nat → Bool} {on on2 : Nat → Int32} (e : ∀ k : Nat, zNl F kl on k = zNl F2 kl2 on2 k) : ∀ k : Nat, zLs F kl on k = zLs F2 kl2 on2 k := by
  intro k
  induction k with
  | zero => rfl
  | succ k ih =>
    show zLs F kl on k + (if 0 < k ∧ zNl F kl on k ≠ zNl F kl on (k - 1) + 1 then 1 else 0) = zLs F2 kl2 on2 k + (if 0 < k ∧ zNl F2 kl2 on2 k ≠ zNl F2 kl2 on2 (k - 1) + 1 then 1 else 0)
    rw [ih, e k, e (k - 1)]
def zGoL (P L : Int) (G : Nat → ZQ) (sp ow af on : Nat → Int32) (ki ms : Int32) (k : Int) (lp : Int32) : Prop := ∀ (kd fg wh : Nat → Int32) (C : Nat → Nat → Prop), zGoH P L G sp ow af on kd fg wh C → lp.toInt = zLs (zFg P L kd sp wh C ms.toInt) (fun l => bt ki l) on k.toNat
theorem z_goL0 {P L : Int} {G : Nat → ZQ} {sp ow af on : Nat → Int32} {ki ms : Int32} {k : Int} (hk : k = 0) : zGoL P L G sp ow af on ki ms k 0 := fun kd fg wh C H => by subst hk; exact (show (0 : Int32).toInt = 0 by decide)
theorem z_goLS {P L k k2 : Int} {G : Nat → ZQ} {sp ow af on : Nat → Int32} {ki ms sd dd la ti r lp lp2 : Int32} (hI : zGoI P L G sp ow af on ki ms k sd dd la ti) (h : zGoL P L G sp ow af on ki ms k lp) (k0 : 0 ≤ k) (k1 : k < 1000) (hk : k2 = k + 1) (hn : zNlC P L G sp ow af sd dd la ti ms r.toInt) (r9 : r.toInt ≠ -9) (hq : 0 ≤ r.toInt → r.toInt < L → zLq ti la r lp lp2) : zGoL P L G sp ow af on ki ms k2 lp2 := fun kd fg wh C H => by
  obtain ⟨h1, h2, h3⟩ := hI kd fg wh C H
  obtain ⟨e, q⟩ := z_goN H h2 k0 h3 h1 hn
  have q : 0 ≤ r.toInt ∧ r.toInt < L := by
    rcases q with q | q
    · exact absurd q r9
    · exact q
  have s := hq q.1 q.2
  have l := h kd fg wh C H
  have b := z_lsB (F := zFg P L kd sp wh C ms.toInt) (kl := fun l => bt ki l) (on := on) k.toNat
  have L12 := H.1.2
  rw [show k2.toNat = k.toNat + 1 by omega]
  show lp2.toInt = zLs (zFg P L kd sp wh C ms.toInt) (fun l => bt ki l) on k.toNat + (if 0 < k.toNat ∧ zNl (zFg P L kd sp wh C ms.toInt) (fun l => bt ki l) on k.toNat ≠ zNl (zFg P L kd sp wh C ms.toInt) (fun l => bt ki l) on (k.toNat - 1) + 1 then 1 else 0)
  by_cases c : 0 < k
  · have la2 := h3 c
    have e1 : (la + 1).toInt = la.toInt + 1 := z_add rfl (by decide) (by omega) (by omega)
    have nl := h2.2.2 c
    rcases s with ⟨s1, s2, s3⟩ | ⟨s1, s2⟩
    · rw [if_pos ⟨by omega, by rw [← e, ← nl, ← e1]; exact s2⟩, s3, z_add rfl (show (1 : Int32).toInt = 1 by decide) (by omega) (by omega), l]
    · rw [if_neg (fun w => w.2 (by rw [← e, ← nl, ← e1]; omega)), s2, l]
      omega
  · rcases s with ⟨s1, s2, s3⟩ | ⟨s1, s2⟩
    · omega
    · rw [if_neg (fun w => by omega), s2, l]
      omega
def zGoLC (P L : Int) (G : Nat → ZQ) (sp ow af on : Nat → Int32) (ki ms : Int32) (r lp : Int32) : Prop := ∀ (kd fg wh : Nat → Int32) (C : Nat → Nat → Prop), zGoH P L G sp ow af on kd fg wh C → lp.toInt = zLs (zFg P L kd sp wh C ms.toInt) (fun l => bt ki l) on r.toInt.toNat
theorem z_goLE {P L k : Int} {G : Nat → ZQ} {sp ow af on : Nat → Int32} {ki ms sd dd la ti lp : Int32} (hI : zGoI P L G sp ow af on ki ms k sd dd la ti) (h : zGoL P L G sp ow af on ki ms k lp) : zGoLC P L G sp ow af on ki ms ti lp := fun kd fg wh C H => by
  rw [(hI kd fg wh C H).1]
  exact h kd fg wh C H
theorem z_goLR {P L ki jk jw r lp : Int32} {G : Nat → ZQ} {sp cu ow on tx sz af a1 a2 a4 a5 a7 a8 : Nat → Int32} {i1 i2 i3 : Int} (hC : zGoLC P.toInt L.toInt G sp ow af on ki (-9) r lp) (hr : zRe P L ki sp cu ow on tx sz (zSt a1 a2 sp a4 a5 cu a7 a8 i1 i2 i3)) (hk : zKn P.toInt G a1 a2) (hL2 : L.toInt ≤ 12) (hP5 : P.toInt ≤ 5) (hP0 : 0 ≤ P.toInt) (hsr : zSrR P.toInt sp) (h0 : 0 < L.toInt) (hj : jk.toInt = -9) (hwe : zWe P.toInt L.toInt G tx sz on cu 0 af L.toInt) : lp.toInt = zLs (zFr P.toInt L.toInt a8 a5 jk jw a1 a2 sp a4 cu) (zKb a7) a4 r.toInt.toNat := by
  rw [hC a1 a2 a4 _ (z_goHr hr hk hL2 hP5 hsr h0)]
  exact z_lsC (fun k => (z_nlC h0 hL2 (z_ngF hr hk hL2 hP0 hj hwe) (z_kbE hr hL2) (fun l hl => (hr.2.2.1 l (by omega)).2.1.symm) k).1) _
/-- the reference's row of a night -/
def zLsA (ni : Nat → Int32) : Nat → Int
  | 0 => 0
  | k + 1 => zLsA ni k + (if 0 < k ∧ (ni k).toInt ≠ (ni (k - 1) + 1).toInt then 1 else 0)
theorem z_lsA1 {ni : Nat → Int32} : zLsA ni 1 = 0 := by
  show zLsA ni 0 + (if 0 < 0 ∧ (ni 0).toInt ≠ (ni (0 - 1) + 1).toInt then 1 else 0) = 0
  rw [if_neg (fun h => absurd h.1 (by decide))]
  rfl
theorem z_lrI0 {ni : Nat → Int32} {n k : Int32} (hn : n.toInt = 0) (hk : k.toInt = 1) : n.toInt = zLsA ni k.toInt.toNat := by
  rw [hn, hk]
  exact z_lsA1.symm
theorem z_lrS {ni : Nat → Int32} {n k n2 k2 w1 y w2 w3 : Int32} (h : n.toInt = zLsA ni k.toInt.toNat) (k1 : 1 ≤ k.toInt) (hk : k2.toInt = k.toInt + 1) (ew1 : w1 = ni k.toNatClampNeg) (ey : y.toInt = k.toInt - 1) (ew2 : w2 = ni y.toNatClampNeg) (ew3 : w3 = w2 + 1) (s : (w1.toInt = w3.toInt ∧ n2.toInt = n.toInt) ∨ (w1.toInt ≠ w3.toInt ∧ n2.toInt = n.toInt + 1)) : n2.toInt = zLsA ni k2.toInt.toNat := by
  have ky : y.toNatClampNeg = k.toInt.toNat - 1 := by have := z_cl (show 0 ≤ y.toInt by omega); omega
  rw [show k2.toInt.toNat = k.toInt.toNat + 1 by omega]
  show n2.toInt = zLsA ni k.toInt.toNat + (if 0 < k.toInt.toNat ∧ (ni k.toInt.toNat).toInt ≠ (ni (k.toInt.toNat - 1) + 1).toInt then 1 else 0)
  rw [← h, ← ky, ← ew2, ← ew3, show ni k.toInt.toNat = w1 from ew1.symm]
  rcases s with ⟨s1, s2⟩ | ⟨s1, s2⟩
  · rw [if_neg (fun w => w.2 s1), s2]
    omega
  · rw [if_pos ⟨by omega, s1⟩, s2]
theorem z_lrE {ni : Nat → Int32} {n k : Int32} {nm : Int} (h : n.toInt = zLsA ni k.toInt.toNat) (k1 : nm ≤ k.toInt) (k2 : k.toInt ≤ nm ∨ k.toInt = 1) (n0 : 0 ≤ nm) : n.toInt = zLsA ni nm.toNat := by
  by_cases c : k.toInt = nm
  · rw [h, c]
  · rw [h, show k.toInt.toNat = 1 by omega, show nm.toNat = 0 by omega, z_lsA1]
    rfl
def zWrI (ni : Nat → Int32) (k : Int) : Prop := ∀ q : Nat, (q : Int) < k → (ni q).toInt = (q : Int)
theorem z_wrI0 {ni : Nat → Int32} {k : Int} (hk : k = 0) : zWrI ni k := fun q hq => by omega
theorem z_wrS {ni : Nat → Int32} {k k2 w : Int32} (h : zWrI ni k.toInt) (k0 : 0 ≤ k.toInt) (hk : k2.toInt = k.toInt + 1) (ew : w = ni k.toNatClampNeg) (s : w.toInt = k.toInt) : zWrI ni k2.toInt := fun q hq => by
  by_cases c : (q : Int) < k.toInt
  · exact h q c
  · rw [show q = k.toNatClampNeg by have := z_cl k0; omega, ← ew, s, z_cl k0]
def zIsW (ni : Nat → Int32) (nm L de : Int) : Prop := zWrI ni nm ∧ nm = L ∧ de = 1
theorem z_isF {ni : Nat → Int32} {nm L de r : Int} {k w : Int32} (ew : w = ni k.toNatClampNeg) (k0 : 0 ≤ k.toInt) (kn : k.toInt < nm) (s : w.toInt ≠ k.toInt) (hr : r = 0) : zYn (zIsW ni nm L de) r := Or.inr ⟨hr, fun h => s (by rw [ew, h.1 k.toNatClampNeg (by rw [z_cl k0]; exact kn), z_cl k0])⟩
theorem z_isN {ni : Nat → Int32} {nm L de r : Int} (s : nm ≠ L ∨ de ≠ 1) (hr : r = 0) : zYn (zIsW ni nm L de) r := Or.inr ⟨hr, fun h => by have := h.2; omega⟩
theorem z_isT {ni : Nat → Int32} {nm L de k r : Int} (h : zWrI ni k) (hk : nm ≤ k) (s : nm = L) (d : de = 1) (hr : r = 1) : zYn (zIsW ni nm L de) r := Or.inl ⟨hr, fun q hq => h q (by omega), s, d⟩
theorem z_ynT {p : Prop} {y r : Int} (h : zYn p y) (e : r = y) : zYn p r := by rw [e]; exact h
/-- goes -/
def zGsC (P L : Int) (G : Nat → ZQ) (tx sz on cu sp ow : Nat → Int32) (ki p r : Int32) : Prop := ((p.toInt < 0 ∨ 3 < p.toInt) ∧ r.toInt = -2) ∨ (0 ≤ p.toInt ∧ p.toInt ≤ 3 ∧ L = 0 ∧ r.toInt = -3) ∨ (0 ≤ p.toInt ∧ p.toInt ≤ 3 ∧ 0 < L ∧ ∃ (af : Nat → Int32) (sd dd la wt lp : Int32), zWe P L G tx sz on cu 0 af L ∧ zGoC P L G sp ow af on ki (-9) 60 sd dd la wt ∧ zGoLC P L G sp ow af on ki (-9) wt lp ∧ ((p.toInt = 0 ∧ r = wt) ∨ (p.toInt = 1 ∧ r = lp) ∨ (p.toInt = 2 ∧ r = dd) ∨ (p.toInt = 3 ∧ zYn (wt.toInt = L ∧ lp.toInt = 0) r.toInt)))
def zGsM (P L : Int) (wd mn : Nat → Int32) (jk jw : Int32) (kd fg sp wh cu kl : Nat → Int32) (p r : Int32) : Prop := ((p.toInt < 0 ∨ 3 < p.toInt) ∧ r.toInt = -2) ∨ (0 ≤ p.toInt ∧ p.toInt ≤ 3 ∧ L = 0 ∧ r.toInt = -3) ∨ (0 ≤ p.toInt ∧ p.toInt ≤ 3 ∧ 0 < L ∧ ∃ (nm nd de : Int32) (ni : Nat → Int32), zGnM P L wd mn jk jw kd fg sp wh cu kl nm nd de ni ∧ ((p.toInt = 0 ∧ r = nm) ∨ (p.toInt = 1 ∧ r.toInt = zLsA ni nm.toInt.toNat) ∨ (p.toInt = 2 ∧ r = nd) ∨ (p.toInt = 3 ∧ zYn (zIsW ni nm.toInt L de.toInt) r.toInt)))
theorem z_lsAE {F : Int32 → Int32 → Int32 → Int} {kl : Nat → Bool} {on ni : Nat → Int32} {n : Int} (h : ∀ q : Nat, (q : Int) < n → (ni q).toInt = zNl F kl on q) (hb : ∀ q : Nat, zNl F kl on q = -9 ∨ (0 ≤ zNl F kl on q ∧ zNl F kl on q < 12)) : ∀ k : Nat, (k : Int) ≤ n → zLsA ni k = zLs F kl on k := by
  intro k
  induction k with
  | zero => intro _; rfl
  | succ k ih =>
    intro hk
    have b0 := hb (k - 1)
    have h0 := h (k - 1) (by omega)
    have e1 : (ni (k - 1) + 1).toInt = (ni (k - 1)).toInt + 1 := z_add rfl (by decide) (by omega) (by omega)
    show zLsA ni k + (if 0 < k ∧ (ni k).toInt ≠ (ni (k - 1) + 1).toInt then 1 else 0) = zLs F kl on k + (if 0 < k ∧ zNl F kl on k ≠ zNl F kl on (k - 1) + 1 then 1 else 0)
    rw [ih (by omega), e1, h k (by omega), h0]
/-- no leap: as it is written -/
theorem z_lsZ {F : Int32 → Int32 → Int32 → Int} {kl : Nat → Bool} {on : Nat → Int32} : ∀ k : Nat, zLs F kl on k = 0 ↔ ∀ q : Nat, q < k → zNl F kl on q = (q : Int) := by
  intro k
  have n0 : zNl F kl on 0 = 0 := rfl
  induction k with
  | zero => exact ⟨fun _ q hq => absurd hq (Nat.not_lt_zero q), fun _ => rfl⟩
  | succ k ih =>
    have b := z_lsB (F := F) (kl := kl) (on := on) k
    show zLs F kl on k + (if 0 < k ∧ zNl F kl on k ≠ zNl F kl on (k - 1) + 1 then 1 else 0) = 0 ↔ _
    by_cases c : 0 < k ∧ zNl F kl on k ≠ zNl F kl on (k - 1) + 1
    · rw [if_pos c]
      refine ⟨fun h => by omega, fun h => ?_⟩
      have x1 := h k (by omega)
      have x2 := h (k - 1) (by omega)
      have := c.2
      have := c.1
      omega
    · rw [if_neg c]
      refine ⟨fun h q hq => ?_, fun h => ?_⟩
      · have h9 := ih.mp (by omega)
        by_cases d : q < k
        · exact h9 q d
        · have eq9 : q = k := by omega
          rw [eq9]
          by_cases f : 0 < k
          · have x2 := h9 (k - 1) (by omega)
            have x3 : zNl F kl on k = zNl F kl on (k - 1) + 1 := Classical.byContradiction (fun w => c ⟨f, w⟩)
            omega
          · rw [show k = 0 by omega]
            exact n0
      · have := ih.mpr (fun q hq => h q (by omega))
        omega
theorem z_gsLaw {P L ki Q M jk jw p r r2 : Int32} {G : Nat → ZQ} {sp cu ow on tx sz a1 a2 a3 a4 a5 a6 a7 a8 : Nat → Int32} {i1 i2 i3 : Int} (hC : zGsC P.toInt L.toInt G tx sz on cu sp ow ki p r) (hM : zGsM Q.toInt M.toInt a8 a5 jk jw a1 a2 a3 a4 a6 a7 p r2) (hr : zRe P L ki sp cu ow on tx sz (zSt a1 a2 a3 a4 a5 a6 a7 a8 i1 i2 i3)) (hk : zKn P.toInt G a1 a2) (hs : sp = a3) (hc : cu = a6) (hP : P.toInt = Q.toInt) (hL : L.toInt = M.toInt) (hL2 : L.toInt ≤ 12) (hP5 : P.toInt ≤ 5) (hP0 : 0 ≤ P.toInt) (hj : jk.toInt = -9) (hsr : zSrR P.toInt sp) : r.toInt = r2.toInt := by
  obtain rfl := z_i32 hP
  obtain rfl := z_i32 hL
  subst hs hc
  rcases hC with ⟨c1, c2⟩ | ⟨c1, c2, c3, c4⟩ | ⟨c1, c2, c3, af, sd, dd, la, wt, lp, hwe, hgo, hlp, hC⟩ <;> rcases hM with ⟨m1, m2⟩ | ⟨m1, m2, m3, m4⟩ | ⟨m1, m2, m3, nm, nd, de, ni, hg, hM⟩
  · omega
  · omega
  · omega
  · omega
  · omega
  · omega
  · omega
  · omega
  · obtain ⟨sd2, la2, n2, n3, n4⟩ := hg c3 hL2 (fun p hp => (hk p hp).2.2.2.1)
    have n1 := z_goR (jk := jk) (jw := jw) hgo hr hk hL2 hP5 hP0 hsr c3 (by omega) hj hwe
    have l1 := z_goLR (jk := jk) (jw := jw) hlp hr hk hL2 hP5 hP0 hsr c3 hj hwe
    have en := z_nEU n1 n2
    have hb : ∀ q : Nat, zNl (zFr P.toInt L.toInt a8 a5 jk jw a1 a2 sp a4 cu) (zKb a7) a4 q = -9 ∨ (0 ≤ zNl (zFr P.toInt L.toInt a8 a5 jk jw a1 a2 sp a4 cu) (zKb a7) a4 q ∧ zNl (zFr P.toInt L.toInt a8 a5 jk jw a1 a2 sp a4 cu) (zKb a7) a4 q < 12) := fun q => by
      have w := z_nlC (on2 := a4) c3 hL2 (z_ngF (jk := jk) (jw := jw) hr hk hL2 hP0 hj hwe) (z_kbE hr hL2) (fun l hl => (hr.2.2.1 l (by omega)).2.1.symm) q
      rw [← w.1]
      have := w.2
      omega
    have hA := z_lsAE n3 hb nm.toInt.toNat (by have := n2.1; omega)
    rcases hC with ⟨c4, c5⟩ | ⟨c4, c5⟩ | ⟨c4, c5⟩ | ⟨c4, c5⟩ <;> rcases hM with ⟨m4, m5⟩ | ⟨m4, m5⟩ | ⟨m4, m5⟩ | ⟨m4, m5⟩ <;> first
      | (exfalso; omega)
      | skip
    · rw [c5, m5]; exact en
    · rw [c5, l1, m5, hA, en]
    · have e1 := n1.2.2.1.1
      have e2 := n2.2.2.1.1
      rw [en, ← e2] at e1
      rw [c5, m5]
      exact congrArg (fun x => x.2.1.toInt) e1
    · have z1 : (wt.toInt = L.toInt ∧ lp.toInt = 0) ↔ zIsW ni nm.toInt L.toInt de.toInt := by
        rw [l1, z_lsZ, en]
        refine ⟨fun h => ⟨fun q hq => ?_, h.1, ?_⟩, fun h => ⟨h.2.1, fun q hq => ?_⟩⟩
        · rw [n3 q hq]
          exact h.2 q (by omega)
        · rcases n4 with n4 | n4
          · exact n4.1
          · rcases n2.2.2.2 with w | w
            · omega
            · exact absurd w n4.2
        · have hq2 : (q : Int) < nm.toInt := by have := n2.1; omega
          rw [← n3 q hq2]
          exact h.1 q hq2
      rcases c5 with ⟨c5, c6⟩ | ⟨c5, c6⟩ <;> rcases m5 with ⟨m5, m6⟩ | ⟨m5, m6⟩
      · omega
      · exact absurd (z1.mp c6) m6
      · exact absurd (z1.mpr m6) c6
      · omega
/-- nights in which something is otherwise -/
theorem z_deJ2 {wd mn : Nat → Int32} {jk jw : Int32} {i j h : Int} (hj : i ≠ jk.toInt) (i0 : 0 ≤ i) : zDeR wd mn jk jw i j h ↔ zDe wd mn i j h := by
  have e : zSn mn jk i = (mn i.toNat).toInt := by
    unfold zSn
    rw [if_neg hj]
    omega
  have w : ∀ k : Nat, (k : Int) < (mn i.toNat).toInt → zJw wd mn jw i (k : Int) = zWf wd (5 * i.toNat) k := fun k hk => by
    unfold zJw zWf
    rw [if_neg (by omega), show (5 * i + (k : Int)).toNat = 5 * i.toNat + k by omega]
  unfold zDeR zDe
  rw [e]
  exact ⟨z_enW w, z_enW (fun k hk => (w k hk).symm)⟩
theorem z_cueG {L : Int} {jk jw i : Int32} {cu wd mn kd fg wh : Nat → Int32} {he : Nat → Int} {x : Int32} (a : zCbP L (zWf wd (5 * i.toNatClampNeg)) (mn i.toNatClampNeg).toInt wd mn he L x) (hij : i.toInt ≠ jk.toInt) (i0 : 0 ≤ i.toInt) {j : Nat} (hj12 : j < 12) (hjL : (j : Int) < L) (hh : he j = zHd kd fg (cu j).toInt (wh j).toInt.toNat) : bt x j = true ↔ zIcR wd mn jk jw kd fg wh cu i.toInt (j : Int) := by
  rw [a.2 j hj12]
  have key : 1 ≤ j → (zEnds (zWf wd (5 * i.toNatClampNeg)) (mn i.toNatClampNeg).toInt (zWf wd (5 * (j - 1))) (mn (j - 1)).toInt (he j) ↔ zIcR wd mn jk jw kd fg wh cu i.toInt (j : Int)) := fun j1 => by
    unfold zIcR
    rw [hh, z_deJ2 hij i0, z_deN2 j1]
    exact ⟨fun q => ⟨by omega, q⟩, fun q => q.2⟩
  exact ⟨fun q => (key q.1).mp q.2.2, fun q => ⟨by have := q.1; omega, hjL, (key (by have := q.1; omega)).mpr q⟩⟩
theorem z_ngG {P L ms : Int} {jk jw : Int32} {G : Nat → ZQ} {sp af a1 a2 a4 a5 a8 kd2 cu2 : Nat → Int32} (hk : zKn P G a1 a2) (hL2 : L ≤ 12) (hP0 : 0 ≤ P) (hkd : ∀ q : Nat, (q : Int) < P → (q : Int) ≠ ms → a1 q = kd2 q) (hms : ∀ q : Nat, (q : Int) < P → (q : Int) = ms → (kd2 q).toInt = 4) (hcue : ∀ (la : Int32) (j : Nat), 0 ≤ la.toInt → la.toInt < L → j < 12 → (j : Int) < L → (a4 j).toInt ≠ ms → (bt (af la.toNatClampNeg) j = true ↔ zIcR a8 a5 jk jw kd2 a2 a4 cu2 la.toInt (j : Int))) (sd dd la : Int32) (l0 : 0 ≤ la.toInt) (l1 : la.toInt < L) : zFg P L a1 sp a4 (fun la j => bt (af la) j = true) ms sd dd la = zFr P L a8 a5 jk jw kd2 a2 sp a4 cu2 sd dd la ∧ (zFg P L a1 sp a4 (fun la j => bt (af la) j = true) ms sd dd la = -9 ∨ (0 ≤ zFg P L a1 sp a4 (fun la j => bt (af la) j = true) ms sd dd la ∧ zFg P L a1 sp a4 (fun la j => bt (af la) j = true) ms sd dd la < L)) := by
  have hm9 : ∀ q : Nat, (q : Int) = ms → zCc L a1 a4 (fun la j => bt (af la) j = true) ms sd dd la q = -9 := fun q c => by
    unfold zCc zCq
    rw [if_pos c]
  refine ⟨z_fuC hP0 (fun q hq => ?_) (fun q hq hc => ?_), z_bstR (z_fuS hP0) (fun q hq => z_cqR (hk q hq).2.2.2.1.1 (hk q hq).2.2.2.1.2 hL2)⟩
  · by_cases c : (q : Int) = ms
    · rw [hm9 q c]
      show -9 = zCom (fun q => bt dd q) (fun q => (kd2 q).toInt) L a4 (fun j => zIcR a8 a5 jk jw kd2 a2 a4 cu2 la.toInt (j : Int)) (fun j => bt sd j = true) q
      exact z_comE (dd := fun q => bt dd q) (kd := fun q => (kd2 q).toInt) (z_cw4 (hms q hq c) rfl)
    · show zCq L a1 a4 (fun j => bt (af la.toNatClampNeg) j = true) sd dd ms q = zCr L kd2 a4 (fun j => zIcR a8 a5 jk jw kd2 a2 a4 cu2 la.toInt (j : Int)) sd dd q
      unfold zCq zCr
      rw [if_neg c]
      exact z_comC (congrArg Int32.toInt (hkd q hq c)) (fun j hjL ho => hcue la j l0 l1 (by omega) hjL (by rw [ho]; exact c))
  · by_cases c : (q : Int) = ms
    · exact absurd (hm9 q c) hc
    · unfold zHq zHs
      rw [hkd q hq c]
theorem z_goRG {P L ki jk jw r sd dd la ms : Int32} {lim : Int} {G : Nat → ZQ} {sp cu ow on tx sz af a1 a2 a4 a5 a7 a8 kd2 cu2 : Nat → Int32} {i1 i2 i3 : Int} (hC : zGoC P.toInt L.toInt G sp ow af on ki ms lim sd dd la r) (hr : zRe P L ki sp cu ow on tx sz (zSt a1 a2 sp a4 a5 cu a7 a8 i1 i2 i3)) (hk : zKn P.toInt G a1 a2) (hL2 : L.toInt ≤ 12) (hP5 : P.toInt ≤ 5) (hP0 : 0 ≤ P.toInt) (hsr : zSrR P.toInt sp) (h0 : 0 < L.toInt) (hlim : 0 ≤ lim) (hkd : ∀ q : Nat, (q : Int) < P.toInt → (q : Int) ≠ ms.toInt → a1 q = kd2 q) (hms : ∀ q : Nat, (q : Int) < P.toInt → (q : Int) = ms.toInt → (kd2 q).toInt = 4) (hcue : ∀ (la : Int32) (j : Nat), 0 ≤ la.toInt → la.toInt < L.toInt → j < 12 → (j : Int) < L.toInt → (a4 j).toInt ≠ ms.toInt → (bt (af la.toNatClampNeg) j = true ↔ zIcR a8 a5 jk jw kd2 a2 a4 cu2 la.toInt (j : Int))) : zNE (zFr P.toInt L.toInt a8 a5 jk jw kd2 a2 sp a4 cu2) (zKb a7) a4 lim r.toInt sd dd la :=
  z_nEC (hC hlim a1 a2 a4 _ (z_goHr hr hk hL2 hP5 hsr h0)) h0 hL2 (z_ngG hk hL2 hP0 hkd hms hcue) (z_kbE hr hL2) (fun l hl => (hr.2.2.1 l (by omega)).2.1.symm)
/-- stretched -/
def zQc (k p : Int) (cu cu2 : Nat → Int32) : Prop := ∀ j : Nat, (j : Int) < k → (cu2 j).toInt = zMn ((cu j).toInt + p) 4
theorem z_qc0 {k p : Int} {cu cu2 : Nat → Int32} (hk : k = 0) : zQc k p cu cu2 := fun j hj => by omega
theorem z_qcS {p : Int} {cu f f2 : Nat → Int32} {k k2 c y : Int32} (h : zQc k.toInt p cu f) (k0 : 0 ≤ k.toInt) (hk : k2.toInt = k.toInt + 1) (hc : c = cu k.toNatClampNeg) (hy : y.toInt ≤ 4 ∧ y.toInt ≤ c.toInt + p ∧ (y.toInt = 4 ∨ y.toInt = c.toInt + p)) (hf : upd f k.toNatClampNeg y = f2) : zQc k2.toInt p cu f2 := fun j hj => by
  rw [← hf, z_upd]
  split
  · rename_i e
    rw [e, ← hc]
    unfold zMn
    split <;> omega
  · exact h j (by have := z_cl k0; omega)
theorem z_qcE {k L p : Int} {cu cu2 : Nat → Int32} (h : zQc k p cu cu2) (e : L ≤ k) : zQc L p cu cu2 := fun j hj => h j (by omega)
def zStC (P L : Int) (G : Nat → ZQ) (tx sz on cu sp ow : Nat → Int32) (ki p r : Int32) : Prop := (p.toInt < 0 ∧ r.toInt = -4) ∨ (3 < p.toInt ∧ r.toInt = -6) ∨ (0 ≤ p.toInt ∧ p.toInt ≤ 3 ∧ L = 0 ∧ r.toInt = -3) ∨ (0 ≤ p.toInt ∧ p.toInt ≤ 3 ∧ 0 < L ∧ ∃ (af : Nat → Int32) (sd dd la : Int32), zWe P L G tx sz on cu p af L ∧ zGoC P L G sp ow af on ki (-9) 60 sd dd la r)
def zStM (P L : Int) (wd mn : Nat → Int32) (jk jw : Int32) (kd fg sp wh cu kl : Nat → Int32) (p r : Int32) : Prop := (p.toInt < 0 ∧ r.toInt = -4) ∨ (3 < p.toInt ∧ r.toInt = -6) ∨ (0 ≤ p.toInt ∧ p.toInt ≤ 3 ∧ L = 0 ∧ r.toInt = -3) ∨ (0 ≤ p.toInt ∧ p.toInt ≤ 3 ∧ 0 < L ∧ ∃ (cu2 : Nat → Int32) (nd de : Int32) (ni : Nat → Int32), zQc L p.toInt cu cu2 ∧ zGnM P L wd mn jk jw kd fg sp wh cu2 kl r nd de ni)
theorem z_stLaw {P L ki Q M jk jw p r r2 : Int32} {G : Nat → ZQ} {sp cu ow on tx sz a1 a2 a3 a4 a5 a6 a7 a8 : Nat → Int32} {i1 i2 i3 : Int} (hC : zStC P.toInt L.toInt G tx sz on cu sp ow ki p r) (hM : zStM Q.toInt M.toInt a8 a5 jk jw a1 a2 a3 a4 a6 a7 p r2) (hr : zRe P L ki sp cu ow on tx sz (zSt a1 a2 a3 a4 a5 a6 a7 a8 i1 i2 i3)) (hk : zKn P.toInt G a1 a2) (hs : sp = a3) (hc : cu = a6) (hP : P.toInt = Q.toInt) (hL : L.toInt = M.toInt) (hL2 : L.toInt ≤ 12) (hP5 : P.toInt ≤ 5) (hP0 : 0 ≤ P.toInt) (hj : jk.toInt = -9) (hsr : zSrR P.toInt sp) : r.toInt = r2.toInt := by
  obtain rfl := z_i32 hP
  obtain rfl := z_i32 hL
  subst hs hc
  rcases hC with ⟨c1, c2⟩ | ⟨c1, c2⟩ | ⟨c1, c2, c3, c4⟩ | ⟨c1, c2, c3, af, sd, dd, la, hwe, hgo⟩ <;> rcases hM with ⟨m1, m2⟩ | ⟨m1, m2⟩ | ⟨m1, m2, m3, m4⟩ | ⟨m1, m2, m3, cu2, nd, de, ni, hq, hg⟩ <;> first
    | omega
    | skip
  obtain ⟨sd2, la2, n2, -, -⟩ := hg c3 hL2 (fun p hp => (hk p hp).2.2.2.1)
  have H := z_pyRe hr hL2 hk
  have hw : ∀ l : Nat, (l : Int) < L.toInt → a4 l = on l := fun l hl => (hr.2.2.1 l (by omega)).2.1
  have n1 := z_goRG (jk := jk) (jw := jw) (kd2 := a1) (cu2 := cu2) hgo hr hk hL2 hP5 hP0 hsr c3 (by omega) (fun _ _ _ => rfl) (fun q _ h => by have e9 : (-9 : Int32).toInt = -9 := (by decide); omega) (fun la j l0 l1 j12 jL _ => by
    have row := hwe c1 c2 a8 a5 a1 a2 H la.toNatClampNeg (by have := z_cl l0; omega)
    refine z_cueG row (by omega) l0 j12 jL ?_
    unfold zHe
    rw [hq j jL, hw j jL])
  exact z_nEU n1 n2
/-- without one -/
def zWoC (P L : Int) (G : Nat → ZQ) (tx sz on cu sp ow : Nat → Int32) (ki p r : Int32) : Prop := ∃ (af : Nat → Int32) (sd dd la : Int32), zWe P L G tx sz on cu 0 af L ∧ zGoC P L G sp ow af on ki p 60 sd dd la r
def zWoM (P L : Int) (wd mn : Nat → Int32) (jk jw : Int32) (kd fg sp wh cu kl : Nat → Int32) (p r : Int32) : Prop := ∃ (nd de : Int32) (ni : Nat → Int32), zGnM P L wd mn jk jw (upd kd p.toNatClampNeg 4) fg sp wh cu kl r nd de ni
theorem z_woLaw {P L ki jk jw p r r2 : Int32} {G : Nat → ZQ} {sp cu ow on tx sz a1 a2 a4 a5 a7 a8 : Nat → Int32} {i1 i2 i3 : Int} (hC : zWoC P.toInt L.toInt G tx sz on cu sp ow ki p r) (hM : zWoM P.toInt L.toInt a8 a5 jk jw a1 a2 sp a4 cu a7 p r2) (p0 : 0 ≤ p.toInt) (h0 : 0 < L.toInt) (hr : zRe P L ki sp cu ow on tx sz (zSt a1 a2 sp a4 a5 cu a7 a8 i1 i2 i3)) (hk : zKn P.toInt G a1 a2) (hL2 : L.toInt ≤ 12) (hP5 : P.toInt ≤ 5) (hP0 : 0 ≤ P.toInt) (hj : jk.toInt = -9) (hsr : zSrR P.toInt sp) : r.toInt = r2.toInt := by
  obtain ⟨af, sd, dd, la, hwe, hgo⟩ := hC
  obtain ⟨nd, de, ni, hg⟩ := hM
  have hp := z_cl p0
  have e4 : (4 : Int32).toInt = 4 := by decide
  have e0 : (0 : Int32).toInt = 0 := by decide
  have hkd : ∀ q : Nat, (q : Int) < P.toInt → (q : Int) ≠ p.toInt → a1 q = upd a1 p.toNatClampNeg 4 q := fun q _ h => by
    rw [z_upd, if_neg (by omega)]
  have hms : ∀ q : Nat, (q : Int) < P.toInt → (q : Int) = p.toInt → (upd a1 p.toNatClampNeg 4 q).toInt = 4 := fun q _ h => by
    rw [z_upd, if_pos (by omega)]
    exact e4
  obtain ⟨sd2, la2, n2, -, -⟩ := hg h0 hL2 (fun q hq => by
    by_cases c : (q : Int) = p.toInt
    · rw [hms q hq c]
      omega
    · rw [← hkd q hq c]
      exact (hk q hq).2.2.2.1)
  have H := z_pyRe hr hL2 hk
  have hw : ∀ l : Nat, (l : Int) < L.toInt → a4 l = on l := fun l hl => (hr.2.2.1 l (by omega)).2.1
  have n1 := z_goRG (jk := jk) (jw := jw) (kd2 := upd a1 p.toNatClampNeg 4) (cu2 := cu) hgo hr hk hL2 hP5 hP0 hsr h0 (by omega) hkd hms (fun la j l0 l1 j12 jL jp => by
    have row := hwe (by decide) (by decide) a8 a5 a1 a2 H la.toNatClampNeg (by have := z_cl l0; omega)
    rw [e0] at row
    refine z_cueG row (by omega) l0 j12 jL ?_
    have o := (hr.2.2.2.2.2.2 j jL).1
    rw [← hw j jL] at o
    rw [z_heE H.2.2 hw jL]
    unfold zHd
    rw [hkd (a4 j).toInt.toNat (by omega) (by omega)])
  exact z_nEU n1 n2
def zWpC (P L : Int) (W : Prop) (p r : Int32) : Prop := ((p.toInt < 0 ∨ P ≤ p.toInt) ∧ r.toInt = -1) ∨ (0 ≤ p.toInt ∧ p.toInt < P ∧ L = 0 ∧ r.toInt = -3) ∨ (0 ≤ p.toInt ∧ p.toInt < P ∧ 0 < L ∧ W)
theorem z_wpLaw {P L ki Q M jk jw p r r2 : Int32} {G : Nat → ZQ} {sp cu ow on tx sz a1 a2 a3 a4 a5 a6 a7 a8 : Nat → Int32} {i1 i2 i3 : Int} (hC : zWpC P.toInt L.toInt (zWoC P.toInt L.toInt G tx sz on cu sp ow ki p r) p r) (hM : zWpC Q.toInt M.toInt (zWoM Q.toInt M.toInt a8 a5 jk jw a1 a2 a3 a4 a6 a7 p r2) p r2) (hr : zRe P L ki sp cu ow on tx sz (zSt a1 a2 a3 a4 a5 a6 a7 a8 i1 i2 i3)) (hk : zKn P.toInt G a1 a2) (hs : sp = a3) (hc : cu = a6) (hP : P.toInt = Q.toInt) (hL : L.toInt = M.toInt) (hL2 : L.toInt ≤ 12) (hP5 : P.toInt ≤ 5) (hP0 : 0 ≤ P.toInt) (hj : jk.toInt = -9) (hsr : zSrR P.toInt sp) : r.toInt = r2.toInt := by
  obtain rfl := z_i32 hP
  obtain rfl := z_i32 hL
  subst hs hc
  rcases hC with ⟨c1, c2⟩ | ⟨c1, c2, c3, c4⟩ | ⟨c1, c2, c3, hC⟩ <;> rcases hM with ⟨m1, m2⟩ | ⟨m1, m2, m3, m4⟩ | ⟨m1, m2, m3, hM⟩ <;> first
    | omega
    | skip
  exact z_woLaw hC hM c1 c3 hr hk hL2 hP5 hP0 hj hsr
/-- least harm -/
def zMxI (N : Nat → Int) (k b m : Int) : Prop := (b = -9 ∧ m = 0 ∧ k = 0) ∨ (0 ≤ b ∧ b < k ∧ m = N b.toNat ∧ 1 ≤ m ∧ (∀ q : Nat, (q : Int) < b → N q < m) ∧ ∀ q : Nat, (q : Int) < k → N q ≤ m)
theorem z_mxI0 {N : Nat → Int} {k b m : Int} (hk : k = 0) (hb : b = -9) (hm : m = 0) : zMxI N k b m := Or.inl ⟨hb, hm, hk⟩
theorem z_mxIS {N : Nat → Int} {k k2 b m b2 m2 v : Int} (h : zMxI N k b m) (k0 : 0 ≤ k) (hk : k2 = k + 1) (hv : v = N k.toNat) (v1 : 1 ≤ v) (s : (m < v ∧ b2 = k ∧ m2 = v) ∨ (v ≤ m ∧ b2 = b ∧ m2 = m)) : zMxI N k2 b2 m2 := by
  rcases s with ⟨s1, s2, s3⟩ | ⟨s1, s2, s3⟩
  · refine Or.inr ⟨by omega, by omega, by rw [s3, s2]; exact hv, by omega, fun q hq => ?_, fun q hq => ?_⟩
    · rcases h with ⟨-, -, h3⟩ | ⟨h1, h2, h3, h4, h5, h6⟩
      · omega
      · have := h6 q (by omega)
        omega
    · by_cases c : (q : Int) < k
      · rcases h with ⟨-, -, h3⟩ | ⟨h1, h2, h3, h4, h5, h6⟩
        · omega
        · have := h6 q c
          omega
      · rw [show q = k.toNat by omega, ← hv]
        omega
  · rcases h with ⟨h1, h2, h3⟩ | ⟨h1, h2, h3, h4, h5, h6⟩
    · omega
    · refine Or.inr ⟨by omega, by omega, by rw [s3, s2]; exact h3, by omega, fun q hq => ?_, fun q hq => ?_⟩
      · have := h5 q (by omega)
        omega
      · by_cases c : (q : Int) < k
        · have := h6 q c
          omega
        · rw [show q = k.toNat by omega, ← hv]
          omega
theorem z_mxU {N : Nat → Int} {k b m b2 m2 : Int} (h : zMxI N k b m) (h2 : zMxI N k b2 m2) : b = b2 := by
  rcases h with ⟨h1, h2a, h3⟩ | ⟨h1, h2a, h3, h4, h5, h6⟩ <;> rcases h2 with ⟨g1, g2, g3⟩ | ⟨g1, g2, g3, g4, g5, g6⟩
  · omega
  · omega
  · omega
  · rcases Int.lt_trichotomy b b2 with c | c | c
    · have x := g5 b.toNat (by omega)
      have y := h6 b2.toNat (by omega)
      omega
    · exact c
    · have x := h5 b2.toNat (by omega)
      have y := g6 b.toNat (by omega)
      omega
def zLhN (P L : Int) (G : Nat → ZQ) (sp ow af on : Nat → Int32) (ki : Int32) (N : Nat → Int) : Prop := ∀ q : Int32, 0 ≤ q.toInt → q.toInt < P → ∀ sd dd la r : Int32, zGoC P L G sp ow af on ki q 60 sd dd la r → r.toInt = N q.toInt.toNat ∧ 1 ≤ r.toInt
def zLhI (P L : Int) (G : Nat → ZQ) (sp ow af on : Nat → Int32) (ki : Int32) (k b m : Int) : Prop := ∀ N : Nat → Int, zLhN P L G sp ow af on ki N → zMxI N k b m
theorem z_lhI0 {P L : Int} {G : Nat → ZQ} {sp ow af on : Nat → Int32} {ki : Int32} {k b m : Int} (hk : k = 0) (hb : b = -9) (hm : m = 0) : zLhI P L G sp ow af on ki k b m := fun N _ => z_mxI0 hk hb hm
theorem z_lhIS {P L : Int} {G : Nat → ZQ} {sp ow af on : Nat → Int32} {ki k k2 v sd dd la : Int32} {b m b2 m2 : Int} (h : zLhI P L G sp ow af on ki k.toInt b m) (k0 : 0 ≤ k.toInt) (kP : k.toInt < P) (hk : k2.toInt = k.toInt + 1) (hv : zGoC P L G sp ow af on ki k 60 sd dd la v) (s : (m < v.toInt ∧ b2 = k.toInt ∧ m2 = v.toInt) ∨ (v.toInt ≤ m ∧ b2 = b ∧ m2 = m)) : zLhI P L G sp ow af on ki k2.toInt b2 m2 := fun N H => z_mxIS (h N H) k0 hk (H k k0 kP sd dd la v hv).1 (H k k0 kP sd dd la v hv).2 s
def zLhC (P L : Int) (G : Nat → ZQ) (tx sz on cu sp ow : Nat → Int32) (ki r : Int32) : Prop := (L = 0 ∧ r.toInt = -3) ∨ (0 < L ∧ ∃ (af : Nat → Int32) (m : Int), zWe P L G tx sz on cu 0 af L ∧ zLhI P L G sp ow af on ki P r.toInt m)
def zLrN (P L : Int) (wd mn : Nat → Int32) (jk jw : Int32) (kd fg sp wh cu kl : Nat → Int32) (N : Nat → Int) : Prop := ∀ q : Int32, 0 ≤ q.toInt → q.toInt < P → ∀ r : Int32, zWoM P L wd mn jk jw kd fg sp wh cu kl q r → r.toInt = N q.toInt.toNat ∧ 1 ≤ r.toInt
def zLrI (P L : Int) (wd mn : Nat → Int32) (jk jw : Int32) (kd fg sp wh cu kl : Nat → Int32) (k b m : Int) : Prop := ∀ N : Nat → Int, zLrN P L wd mn jk jw kd fg sp wh cu kl N → zMxI N k b m
theorem z_lrhI0 {P L : Int} {wd mn : Nat → Int32} {jk jw : Int32} {kd fg sp wh cu kl : Nat → Int32} {k b m : Int} (hk : k = 0) (hb : b = -9) (hm : m = 0) : zLrI P L wd mn jk jw kd fg sp wh cu kl k b m := fun N _ => z_mxI0 hk hb hm
theorem z_lrhIS {P L : Int} {wd mn : Nat → Int32} {jk jw : Int32} {kd fg sp wh cu kl : Nat → Int32} {k k2 v : Int32} {b m b2 m2 : Int} (h : zLrI P L wd mn jk jw kd fg sp wh cu kl k.toInt b m) (k0 : 0 ≤ k.toInt) (kP : k.toInt < P) (hk : k2.toInt = k.toInt + 1) (hv : zWoM P L wd mn jk jw kd fg sp wh cu kl k v) (s : ((b < 0 ∨ m < v.toInt) ∧ b2 = k.toInt ∧ m2 = v.toInt) ∨ (0 ≤ b ∧ v.toInt ≤ m ∧ b2 = b ∧ m2 = m)) : zLrI P L wd mn jk jw kd fg sp wh cu kl k2.toInt b2 m2 := fun N H => by
  have hN := h N H
  have w := H k k0 kP v hv
  refine z_mxIS hN k0 hk w.1 w.2 ?_
  rcases s with ⟨s1, s2, s3⟩ | ⟨s1, s2, s3, s4⟩
  · refine Or.inl ⟨?_, s2, s3⟩
    rcases s1 with s1 | s1
    · rcases hN with ⟨g1, g2, g3⟩ | ⟨g1, g2, g3, g4, g5, g6⟩
      · omega
      · omega
    · exact s1
  · exact Or.inr ⟨s2, s3, s4⟩
def zLhM (P L : Int) (wd mn : Nat → Int32) (jk jw : Int32) (kd fg sp wh cu kl : Nat → Int32) (r : Int32) : Prop := (L = 0 ∧ r.toInt = -3) ∨ (0 < L ∧ ∃ m : Int, zLrI P L wd mn jk jw kd fg sp wh cu kl P r.toInt m)
theorem z_nE1 {F : Int32 → Int32 → Int32 → Int} {kl : Nat → Bool} {on : Nat → Int32} {n : Int} {sd dd la : Int32} (h : zNE F kl on 60 n sd dd la) : 1 ≤ n := by
  obtain ⟨a1, a2, -, a4⟩ := h
  by_cases c : n = 0
  · subst c
    rcases a4 with a4 | a4
    · omega
    · have : zNl F kl on (0 : Int).toNat = 0 := rfl
      omega
  · omega
noncomputable def zNn (F : Nat → Int32 → Int32 → Int32 → Int) (kl : Nat → Bool) (on : Nat → Int32) (q : Nat) : Int := Classical.epsilon (fun n => ∃ sd dd la : Int32, zNE (F q) kl on 60 n sd dd la)
theorem z_nnE {F : Nat → Int32 → Int32 → Int32 → Int} {kl : Nat → Bool} {on : Nat → Int32} {q : Nat} {n : Int} {sd dd la : Int32} (h : zNE (F q) kl on 60 n sd dd la) : n = zNn F kl on q := by
  obtain ⟨sd2, dd2, la2, h2⟩ := Classical.epsilon_spec (p := fun n => ∃ sd dd la : Int32, zNE (F q) kl on 60 n sd dd la) ⟨n, sd, dd, la, h⟩
  exact z_nEU h h2
theorem z_lhLaw {P L ki Q M jk jw r r2 : Int32} {G : Nat → ZQ} {sp cu ow on tx sz a1 a2 a3 a4 a5 a6 a7 a8 : Nat → Int32} {i1 i2 i3 : Int} (hC : zLhC P.toInt L.toInt G tx sz on cu sp ow ki r) (hM : zLhM Q.toInt M.toInt a8 a5 jk jw a1 a2 a3 a4 a6 a7 r2) (hr : zRe P L ki sp cu ow on tx sz (zSt a1 a2 a3 a4 a5 a6 a7 a8 i1 i2 i3)) (hk : zKn P.toInt G a1 a2) (hs : sp = a3) (hc : cu = a6) (hP : P.toInt = Q.toInt) (hL : L.toInt = M.toInt) (hL2 : L.toInt ≤ 12) (hP5 : P.toInt ≤ 5) (hP0 : 0 ≤ P.toInt) (hj : jk.toInt = -9) (hsr : zSrR P.toInt sp) : r.toInt = r2.toInt := by
  obtain rfl := z_i32 hP
  obtain rfl := z_i32 hL
  subst hs hc
  rcases hC with ⟨c1, c2⟩ | ⟨c1, af, m, hwe, hC⟩ <;> rcases hM with ⟨m1, m2⟩ | ⟨m1, m3, hM⟩ <;> first
    | omega
    | skip
  have e4 : (4 : Int32).toInt = 4 := by decide
  have e0 : (0 : Int32).toInt = 0 := by decide
  have H := z_pyRe hr hL2 hk
  have hw : ∀ l : Nat, (l : Int) < L.toInt → a4 l = on l := fun l hl => (hr.2.2.1 l (by omega)).2.1
  have x1 := hC (zNn (fun q => zFr P.toInt L.toInt a8 a5 jk jw (upd a1 q 4) a2 sp a4 cu) (zKb a7) a4) (fun q q0 qP sd dd la v hv => by
    have hp := z_cl q0
    have hkd : ∀ x : Nat, (x : Int) < P.toInt → (x : Int) ≠ q.toInt → a1 x = upd a1 q.toInt.toNat 4 x := fun x _ h => by
      rw [z_upd, if_neg (by omega)]
    have n1 := z_goRG (jk := jk) (jw := jw) (kd2 := upd a1 q.toInt.toNat 4) (cu2 := cu) hv hr hk hL2 hP5 hP0 hsr c1 (by omega) hkd (fun x _ h => by rw [z_upd, if_pos (by omega)]; exact e4) (fun la j l0 l1 j12 jL jp => by
      have row := hwe (by decide) (by decide) a8 a5 a1 a2 H la.toNatClampNeg (by have := z_cl l0; omega)
      rw [e0] at row
      refine z_cueG row (by omega) l0 j12 jL ?_
      have o := (hr.2.2.2.2.2.2 j jL).1
      rw [← hw j jL] at o
      rw [z_heE H.2.2 hw jL]
      unfold zHd
      rw [hkd (a4 j).toInt.toNat (by omega) (by omega)])
    exact ⟨z_nnE (F := fun q => zFr P.toInt L.toInt a8 a5 jk jw (upd a1 q 4) a2 sp a4 cu) n1, z_nE1 n1⟩)
  have x2 := hM (zNn (fun q => zFr P.toInt L.toInt a8 a5 jk jw (upd a1 q 4) a2 sp a4 cu) (zKb a7) a4) (fun q q0 qP v hv => by
    obtain ⟨nd, de, ni, hg⟩ := hv
    have hp := z_cl q0
    obtain ⟨sd2, la2, n2, -, -⟩ := hg c1 hL2 (fun x hx => by
      rw [z_upd]
      split
      · rw [e4]
        omega
      · exact (hk x hx).2.2.2.1)
    exact ⟨z_nnE (F := fun q => zFr P.toInt L.toInt a8 a5 jk jw (upd a1 q 4) a2 sp a4 cu) (q := q.toInt.toNat) n2, z_nE1 n2⟩)
  exact z_mxU x1 x2

