/-- the play of the class, held against a state of play -/
def zRe (P L ki : Int32) (sp cu ow on tx sz : Nat → Int32) (S : ZS) : Prop :=
  (S.1.1 = P.toInt ∧ S.1.2.1 = L.toInt) ∧
  (∀ j : Nat, (j : Int) < 5 → S.2 2 j = sp j) ∧
  (∀ j : Nat, (j : Int) < 12 → S.2 5 j = cu j ∧ S.2 3 j = on j ∧ S.2 4 j = sz j) ∧
  (∀ l : Nat, (l : Int) < L.toInt → (tx l).toInt = zTx (zWf (S.2 7) (5 * l)) (sz l).toInt.toNat) ∧
  (zB12 ki ∧ (∀ l, l < 12 → bt ki l = decide ((S.2 6 l).toInt = 1)) ∧ ∀ l : Nat, L.toInt ≤ (l : Int) → (l : Int) < 12 → (S.2 6 l).toInt = 0) ∧
  (∀ p : Nat, (p : Int) < P.toInt → zB12 (ow p) ∧ ∀ l : Nat, l < 12 → bt (ow p) l = decide ((l : Int) < L.toInt ∧ (on l).toInt = (p : Int))) ∧
  (∀ l : Nat, (l : Int) < L.toInt → (0 ≤ (on l).toInt ∧ (on l).toInt < P.toInt) ∧ (1 ≤ (sz l).toInt ∧ (sz l).toInt ≤ 4) ∧ (1 ≤ (cu l).toInt ∧ (cu l).toInt ≤ 4) ∧ ∀ k : Nat, (k : Int) < (sz l).toInt → 0 ≤ (S.2 7 (5 * l + k)).toInt ∧ (S.2 7 (5 * l + k)).toInt ≤ 25)
theorem z_cl {i : Int32} (h : 0 ≤ i.toInt) : ((i.toNatClampNeg : Nat) : Int) = i.toInt := Int.toNat_of_nonneg h
theorem z_upd {f : Nat → Int32} {i k : Nat} {v : Int32} : upd f i v k = if k = i then v else f k := by
  by_cases c : k = i
  · subst c; rw [pk_us, if_pos rfl]
  · rw [pk_un c, if_neg c]
theorem z_reP {t : Nat → Int32} {n a : Int} {P L ki P2 d : Int32} {sp cu ow on tx sz sp2 ow2 : Nat → Int32} {S : ZS} (h : zRe P L ki sp cu ow on tx sz S) (hp : zAt t n a = 112) (h0 : 0 ≤ P.toInt) (h5 : P.toInt < 5) (hL : L.toInt ≤ 12) (e1 : P2.toInt = P.toInt + 1) (e2 : sp2 = upd sp P.toNatClampNeg d) (hd : d.toInt = zAt t n (a + 3) - 48) (e3 : ow2 = upd ow P.toNatClampNeg 0) : zRe P2 L ki sp2 cu ow2 on tx sz (zCm t n a S) := by
  obtain ⟨⟨a1, a2⟩, a3, a4, a5, a6, a7, a8⟩ := h
  have hc := z_cl h0
  unfold zRe zCm
  rw [if_pos hp]
  refine ⟨⟨?_, a2⟩, fun j hj => ?_, a4, a5, a6, fun p hp2 => ?_, fun l hl => ?_⟩
  · show S.1.1 + 1 = P2.toInt
    omega
  · show upd (S.2 2) S.1.1.toNat (zIo (zAt t n (a + 3) - 48)) j = sp2 j
    rw [e2, ← z_io hd, a1]
    show upd (S.2 2) P.toNatClampNeg d j = upd sp P.toNatClampNeg d j
    rw [z_upd, z_upd, a3 j hj]
  · rw [e3, z_upd]
    by_cases c : p = P.toNatClampNeg
    · rw [if_pos c]
      refine ⟨z_b12Z, fun l hl => ?_⟩
      rw [b_0]
      refine (decide_eq_false fun q => ?_).symm
      have := (a8 l q.1).1.2
      omega
    · rw [if_neg c]
      exact a7 p (by omega)
  · obtain ⟨b1, b2, b3, b4⟩ := a8 l hl
    exact ⟨⟨b1.1, by omega⟩, b2, b3, b4⟩
theorem z_reL {t : Nat → Int32} {n a : Int} {P L ki L2 ki2 o z c x : Int32} {sp cu ow on tx sz cu2 ow2 on2 tx2 sz2 : Nat → Int32} {S : ZS} (h : zRe P L ki sp cu ow on tx sz S) (hp : zAt t n a ≠ 112) (hok : zOk t n a) (hf : zFtL t n a P.toInt L.toInt) (h0 : 0 ≤ L.toInt) (e1 : L2.toInt = L.toInt + 1)
    (e2 : on2 = upd on L.toNatClampNeg o) (ho : o.toInt = zAt t n (a + 1) - 48) (e3 : sz2 = upd sz L.toNatClampNeg z) (hz : z.toInt = zWd t n (a + 2)) (e4 : cu2 = upd cu L.toNatClampNeg c) (hc : c.toInt = zAt t n (a + 2 + zWd t n (a + 2)) - 48) (e5 : tx2 = upd tx L.toNatClampNeg x) (hx : x.toInt = zTx (fun j => zAt t n (a + 2 + (j : Int)) - 97) (zWd t n (a + 2)).toNat)
    (e6 : ow2 = upd ow o.toNatClampNeg (ow o.toNatClampNeg ||| ((1 : Int32) <<< (L &&& 31)))) (hk : (zXc t n (a + 3 + zWd t n (a + 2)) = 1 ∧ ki2 = ki ||| ((1 : Int32) <<< (L &&& 31))) ∨ (zXc t n (a + 3 + zWd t n (a + 2)) = 0 ∧ ki2 = ki)) : zRe P L2 ki2 sp cu2 ow2 on2 tx2 sz2 (zCm t n a S) := by
  obtain ⟨⟨a1, a2⟩, a3, a4, a5, ⟨a6, a6b, a6c⟩, a7, a8⟩ := h
  obtain ⟨f1, f2, f3, f4⟩ := hf
  obtain ⟨g0, g4, gw, -⟩ := z_wdF t n (a + 2)
  have hcl := z_cl h0
  have dg : zDg t n (a + 1) ∧ 0 < zWd t n (a + 2) := by
    rcases hok with ⟨q, -⟩ | ⟨-, q, q2, -⟩
    · exact absurd q hp
    · exact ⟨q, q2⟩
  have d1 := dg.1.1
  have ho0 : 0 ≤ o.toInt := by omega
  have hco := z_cl ho0
  have ew : ∀ k : Nat, zWr t n a (S.2 7) L.toInt (zWd t n (a + 2)) k = if 5 * L.toInt ≤ (k : Int) ∧ (k : Int) < 5 * L.toInt + zWd t n (a + 2) then zIo (zAt t n (a + 2 + ((k : Int) - 5 * L.toInt)) - 97) else S.2 7 k := fun k => rfl
  have hio : ∀ v : Int, 0 ≤ v → v ≤ 200 → (zIo v).toInt = v := fun v v0 v1 => by
    unfold zIo
    rw [Int32.toInt_ofInt]
    exact z_bm (by omega) (by omega)
  have hwv : ∀ k : Nat, (k : Int) < zWd t n (a + 2) → (zWr t n a (S.2 7) L.toInt (zWd t n (a + 2)) (5 * L.toNatClampNeg + k)).toInt = zAt t n (a + 2 + (k : Int)) - 97 ∧ 0 ≤ zAt t n (a + 2 + (k : Int)) - 97 ∧ zAt t n (a + 2 + (k : Int)) - 97 ≤ 25 := fun k hk => by
    have w := gw (k : Int) (by omega) hk
    have w1 := w.1
    have w2 := w.2
    rw [ew, if_pos (by omega), show (((5 * L.toNatClampNeg + k : Nat) : Int) - 5 * L.toInt) = (k : Int) by omega, hio _ (by omega) (by omega)]
    exact ⟨rfl, by omega, by omega⟩
  have hwo : ∀ l k : Nat, (l : Int) < L.toInt → (k : Int) < 5 → zWr t n a (S.2 7) L.toInt (zWd t n (a + 2)) (5 * l + k) = S.2 7 (5 * l + k) := fun l k hl hk => by
    rw [ew, if_neg (by omega)]
  unfold zRe zCm
  rw [if_neg hp]
  refine ⟨⟨a1, ?_⟩, a3, fun j hj => ?_, fun l hl => ?_, ⟨?_, fun l hl => ?_, fun l hl hl2 => ?_⟩, fun p hp2 => ?_, fun l hl => ?_⟩
  · show S.1.2.1 + 1 = L2.toInt
    omega
  · show upd (S.2 5) S.1.2.1.toNat _ j = cu2 j ∧ upd (S.2 3) S.1.2.1.toNat _ j = on2 j ∧ upd (S.2 4) S.1.2.1.toNat _ j = sz2 j
    obtain ⟨q1, q2, q3⟩ := a4 j hj
    rw [e2, e3, e4, ← z_io hc, ← z_io ho, ← z_io hz, a2]
    show upd (S.2 5) L.toNatClampNeg c j = upd cu L.toNatClampNeg c j ∧ upd (S.2 3) L.toNatClampNeg o j = upd on L.toNatClampNeg o j ∧ upd (S.2 4) L.toNatClampNeg z j = upd sz L.toNatClampNeg z j
    rw [z_upd, z_upd, z_upd, z_upd, z_upd, z_upd, q1, q2, q3]
    exact ⟨rfl, rfl, rfl⟩
  · show (tx2 l).toInt = zTx (zWf (zWr t n a (S.2 7) S.1.2.1 (zWd t n (a + 2))) (5 * l)) (sz2 l).toInt.toNat
    rw [e5, e3, z_upd, z_upd, a2]
    by_cases q : l = L.toNatClampNeg
    · rw [if_pos q, if_pos q, hx, hz, q]
      exact z_txE _ (fun k hk => ((hwv k (by omega)).1).symm)
    · rw [if_neg q, if_neg q, a5 l (by omega)]
      have b := (a8 l (by omega)).2.1
      exact z_txE _ (fun k hk => by
        show (S.2 7 (5 * l + k)).toInt = _
        unfold zWf
        rw [hwo l k (by omega) (by omega)])
  · rcases hk with ⟨-, q⟩ | ⟨-, q⟩
    · rw [q]; exact z_b12O a6 h0 (by omega)
    · rw [q]; exact a6
  · show bt ki2 l = decide ((upd (S.2 6) S.1.2.1.toNat (zIo (zXc t n (a + 3 + zWd t n (a + 2)))) l).toInt = 1)
    rw [z_upd, a2]
    have eL : L.toInt.toNat = L.toNatClampNeg := rfl
    have k0 : bt ki L.toNatClampNeg = false := by
      rw [a6b _ (by omega)]
      exact decide_eq_false (by have := a6c L.toNatClampNeg (by omega) (by omega); omega)
    by_cases q : l = L.toInt.toNat
    · rw [if_pos q]
      rcases hk with ⟨q1, q2⟩ | ⟨q1, q2⟩
      · rw [q2, z_btO h0 (by omega) (by omega), q1, hio 1 (by omega) (by omega), decide_eq_true q, Bool.or_true]
        rfl
      · rw [q2, q1, hio 0 (by omega) (by omega), q, eL, k0]
        rfl
    · rw [if_neg q]
      rcases hk with ⟨q1, q2⟩ | ⟨q1, q2⟩
      · rw [q2, z_btO h0 (by omega) (by omega), decide_eq_false q, Bool.or_false]
        exact a6b l hl
      · rw [q2]
        exact a6b l hl
  · show (upd (S.2 6) S.1.2.1.toNat (zIo (zXc t n (a + 3 + zWd t n (a + 2)))) l).toInt = 0
    rw [z_upd, a2, if_neg (by omega)]
    exact a6c l (by omega) hl2
  · obtain ⟨q1, q2⟩ := a7 p hp2
    rw [e6, z_upd]
    by_cases c : p = o.toNatClampNeg
    · rw [if_pos c, ← c]
      refine ⟨z_b12O q1 h0 (by omega), fun l hl => ?_⟩
      rw [z_btO h0 (by omega) (by omega), q2 l hl, e2, z_upd]
      by_cases q : l = L.toNatClampNeg
      · rw [if_pos q, decide_eq_true (show l = L.toInt.toNat from q), Bool.or_true]
        exact (decide_eq_true ⟨by omega, by omega⟩).symm
      · rw [if_neg q, decide_eq_false (show ¬ l = L.toInt.toNat from q), Bool.or_false]
        exact decide_eq_decide.mpr ⟨fun w => ⟨by omega, w.2⟩, fun w => ⟨by omega, w.2⟩⟩
    · rw [if_neg c]
      refine ⟨q1, fun l hl => ?_⟩
      rw [q2 l hl, e2, z_upd]
      by_cases q : l = L.toNatClampNeg
      · rw [if_pos q]
        exact decide_eq_decide.mpr ⟨fun w => by omega, fun w => by omega⟩
      · rw [if_neg q]
        exact decide_eq_decide.mpr ⟨fun w => ⟨by omega, w.2⟩, fun w => ⟨by omega, w.2⟩⟩
  · show (0 ≤ (on2 l).toInt ∧ (on2 l).toInt < P.toInt) ∧ (1 ≤ (sz2 l).toInt ∧ (sz2 l).toInt ≤ 4) ∧ (1 ≤ (cu2 l).toInt ∧ (cu2 l).toInt ≤ 4) ∧ ∀ k : Nat, (k : Int) < (sz2 l).toInt → 0 ≤ (zWr t n a (S.2 7) S.1.2.1 (zWd t n (a + 2)) (5 * l + k)).toInt ∧ (zWr t n a (S.2 7) S.1.2.1 (zWd t n (a + 2)) (5 * l + k)).toInt ≤ 25
    rw [e2, e3, e4, z_upd, z_upd, z_upd, a2]
    by_cases q : l = L.toNatClampNeg
    · rw [if_pos q, if_pos q, if_pos q]
      refine ⟨⟨by omega, by omega⟩, ⟨by omega, by omega⟩, ⟨by omega, by omega⟩, fun k hk => ?_⟩
      obtain ⟨w1, w2, w3⟩ := hwv k (by omega)
      rw [q, w1]
      exact ⟨w2, w3⟩
    · rw [if_neg q, if_neg q, if_neg q]
      obtain ⟨b1, b2, b3, b4⟩ := a8 l (by omega)
      refine ⟨b1, b2, b3, fun k hk => ?_⟩
      rw [hwo l k (by omega) (by omega)]
      exact b4 k hk
theorem z_tlS {t : Nat → Int32} {n a z : Int} {x y c k k2 : Int32} (hx : x.toInt = zTx (fun j => zAt t n (a + 2 + (j : Int)) - 97) k.toInt.toNat) (hy : y = (x <<< ((5 : Int32) &&& 31)) ||| c) (hc : c.toInt = zAt t n z - 97) (hz : z = a + 2 + k.toInt) (h0 : 0 ≤ k.toInt) (hk : k.toInt < zWd t n (a + 2)) (hk2 : k2.toInt = k.toInt + 1) : y.toInt = zTx (fun j => zAt t n (a + 2 + (j : Int)) - 97) k2.toInt.toNat := by
  obtain ⟨g0, g4, gw, -⟩ := z_wdF t n (a + 2)
  have hb : ∀ j : Nat, (j : Int) < zWd t n (a + 2) → 0 ≤ zAt t n (a + 2 + (j : Int)) - 97 ∧ zAt t n (a + 2 + (j : Int)) - 97 < 32 := fun j hj => by
    have w := gw (j : Int) (by omega) hj
    have w1 := w.1
    have w2 := w.2
    omega
  have bx := z_txB (w := fun j => zAt t n (a + 2 + (j : Int)) - 97) k.toInt.toNat (fun j hj => hb j (by omega))
  have hp : (32 : Int) ^ k.toInt.toNat ≤ 32768 := by
    rcases (show k.toInt.toNat = 0 ∨ k.toInt.toNat = 1 ∨ k.toInt.toNat = 2 ∨ k.toInt.toNat = 3 by omega) with q | q | q | q <;> rw [q] <;> decide
  have hcb := hb k.toInt.toNat (by omega)
  rw [Int.toNat_of_nonneg h0, ← hz] at hcb
  have e := z_shl5 (t := x) (c := c) (y := y) (by omega) (by omega) (by omega) (by omega) hy
  rw [show k2.toInt.toNat = k.toInt.toNat + 1 by omega]
  show y.toInt = zTx (fun j => zAt t n (a + 2 + (j : Int)) - 97) k.toInt.toNat * 32 + (zAt t n (a + 2 + ((k.toInt.toNat : Nat) : Int)) - 97)
  rw [Int.toNat_of_nonneg h0, ← hz, e, hx, hc]
def zBrJ (t : Nat → Int32) (n : Int) (P0 L0 q0 : Int32) (sp0 cu0 ow0 on0 tx0 sz0 : Nat → Int32) (k st P L ki : Int32) (sp cu ow on tx sz : Nat → Int32) : Prop :=
  zFwK t n 0 0 0 = -9 → zCkK t n 0 P0.toInt L0.toInt = -9 → zCkK t n k.toInt P.toInt L.toInt = -9 ∧ ∀ S : ZS, zRe P0 L0 q0 sp0 cu0 ow0 on0 tx0 sz0 S → ∃ S2 : ZS, zRe P L ki sp cu ow on tx sz S2 ∧ S2.1.2.2 = S.1.2.2 + st.toInt ∧ zBrK t n 0 S = zBrK t n k.toInt S2
theorem z_brJ0 {t : Nat → Int32} {n : Int} {P0 L0 q0 : Int32} {sp0 cu0 ow0 on0 tx0 sz0 : Nat → Int32} : zBrJ t n P0 L0 q0 sp0 cu0 ow0 on0 tx0 sz0 0 0 P0 L0 q0 sp0 cu0 ow0 on0 tx0 sz0 := by
  have h0 : (0 : Int32).toInt = 0 := by decide
  intro h1 h2
  rw [h0]
  exact ⟨h2, fun S hS => ⟨S, hS, by omega, rfl⟩⟩
theorem z_brJN {t : Nat → Int32} {n : Int} {P0 L0 q0 k k2 st P L ki : Int32} {sp0 cu0 ow0 on0 tx0 sz0 sp cu ow on tx sz : Nat → Int32} (h : zBrJ t n P0 L0 q0 sp0 cu0 ow0 on0 tx0 sz0 k st P L ki sp cu ow on tx sz) (hk : k.toInt < n) (hb : ¬ zBg t n k.toInt) (hk2 : k2.toInt = k.toInt + 1) : zBrJ t n P0 L0 q0 sp0 cu0 ow0 on0 tx0 sz0 k2 st P L ki sp cu ow on tx sz := by
  intro h1 h2
  obtain ⟨g1, g2⟩ := h h1 h2
  rw [hk2]
  refine ⟨by rw [← z_ckN hk hb]; exact g1, fun S hS => ?_⟩
  obtain ⟨S2, a1, a2, a3⟩ := g2 S hS
  exact ⟨S2, a1, a2, by rw [a3, z_brN hk hb]⟩
theorem z_cmC {t : Nat → Int32} {n a : Int} {S : ZS} : (zCm t n a S).1.2.2 = S.1.2.2 + 1 := by
  unfold zCm
  split <;> rfl
theorem z_brJP {t : Nat → Int32} {n : Int} {P0 L0 q0 k k2 st st2 P P2 L ki d : Int32} {sp0 cu0 ow0 on0 tx0 sz0 sp cu ow on tx sz sp2 ow2 : Nat → Int32} (h : zBrJ t n P0 L0 q0 sp0 cu0 ow0 on0 tx0 sz0 k st P L ki sp cu ow on tx sz) (hk : k.toInt < n) (h0 : 0 ≤ k.toInt) (hP0 : 0 ≤ P.toInt) (hL12 : L.toInt ≤ 12) (hb : zBg t n k.toInt) (hp : zAt t n k.toInt = 112) (hd : d.toInt = zAt t n (k.toInt + 3) - 48) (ha : P.toInt < 5 → P2.toInt = P.toInt + 1 ∧ sp2 = upd sp P.toNatClampNeg d ∧ ow2 = upd ow P.toNatClampNeg 0) (hk2 : k2.toInt = k.toInt + 1) (hs2 : st2.toInt = st.toInt + 1) : zBrJ t n P0 L0 q0 sp0 cu0 ow0 on0 tx0 sz0 k2 st2 P2 L ki sp2 cu ow2 on tx sz := by
  intro h1 h2
  obtain ⟨g1, g2⟩ := h h1 h2
  by_cases hf : zFtP t n k.toInt P.toInt
  · obtain ⟨e1, e2, e3⟩ := ha hf.1
    rw [hk2]
    refine ⟨by rw [e1, ← z_ckP hk hb hp hf]; exact g1, fun S hS => ?_⟩
    obtain ⟨S2, a1, b1, b2⟩ := g2 S hS
    exact ⟨zCm t n k.toInt S2, z_reP a1 hp hP0 hf.1 hL12 e1 e2 hd e3, by rw [z_cmC]; omega, by rw [b2, z_brB hk hb]⟩
  · rw [z_ckPX hk hb hp hf] at g1
    omega
/-- what a line brings to the class -/
def zLi (t : Nat → Int32) (n a : Int) (P L ki : Int32) (cu ow on tx sz : Nat → Int32) (L2 ki2 : Int32) (cu2 ow2 on2 tx2 sz2 : Nat → Int32) : Prop := ∃ o z c x : Int32, L2.toInt = L.toInt + 1 ∧ on2 = upd on L.toNatClampNeg o ∧ o.toInt = zAt t n (a + 1) - 48 ∧ sz2 = upd sz L.toNatClampNeg z ∧ z.toInt = zWd t n (a + 2) ∧ cu2 = upd cu L.toNatClampNeg c ∧ c.toInt = zAt t n (a + 2 + zWd t n (a + 2)) - 48 ∧ tx2 = upd tx L.toNatClampNeg x ∧ x.toInt = zTx (fun j => zAt t n (a + 2 + (j : Int)) - 97) (zWd t n (a + 2)).toNat ∧ ow2 = upd ow o.toNatClampNeg (ow o.toNatClampNeg ||| ((1 : Int32) <<< (L &&& 31))) ∧ ((zXc t n (a + 3 + zWd t n (a + 2)) = 1 ∧ ki2 = ki ||| ((1 : Int32) <<< (L &&& 31))) ∨ (zXc t n (a + 3 + zWd t n (a + 2)) = 0 ∧ ki2 = ki))
theorem z_brJL {t : Nat → Int32} {n : Int} {P0 L0 q0 k k2 st st2 P L L2 ki ki2 : Int32} {sp0 cu0 ow0 on0 tx0 sz0 sp cu ow on tx sz cu2 ow2 on2 tx2 sz2 : Nat → Int32} (h : zBrJ t n P0 L0 q0 sp0 cu0 ow0 on0 tx0 sz0 k st P L ki sp cu ow on tx sz) (hk : k.toInt < n) (h0 : 0 ≤ k.toInt) (hL0 : 0 ≤ L.toInt) (hb : zBg t n k.toInt) (hp : zAt t n k.toInt ≠ 112) (ha : L.toInt < 12 → 0 ≤ zAt t n (k.toInt + 1) - 48 → zAt t n (k.toInt + 1) - 48 < P.toInt → zLi t n k.toInt P L ki cu ow on tx sz L2 ki2 cu2 ow2 on2 tx2 sz2) (hk2 : k2.toInt = k.toInt + 1) (hs2 : st2.toInt = st.toInt + 1) : zBrJ t n P0 L0 q0 sp0 cu0 ow0 on0 tx0 sz0 k2 st2 P L2 ki2 sp cu2 ow2 on2 tx2 sz2 := by
  intro h1 h2
  obtain ⟨g1, g2⟩ := h h1 h2
  have hok := z_okBg h1 h0 hk hb
  have hdg : zDg t n (k.toInt + 1) := by
    rcases hok with ⟨q, -⟩ | ⟨-, q, -⟩
    · exact absurd q hp
    · exact q
  by_cases hf : zFtL t n k.toInt P.toInt L.toInt
  · obtain ⟨o, z, c, x, e1, e2, ho, e3, hz, e4, hc, e5, hx, e6, hk9⟩ := ha hf.1 (by have := hdg.1; omega) hf.2.1
    rw [hk2]
    refine ⟨by rw [e1, ← z_ckL hk hb hp hf]; exact g1, fun S hS => ?_⟩
    obtain ⟨S2, a1, b1, b2⟩ := g2 S hS
    exact ⟨zCm t n k.toInt S2, z_reL a1 hp hok hf hL0 e1 e2 ho e3 hz e4 hc e5 hx e6 hk9, by rw [z_cmC]; omega, by rw [b2, z_brB hk hb]⟩
  · rw [z_ckLX hk hb hp hf] at g1
    omega
theorem z_brJE {t : Nat → Int32} {n : Int} {P0 L0 q0 k st P L ki : Int32} {sp0 cu0 ow0 on0 tx0 sz0 sp cu ow on tx sz : Nat → Int32} (h : zBrJ t n P0 L0 q0 sp0 cu0 ow0 on0 tx0 sz0 k st P L ki sp cu ow on tx sz) (hk : n ≤ k.toInt) : zFwK t n 0 0 0 = -9 → zCkK t n 0 P0.toInt L0.toInt = -9 → ∀ S : ZS, zRe P0 L0 q0 sp0 cu0 ow0 on0 tx0 sz0 S → zRe P L ki sp cu ow on tx sz (zBrK t n 0 S) ∧ (zBrK t n 0 S).1.2.2 = S.1.2.2 + st.toInt := by
  intro h1 h2 S hS
  obtain ⟨-, g2⟩ := h h1 h2
  obtain ⟨S2, a1, a2, a3⟩ := g2 S hS
  rw [a3, z_brE hk]
  exact ⟨a1, a2⟩
/-! the last words of a line; cues that the line ahead alone gives -/
def zMn (a b : Int) : Int := if a < b then a else b
theorem z_mnE {m a b : Int} (h0 : m ≤ a) (h1 : m ≤ b) (h2 : m = a ∨ m = b) : m = zMn a b := by
  unfold zMn
  split <;> omega
theorem z_mnL (a b : Int) : zMn a b ≤ a ∧ zMn a b ≤ b ∧ (zMn a b = a ∨ zMn a b = b) := by
  unfold zMn
  split <;> omega
def zEnds (W : Nat → Int) (n : Int) (V : Nat → Int) (m h : Int) : Prop := zMn h m ≤ n ∧ ∀ k : Nat, 1 ≤ k → (k : Int) ≤ zMn h m → W (n.toNat - k) = V (m.toNat - k)
theorem z_enW {W W2 V : Nat → Int} {n m h : Int} (hW : ∀ k : Nat, (k : Int) < n → W k = W2 k) (q : zEnds W n V m h) : zEnds W2 n V m h := by
  refine ⟨q.1, fun k k1 k2 => ?_⟩
  have a := q.1
  rw [← hW (n.toNat - k) (by omega)]
  exact q.2 k k1 k2
theorem z_clN {i : Int32} {j : Int} (h : i.toInt = j) : i.toNatClampNeg = j.toNat := by
  show i.toInt.toNat = j.toNat
  rw [h]
def zEaP (x n j h L : Int32) (tx sz : Nat → Int32) (r : Int32) : Prop :=
  ((j.toInt < 1 ∨ L.toInt ≤ j.toInt) ∧ r.toInt = 0) ∨ (1 ≤ j.toInt ∧ j.toInt < L.toInt ∧ ∀ W V : Nat → Int, 0 ≤ h.toInt → 0 ≤ n.toInt → 0 ≤ (sz (j.toInt - 1).toNat).toInt → (sz (j.toInt - 1).toNat).toInt ≤ 4 → x.toInt = zTx W n.toInt.toNat → (tx (j.toInt - 1).toNat).toInt = zTx V (sz (j.toInt - 1).toNat).toInt.toNat → (∀ k : Nat, (k : Int) < n.toInt → 0 ≤ W k ∧ W k < 32) → (∀ k : Nat, (k : Int) < (sz (j.toInt - 1).toNat).toInt → 0 ≤ V k ∧ V k < 32) → ((r.toInt = 1 ∧ zEnds W n.toInt V (sz (j.toInt - 1).toNat).toInt h.toInt) ∨ (r.toInt = 0 ∧ ¬ zEnds W n.toInt V (sz (j.toInt - 1).toNat).toInt h.toInt)))
theorem z_eaN {x n j h L i s m r : Int32} {tx sz : Nat → Int32} (h1 : 1 ≤ j.toInt) (h2 : j.toInt < L.toInt) (hi : i.toInt = j.toInt - 1) (gs : s.toInt = (sz i.toNatClampNeg).toInt) (m0 : m.toInt ≤ h.toInt) (m1 : m.toInt ≤ s.toInt) (m2 : m.toInt = h.toInt ∨ m.toInt = s.toInt) (hn : n.toInt < m.toInt) (hr : r.toInt = 0) : zEaP x n j h L tx sz r := by
  rw [z_clN hi] at gs
  refine Or.inr ⟨h1, h2, fun W V _ _ _ _ _ _ _ _ => Or.inr ⟨hr, fun q => ?_⟩⟩
  have e := z_mnE m0 m1 m2
  have q1 := q.1
  rw [gs] at e
  omega
theorem z_eaE {x n j h L i s t m y5 ysh ymk ya yb r : Int32} {tx sz : Nat → Int32} (h1 : 1 ≤ j.toInt) (h2 : j.toInt < L.toInt) (hi : i.toInt = j.toInt - 1) (gs : s.toInt = (sz i.toNatClampNeg).toInt) (gt : t.toInt = (tx i.toNatClampNeg).toInt) (m0 : m.toInt ≤ h.toInt) (m1 : m.toInt ≤ s.toInt) (m2 : m.toInt = h.toInt ∨ m.toInt = s.toInt) (e5 : y5 = 5 * m) (esh : ysh = (1 : Int32) <<< (y5 &&& 31)) (emk : ymk = ysh - 1) (ea : ya = x &&& ymk) (eb : yb = t &&& ymk) (hn : m.toInt ≤ n.toInt) (hr : (ya.toInt = yb.toInt ∧ r.toInt = 1) ∨ (ya.toInt ≠ yb.toInt ∧ r.toInt = 0)) : zEaP x n j h L tx sz r := by
  rw [z_clN hi] at gs gt
  refine Or.inr ⟨h1, h2, fun W V h0 n0 s0 s4 ex et hW hV => ?_⟩
  have e := z_mnE m0 m1 m2
  have m00 : 0 ≤ m.toInt := by omega
  have h5 : y5.toInt = 5 * m.toInt := by rw [e5]; exact z_mul (by decide) rfl (by omega) (by omega)
  rw [gs] at e
  have key := z_txD (x := x) (y := t) (w := W) (v := V) (n := n.toInt.toNat) (m := (sz (j.toInt - 1).toNat).toInt.toNat) (h := m.toInt) (s := y5) ex (gt.trans et) (fun k hk => hW k (by omega)) (fun k hk => hV k (by omega)) m00 (by omega) (by omega) (by omega) h5
  rw [← esh, ← emk, ← ea, ← eb] at key
  have iff : zEnds W n.toInt V (sz (j.toInt - 1).toNat).toInt h.toInt ↔ ya.toInt = yb.toInt := ⟨fun q => key.mpr (fun k a b => q.2 k a (by rw [← e]; exact b)), fun q => ⟨by rw [← e]; exact hn, fun k a b => key.mp q k a (by rw [e]; exact b)⟩⟩
  rcases hr with ⟨a, b⟩ | ⟨a, b⟩
  · exact Or.inl ⟨b, iff.mpr a⟩
  · exact Or.inr ⟨b, fun q => a (iff.mp q)⟩
/-- texts and sizes of the class against words and their number -/
def zTS (L : Int) (tx sz wd mn : Nat → Int32) : Prop := ∀ l : Nat, (l : Int) < L → mn l = sz l ∧ (1 ≤ (sz l).toInt ∧ (sz l).toInt ≤ 4) ∧ (tx l).toInt = zTx (zWf wd (5 * l)) (sz l).toInt.toNat ∧ ∀ k : Nat, (k : Int) < (sz l).toInt → 0 ≤ (wd (5 * l + k)).toInt ∧ (wd (5 * l + k)).toInt ≤ 25
theorem z_reTS {P L ki : Int32} {sp cu ow on tx sz : Nat → Int32} {S : ZS} (h : zRe P L ki sp cu ow on tx sz S) (hL : L.toInt ≤ 12) : zTS L.toInt tx sz (S.2 7) (S.2 4) := fun l hl => ⟨(h.2.2.1 l (by omega)).2.2, (h.2.2.2.2.2.2 l hl).2.1, h.2.2.2.1 l hl, (h.2.2.2.2.2.2 l hl).2.2.2⟩
/-- line i ends as the line ahead of j does, as far as h words -/
def zDe (wd mn : Nat → Int32) (i j h : Int) : Prop := zEnds (zWf wd (5 * i.toNat)) (mn i.toNat).toInt (zWf wd (5 * (j - 1).toNat)) (mn (j - 1).toNat).toInt h
theorem z_eaD {x n j h L r i : Int32} {tx sz wd mn : Nat → Int32} (q : zEaP x n j h L tx sz r) (T : zTS L.toInt tx sz wd mn) (gx : x.toInt = (tx i.toNatClampNeg).toInt) (gn : n.toInt = (sz i.toNatClampNeg).toInt) (i0 : 0 ≤ i.toInt) (iL : i.toInt < L.toInt) (j1 : 1 ≤ j.toInt) (jL : j.toInt < L.toInt) (h0 : 0 ≤ h.toInt) : (r.toInt = 1 ∧ zDe wd mn i.toInt j.toInt h.toInt) ∨ (r.toInt = 0 ∧ ¬ zDe wd mn i.toInt j.toInt h.toInt) := by
  rcases q with ⟨q, -⟩ | ⟨-, -, q⟩
  · omega
  · obtain ⟨a1, a2, a3, a4⟩ := T i.toInt.toNat (by omega)
    obtain ⟨b1, b2, b3, b4⟩ := T (j.toInt - 1).toNat (by omega)
    have gx2 : x.toInt = (tx i.toInt.toNat).toInt := gx
    have gn2 : n.toInt = (sz i.toInt.toNat).toInt := gn
    unfold zDe
    rw [a1, b1, ← gn2]
    exact q (zWf wd (5 * i.toInt.toNat)) (zWf wd (5 * (j.toInt - 1).toNat)) h0 (by omega) (by omega) b2.2 (by rw [gx2, a3, gn2]) b3 (fun k hk => ⟨(a4 k (by rw [← gn2]; exact hk)).1, Int.lt_of_le_of_lt (a4 k (by rw [← gn2]; exact hk)).2 (by decide)⟩) (fun k hk => ⟨(b4 k hk).1, Int.lt_of_le_of_lt (b4 k hk).2 (by decide)⟩)
def zAl (wd mn : Nat → Int32) (L j h : Int) : Prop := ∀ i : Nat, (i : Int) < L → (i : Int) ≠ j - 1 → ¬ zDe wd mn (i : Int) j h
/-- the class's loop over the lines -/
def zAlI (L : Int) (tx sz : Nat → Int32) (j h k : Int) : Prop := 1 ≤ j → j < L → 0 ≤ h → ∀ wd mn : Nat → Int32, zTS L tx sz wd mn → zAl wd mn k j h
theorem z_alS {L : Int32} {tx sz : Nat → Int32} {j h k k2 : Int32} (q : zAlI L.toInt tx sz j.toInt h.toInt k.toInt) (hk2 : k2.toInt = k.toInt + 1) (k0 : 0 ≤ k.toInt) (s : k.toInt = j.toInt - 1 ∨ ∃ x n r : Int32, zEaP x n j h L tx sz r ∧ r.toInt = 0 ∧ x.toInt = (tx k.toNatClampNeg).toInt ∧ n.toInt = (sz k.toNatClampNeg).toInt ∧ k.toInt < L.toInt) : zAlI L.toInt tx sz j.toInt h.toInt k2.toInt := by
  intro j1 jL h0 wd mn T i hi hn
  by_cases c : (i : Int) = k.toInt
  · rcases s with s | ⟨x, n, r, e1, e2, e3, e4, e5⟩
    · omega
    · rw [c]
      rcases z_eaD e1 T e3 e4 k0 e5 j1 jL h0 with ⟨a, -⟩ | ⟨-, a⟩
      · omega
      · exact a
  · exact q j1 jL h0 wd mn T i (by omega) hn
def zAlP (L : Int) (tx sz : Nat → Int32) (j h r : Int) : Prop := 1 ≤ j → j < L → 0 ≤ h → ∀ wd mn : Nat → Int32, zTS L tx sz wd mn → ((r = 1 ∧ zAl wd mn L j h) ∨ (r = 0 ∧ ¬ zAl wd mn L j h))
theorem z_alT {L : Int32} {tx sz : Nat → Int32} {j h k r : Int32} (q : zAlI L.toInt tx sz j.toInt h.toInt k.toInt) (hk : L.toInt ≤ k.toInt) (hr : r.toInt = 1) : zAlP L.toInt tx sz j.toInt h.toInt r.toInt := fun j1 jL h0 wd mn T => Or.inl ⟨hr, fun i hi => q j1 jL h0 wd mn T i (by omega)⟩
theorem z_alF {L : Int32} {tx sz : Nat → Int32} {j h k r x n r2 : Int32} (e1 : zEaP x n j h L tx sz r2) (e2 : r2.toInt ≠ 0) (e3 : x.toInt = (tx k.toNatClampNeg).toInt) (e4 : n.toInt = (sz k.toNatClampNeg).toInt) (k0 : 0 ≤ k.toInt) (hk : k.toInt < L.toInt) (hj : k.toInt ≠ j.toInt - 1) (hr : r.toInt = 0) : zAlP L.toInt tx sz j.toInt h.toInt r.toInt := fun j1 jL h0 wd mn T => Or.inr ⟨hr, fun q => by
  rcases z_eaD e1 T e3 e4 k0 hk j1 jL h0 with ⟨-, a⟩ | ⟨a, -⟩
  · have w := q k.toInt.toNat (by omega) (by omega)
    rw [Int.toNat_of_nonneg k0] at w
    exact w a
  · exact e2 a⟩
/-- by how much a cue grows -/
def zMd (al : Int → Prop) (c m r : Int) : Prop := (0 ≤ r ∧ (r = 0 ∨ c + r ≤ m) ∧ al (c + r) ∧ ∀ q : Int, 0 ≤ q → q < r → ¬ al (c + q)) ∨ (r = -9 ∧ ∀ q : Int, 0 ≤ q → (q = 0 ∨ c + q ≤ m) → ¬ al (c + q))
theorem z_mdU {al : Int → Prop} {c m r s : Int} (h : zMd al c m r) (h2 : zMd al c m s) : r = s := by
  rcases h with ⟨a1, a2, a3, a4⟩ | ⟨a1, a2⟩ <;> rcases h2 with ⟨b1, b2, b3, b4⟩ | ⟨b1, b2⟩
  · rcases Int.lt_trichotomy r s with c | c | c
    · exact absurd a3 (b4 r a1 c)
    · exact c
    · exact absurd b3 (a4 s b1 c)
  · exact absurd a3 (b2 r a1 a2)
  · exact absurd b3 (a2 s b1 b2)
  · omega
noncomputable def zMv (al : Int → Prop) (c m : Int) : Int := Classical.epsilon (fun r => zMd al c m r)
theorem z_mvE {al : Int → Prop} {c m r : Int} (h : zMd al c m r) : r = zMv al c m := z_mdU h (Classical.epsilon_spec (p := fun r => zMd al c m r) ⟨r, h⟩)
noncomputable def zMw (wd mn cu : Nat → Int32) (L j : Int) : Int := if j ≤ 0 then 0 else zMv (zAl wd mn L j) (cu j.toNat).toInt (mn (j - 1).toNat).toInt
theorem z_mwE {wd mn cu : Nat → Int32} {L j r : Int} (hj : 0 < j) (h : zMd (zAl wd mn L j) (cu j.toNat).toInt (mn (j - 1).toNat).toInt r) : r = zMw wd mn cu L j := by
  unfold zMw
  rw [if_neg (by omega)]
  exact z_mvE h
/-- the class's loop over longer cues -/
def zMdI (L : Int) (tx sz : Nat → Int32) (j c k : Int) : Prop := 1 ≤ j → j < L → 0 ≤ c → ∀ wd mn : Nat → Int32, zTS L tx sz wd mn → c ≤ k ∧ ∀ q : Int, c ≤ q → q < k → ¬ zAl wd mn L j q
theorem z_mdI0 {L : Int} {tx sz : Nat → Int32} {j c k : Int} (h : k = c) : zMdI L tx sz j c k := fun _ _ _ _ _ _ => ⟨by omega, fun q _ _ => by omega⟩
theorem z_mdIS {L : Int} {tx sz : Nat → Int32} {j c k k2 r : Int} (h : zMdI L tx sz j c k) (a : zAlP L tx sz j k r) (hr : r = 0) (hk : k2 = k + 1) : zMdI L tx sz j c k2 := fun j1 jL c0 wd mn T => by
  obtain ⟨h1, h2⟩ := h j1 jL c0 wd mn T
  refine ⟨by omega, fun q q1 q2 => ?_⟩
  by_cases e : q = k
  · rw [e]
    rcases a j1 jL (by omega) wd mn T with ⟨b, -⟩ | ⟨-, b⟩
    · omega
    · exact b
  · exact h2 q q1 (by omega)
/-- wordsToMend of the class -/
def zMdP (L : Int) (tx sz cu : Nat → Int32) (j r : Int) : Prop := ((j < 1 ∨ L ≤ j) ∧ r = 0) ∨ (1 ≤ j ∧ j < L ∧ (0 ≤ (cu j.toNat).toInt → ∀ wd mn : Nat → Int32, zTS L tx sz wd mn → r = zMw wd mn cu L j))
theorem z_mdT {L : Int} {tx sz cu : Nat → Int32} {j c k r a s g : Int} (j1 : 1 ≤ j) (jL : j < L) (h : zMdI L tx sz j c k) (hc : c = (cu j.toNat).toInt) (ha : zAlP L tx sz j k a) (a1 : a ≠ 0) (hr : r = k - c) (hs : s = (sz (j - 1).toNat).toInt) (hg : g = c ∨ g = s) (hk : k ≤ g) : zMdP L tx sz cu j r := by
  refine Or.inr ⟨j1, jL, fun c0 wd mn T => z_mwE (by omega) ?_⟩
  rw [← hc] at c0 ⊢
  obtain ⟨h1, h2⟩ := h j1 jL c0 wd mn T
  have e := (T (j - 1).toNat (by omega)).1
  rcases ha j1 jL (by omega) wd mn T with ⟨-, b⟩ | ⟨b, -⟩
  · refine Or.inl ⟨by omega, ?_, by rw [show c + r = k by omega]; exact b, fun q q1 q2 => h2 (c + q) (by omega) (by omega)⟩
    rw [e, ← hs]
    omega
  · exact absurd b a1
theorem z_mdN {L : Int} {tx sz cu : Nat → Int32} {j c k r s g : Int} (j1 : 1 ≤ j) (jL : j < L) (h : zMdI L tx sz j c k) (hc : c = (cu j.toNat).toInt) (hr : r = -9) (hs : s = (sz (j - 1).toNat).toInt) (hg : c ≤ g) (hg2 : s ≤ g) (hk : g < k) : zMdP L tx sz cu j r := by
  refine Or.inr ⟨j1, jL, fun c0 wd mn T => z_mwE (by omega) ?_⟩
  rw [← hc] at c0 ⊢
  obtain ⟨h1, h2⟩ := h j1 jL c0 wd mn T
  have e := (T (j - 1).toNat (by omega)).1
  refine Or.inr ⟨hr, fun q q1 q2 => h2 (c + q) (by omega) ?_⟩
  rw [e, ← hs] at q2
  omega
/-- the reference: words with a joke -/
def zJw (wd mn : Nat → Int32) (q : Int32) (i k : Int) : Int := if k = (mn i.toNat).toInt then q.toInt else (wd (5 * i + k).toNat).toInt
theorem z_jw1 {wd mn : Nat → Int32} {q i k y : Int32} (g : y.toInt = (mn i.toNatClampNeg).toInt) (e : k.toInt = y.toInt) : q.toInt = zJw wd mn q i.toInt k.toInt := by
  have g2 : y.toInt = (mn i.toInt.toNat).toInt := g
  unfold zJw
  rw [if_pos (e.trans g2)]
theorem z_jw2 {wd mn : Nat → Int32} {q i k y a x : Int32} (g : y.toInt = (mn i.toNatClampNeg).toInt) (e : k.toInt ≠ y.toInt) (gx : x.toInt = (wd a.toNatClampNeg).toInt) (ha : a.toInt = 5 * i.toInt + k.toInt) : x.toInt = zJw wd mn q i.toInt k.toInt := by
  have g2 : y.toInt = (mn i.toInt.toNat).toInt := g
  unfold zJw
  rw [if_neg (fun w => e (w.trans g2.symm)), gx, z_clN ha]
def zSn (mn : Nat → Int32) (jk : Int32) (i : Int) : Int := (mn i.toNat).toInt + (if i = jk.toInt then 1 else 0)
def zDeR (wd mn : Nat → Int32) (jk jw : Int32) (i j h : Int) : Prop := zEnds (fun k => zJw wd mn jw i (k : Int)) (zSn mn jk i) (zWf wd (5 * (j - 1).toNat)) (mn (j - 1).toNat).toInt h
theorem z_deJ {wd mn : Nat → Int32} {jk jw : Int32} {i j h : Int} (hj : jk.toInt = -9) (i0 : 0 ≤ i) : zDeR wd mn jk jw i j h ↔ zDe wd mn i j h := by
  have e : zSn mn jk i = (mn i.toNat).toInt := by
    unfold zSn
    rw [if_neg (by omega)]
    omega
  have w : ∀ k : Nat, (k : Int) < (mn i.toNat).toInt → zJw wd mn jw i (k : Int) = zWf wd (5 * i.toNat) k := fun k hk => by
    unfold zJw zWf
    rw [if_neg (by omega), show (5 * i + (k : Int)).toNat = 5 * i.toNat + k by omega]
  unfold zDeR zDe
  rw [e]
  exact ⟨z_enW w, z_enW (fun k hk => (w k hk).symm)⟩
/-- the reference's loop over the words -/
def zDeL (wd mn : Nat → Int32) (jk jw : Int32) (i j k : Int) : Prop := ∀ q : Nat, 1 ≤ q → (q : Int) < k → zJw wd mn jw i (zSn mn jk i - (q : Int)) = (wd (5 * (j - 1) + (mn (j - 1).toNat).toInt - (q : Int)).toNat).toInt
theorem z_deL1 {wd mn : Nat → Int32} {jk jw : Int32} {i j k : Int} (h : k = 1) : zDeL wd mn jk jw i j k := fun q q1 q2 => by omega
theorem z_deLS {wd mn : Nat → Int32} {jk jw : Int32} {i j k k2 u v : Int} {a : Int32} (h : zDeL wd mn jk jw i j k) (hk : k2 = k + 1) (k1 : 1 ≤ k) (hu : u = zJw wd mn jw i (zSn mn jk i - k)) (hv : v = (wd a.toNatClampNeg).toInt) (ha : a.toInt = 5 * (j - 1) + (mn (j - 1).toNat).toInt - k) (e : u = v) : zDeL wd mn jk jw i j k2 := fun q q1 q2 => by
  by_cases c : (q : Int) = k
  · rw [c, ← hu, e, hv, z_clN ha]
  · exact h q q1 (by omega)
def zYn (p : Prop) (r : Int) : Prop := (r = 1 ∧ p) ∨ (r = 0 ∧ ¬ p)
theorem z_deT {wd mn : Nat → Int32} {jk jw : Int32} {i j k h l r : Int} (q : zDeL wd mn jk jw i j k) (e1 : l ≤ h) (e2 : l ≤ (mn (j - 1).toNat).toInt) (e3 : l = h ∨ l = (mn (j - 1).toNat).toInt) (hk : l < k) (hn : l ≤ zSn mn jk i) (j1 : 1 ≤ j) (hr : r = 1) : zYn (zDeR wd mn jk jw i j h) r := by
  have e := z_mnE e1 e2 e3
  refine Or.inl ⟨hr, by rw [← e]; exact hn, fun q1 a b => ?_⟩
  rw [← e] at b
  have w := q q1 a (by omega)
  show zJw wd mn jw i (((zSn mn jk i).toNat - q1 : Nat) : Int) = (wd (5 * (j - 1).toNat + ((mn (j - 1).toNat).toInt.toNat - q1))).toInt
  rw [show (((zSn mn jk i).toNat - q1 : Nat) : Int) = zSn mn jk i - (q1 : Int) by omega, w, show (5 * (j - 1) + (mn (j - 1).toNat).toInt - (q1 : Int)).toNat = 5 * (j - 1).toNat + ((mn (j - 1).toNat).toInt.toNat - q1) by omega]
theorem z_deN {wd mn : Nat → Int32} {jk jw : Int32} {i j h l r : Int} (e1 : l ≤ h) (e2 : l ≤ (mn (j - 1).toNat).toInt) (e3 : l = h ∨ l = (mn (j - 1).toNat).toInt) (hn : zSn mn jk i < l) (hr : r = 0) : zYn (zDeR wd mn jk jw i j h) r := by
  have e := z_mnE e1 e2 e3
  refine Or.inr ⟨hr, fun q => ?_⟩
  have := q.1
  omega
theorem z_deF {wd mn : Nat → Int32} {jk jw : Int32} {i j k h l r u v : Int} {a : Int32} (e1 : l ≤ h) (e2 : l ≤ (mn (j - 1).toNat).toInt) (e3 : l = h ∨ l = (mn (j - 1).toNat).toInt) (hk : k ≤ l) (k1 : 1 ≤ k) (hn : l ≤ zSn mn jk i) (j1 : 1 ≤ j) (hu : u = zJw wd mn jw i (zSn mn jk i - k)) (hv : v = (wd a.toNatClampNeg).toInt) (ha : a.toInt = 5 * (j - 1) + (mn (j - 1).toNat).toInt - k) (ne : u ≠ v) (hr : r = 0) : zYn (zDeR wd mn jk jw i j h) r := by
  have e := z_mnE e1 e2 e3
  refine Or.inr ⟨hr, fun q => ?_⟩
  have w := q.2 k.toNat (by omega) (by omega)
  have w2 : zJw wd mn jw i (((zSn mn jk i).toNat - k.toNat : Nat) : Int) = (wd (5 * (j - 1).toNat + ((mn (j - 1).toNat).toInt.toNat - k.toNat))).toInt := w
  rw [show (((zSn mn jk i).toNat - k.toNat : Nat) : Int) = zSn mn jk i - k by omega, ← hu] at w2
  rw [z_clN ha, show (5 * (j - 1) + (mn (j - 1).toNat).toInt - k).toNat = 5 * (j - 1).toNat + ((mn (j - 1).toNat).toInt.toNat - k.toNat) by omega] at hv
  exact ne (w2.trans hv.symm)
/-- the reference: alone, by how much -/
theorem z_arS {wd mn : Nat → Int32} {jk jw : Int32} {j h k k2 : Int} (q : jk.toInt = -9 → zAl wd mn k j h) (hk : k2 = k + 1) (k0 : 0 ≤ k) (s : k = j - 1 ∨ ∃ r : Int, zYn (zDeR wd mn jk jw k j h) r ∧ r = 0) : jk.toInt = -9 → zAl wd mn k2 j h := by
  intro hj i hi hn
  by_cases c : (i : Int) = k
  · rcases s with s | ⟨r, e1, e2⟩
    · omega
    · rw [c]
      rcases e1 with ⟨a, -⟩ | ⟨-, a⟩
      · omega
      · exact fun w => a ((z_deJ hj k0).mpr w)
  · exact q hj i (by omega) hn
theorem z_arT {wd mn : Nat → Int32} {jk : Int32} {L j h k r : Int} (q : jk.toInt = -9 → zAl wd mn k j h) (hk : L ≤ k) (hr : r = 1) : jk.toInt = -9 → zYn (zAl wd mn L j h) r := fun hj => Or.inl ⟨hr, fun i hi => q hj i (by omega)⟩
theorem z_arF {wd mn : Nat → Int32} {jk jw : Int32} {L j h k r r2 : Int} (e1 : zYn (zDeR wd mn jk jw k j h) r2) (e2 : r2 ≠ 0) (k0 : 0 ≤ k) (hk : k < L) (hj : k ≠ j - 1) (hr : r = 0) : jk.toInt = -9 → zYn (zAl wd mn L j h) r := fun h9 => Or.inr ⟨hr, fun q => by
  rcases e1 with ⟨-, a⟩ | ⟨a, -⟩
  · have w := q k.toNat (by omega) (by omega)
    rw [Int.toNat_of_nonneg k0] at w
    exact w ((z_deJ h9 k0).mp a)
  · exact e2 a⟩
theorem z_moS {wd mn : Nat → Int32} {jk : Int32} {L j c k k2 r : Int} (q : jk.toInt = -9 → ∀ w : Int, 0 ≤ w → w < k → ¬ zAl wd mn L j (c + w)) (a : jk.toInt = -9 → zYn (zAl wd mn L j (c + k)) r) (hr : r = 0) (hk : k2 = k + 1) : jk.toInt = -9 → ∀ w : Int, 0 ≤ w → w < k2 → ¬ zAl wd mn L j (c + w) := fun hj w w0 w1 => by
  by_cases e : w = k
  · rw [e]
    rcases a hj with ⟨b, -⟩ | ⟨-, b⟩
    · omega
    · exact b
  · exact q hj w w0 (by omega)
theorem z_moT {wd mn cu : Nat → Int32} {jk : Int32} {L j c k r a m : Int} (q : jk.toInt = -9 → ∀ w : Int, 0 ≤ w → w < k → ¬ zAl wd mn L j (c + w)) (h : jk.toInt = -9 → zYn (zAl wd mn L j (c + k)) a) (ha : a ≠ 0) (hr : r = k) (j1 : 0 < j) (hc : c = (cu j.toNat).toInt) (hm : m = (mn (j - 1).toNat).toInt) (k0 : 0 ≤ k) (hk : k = 0 ∨ c + k ≤ m) : jk.toInt = -9 → r = zMw wd mn cu L j := fun hj => z_mwE j1 (by
  rw [← hc, ← hm, hr]
  rcases h hj with ⟨-, b⟩ | ⟨b, -⟩
  · exact Or.inl ⟨k0, hk, b, q hj⟩
  · exact absurd b ha)
theorem z_moN {wd mn cu : Nat → Int32} {jk : Int32} {L j c k r m : Int} (q : jk.toInt = -9 → ∀ w : Int, 0 ≤ w → w < k → ¬ zAl wd mn L j (c + w)) (hr : r = -9) (j1 : 0 < j) (hc : c = (cu j.toNat).toInt) (hm : m = (mn (j - 1).toNat).toInt) (k0 : k ≠ 0) (k1 : 0 ≤ k) (hk : m < c + k) : jk.toInt = -9 → r = zMw wd mn cu L j := fun hj => z_mwE j1 (by
  rw [← hc, ← hm]
  exact Or.inr ⟨hr, fun w w0 w1 => q hj w w0 (by omega)⟩)
/-- all lines' cues -/
noncomputable def zMs (wd mn cu : Nat → Int32) (L : Int) : Nat → Int
  | 0 => 0
  | k + 1 => zMs wd mn cu L k + zMw wd mn cu L (k : Int)
def zMsI (wd mn cu : Nat → Int32) (L k a : Int) : Prop := (∀ j : Nat, (j : Int) < k → zMw wd mn cu L (j : Int) ≠ -9) ∧ a = zMs wd mn cu L k.toNat
theorem z_mw0 {wd mn cu : Nat → Int32} {L : Int} : zMw wd mn cu L 0 = 0 := by
  unfold zMw
  rw [if_pos (Int.le_refl 0)]
theorem z_msI0 {wd mn cu : Nat → Int32} {L k a : Int} (hk : k = 0) (ha : a = 0) : zMsI wd mn cu L k a := by
  subst hk ha
  exact ⟨fun j hj => by omega, rfl⟩
theorem z_msIS {wd mn cu : Nat → Int32} {L k k2 a a2 v : Int} (h : zMsI wd mn cu L k a) (hk : k2 = k + 1) (k0 : 0 ≤ k) (hv : v = zMw wd mn cu L k) (hn : v ≠ -9) (ha : a2 = a + v) : zMsI wd mn cu L k2 a2 := by
  obtain ⟨h1, h2⟩ := h
  refine ⟨fun j hj => ?_, ?_⟩
  · by_cases c : (j : Int) = k
    · rw [c, ← hv]
      exact hn
    · exact h1 j (by omega)
  · rw [show k2.toNat = k.toNat + 1 by omega]
    show a2 = zMs wd mn cu L k.toNat + zMw wd mn cu L ((k.toNat : Nat) : Int)
    rw [Int.toNat_of_nonneg k0, ← hv, ← h2, ha]
theorem z_msI1 {wd mn cu : Nat → Int32} {L k a : Int} (hk : k = 1) (ha : a = 0) : zMsI wd mn cu L k a := z_msIS (z_msI0 (k := 0) (a := 0) rfl rfl) (by omega) (by decide) (v := 0) z_mw0.symm (by decide) (by omega)
def zMeP (wd mn cu : Nat → Int32) (L r : Int) : Prop := (L = 0 ∧ r = -3) ∨ (0 < L ∧ r = -9 ∧ ∃ j : Nat, (j : Int) < L ∧ zMw wd mn cu L (j : Int) = -9) ∨ (0 < L ∧ zMsI wd mn cu L L r)
theorem z_meU {wd mn cu : Nat → Int32} {L r s : Int} (h : zMeP wd mn cu L r) (h2 : zMeP wd mn cu L s) : r = s := by
  rcases h with ⟨a1, a2⟩ | ⟨a1, a2, j, a3, a4⟩ | ⟨a1, a2, a3⟩ <;> rcases h2 with ⟨b1, b2⟩ | ⟨b1, b2, i, b3, b4⟩ | ⟨b1, b2, b3⟩
  · omega
  · omega
  · omega
  · omega
  · omega
  · exact absurd a4 (b2 j a3)
  · omega
  · exact absurd b4 (a2 i b3)
  · omega
theorem z_meN {wd mn cu : Nat → Int32} {L r k v : Int} (hk : k < L) (k0 : 0 ≤ k) (hv : v = zMw wd mn cu L k) (e : v = -9) (hr : r = -9) : zMeP wd mn cu L r := Or.inr (Or.inl ⟨by omega, hr, k.toNat, by omega, by rw [Int.toNat_of_nonneg k0, ← hv]; exact e⟩)
theorem z_meT {wd mn cu : Nat → Int32} {L r k a : Int} (h : zMsI wd mn cu L k a) (h0 : 0 < L) (hk : k = L) (hr : r = a) : zMeP wd mn cu L r := by
  subst hk hr
  exact Or.inr (Or.inr ⟨h0, h⟩)

