def zRvI (n i : Int) (F : Nat → Int32) (a b : Int) (h : Nat → Int32) : Prop := (a + b = n + i ∧ a ≤ b + 1) ∧ ∀ q : Nat, h q = if (i < (q : Int) ∧ (q : Int) < a) ∨ (b < (q : Int) ∧ (q : Int) < n) then F (n + i - q).toNat else F q
theorem z_rv0 {n i a b : Int} {F : Nat → Int32} (ha : a = i + 1) (hb : b = n - 1) (hn : i < n) : zRvI n i F a b F := ⟨⟨by omega, by omega⟩, fun q => by rw [if_neg (by omega)]⟩
theorem z_rvS {n i : Int} {F h h2 : Nat → Int32} {a b a2 b2 : Int32} (w : zRvI n i F a.toInt b.toInt h) (hab : a.toInt < b.toInt) (hi : 0 ≤ i) (hia : i < a.toInt) (hbn : b.toInt < n) (e : h2 = zSw h a b) (ha : a2.toInt = a.toInt + 1) (hb : b2.toInt = b.toInt - 1) : zRvI n i F a2.toInt b2.toInt h2 := by
  obtain ⟨⟨w1, w0⟩, w2⟩ := w
  have ca := z_cl (show 0 ≤ a.toInt by omega)
  have cb := z_cl (show 0 ≤ b.toInt by omega)
  refine ⟨⟨by omega, by omega⟩, fun q => ?_⟩
  rw [e, z_swap]
  by_cases c1 : q = b.toNatClampNeg
  · rw [if_pos c1, w2, if_neg (by omega), if_pos (by omega), show (n + i - (q : Int)).toNat = a.toNatClampNeg by omega]
  · rw [if_neg c1]
    by_cases c2 : q = a.toNatClampNeg
    · rw [if_pos c2, w2, if_neg (by omega), if_pos (by omega), show (n + i - (q : Int)).toNat = b.toNatClampNeg by omega]
    · rw [if_neg c2, w2]
      by_cases c3 : (i < (q : Int) ∧ (q : Int) < a.toInt) ∨ (b.toInt < (q : Int) ∧ (q : Int) < n)
      · rw [if_pos c3, if_pos (by omega)]
      · rw [if_neg c3, if_neg (by omega)]
theorem z_nxC1 {L : Int} {f F h : Nat → Int32} {i j a b : Int32} {N M : Nat} (hN : N = i.toInt.toNat) (eN : zLiq (zOg f) (L.toNat - 2) = N) (hM : M = j.toInt.toNat) (eM : zLj (zOg f) (zOg f i.toInt.toNat) (L.toNat - 1) = M) (i1 : 1 ≤ i.toInt) (hij : i.toInt < j.toInt) (hj : j.toInt < L) (eF : F = zSw f i j) (w : zRvI L i.toInt F a.toInt b.toInt h) (hab : b.toInt ≤ a.toInt) {r : Int} (hr : r = 1) : zNxC L.toNat f r h := by
  obtain ⟨⟨w1, w0⟩, w2⟩ := w
  have ci := z_cl (show 0 ≤ i.toInt by omega)
  have cj := z_cl (show 0 ≤ j.toInt by omega)
  refine Or.inr ⟨hr, by rw [eN, hN]; omega, fun q hq => ?_⟩
  rw [eN, hN, eM, hM]
  unfold zNq
  have key : ∀ s : Nat, F s = f (if s = j.toNatClampNeg then i.toNatClampNeg else if s = i.toNatClampNeg then j.toNatClampNeg else s) := fun s => by rw [eF, z_swap]
  by_cases c1 : q < i.toInt.toNat
  · rw [if_pos c1]
    unfold zOg
    rw [w2, if_neg (by omega), key, if_neg (by omega), if_neg (by omega)]
  · rw [if_neg c1]
    by_cases c2 : q = i.toInt.toNat
    · rw [if_pos c2]
      unfold zOg
      rw [w2, if_neg (by omega), key, if_neg (by omega), if_pos (by omega)]
      rfl
    · rw [if_neg c2]
      have hs : F (L + i.toInt - (q : Int)).toNat = h q := by
        rw [w2]
        by_cases c3 : (i.toInt < (q : Int) ∧ (q : Int) < a.toInt) ∨ (b.toInt < (q : Int) ∧ (q : Int) < L)
        · rw [if_pos c3]
        · rw [if_neg c3, show (L + i.toInt - (q : Int)).toNat = q by omega]
      unfold zOg
      rw [← hs, key, show (L + i.toInt - (q : Int)).toNat = L.toNat + i.toInt.toNat - q by omega]
      by_cases c4 : L.toNat + i.toInt.toNat - q = j.toInt.toNat
      · rw [if_pos (show L.toNat + i.toInt.toNat - q = j.toNatClampNeg from c4), if_pos c4]
        rfl
      · rw [if_neg (show ¬ L.toNat + i.toInt.toNat - q = j.toNatClampNeg from c4), if_neg c4, if_neg (by omega)]
theorem z_fb0 {n : Nat} {ft : List Nat → Bool} {f : Nat → Int32} {l : Int32} {asked : Int} (h : zIni l f) (hl : (n : Int) ≤ l.toInt) : zFbI n ft f 0 1 asked := fun n1 n7 => by
  refine ⟨fun h => h, ⟨by decide, by decide⟩, Or.inl ⟨by decide, 0, _, z_chn0 n1 n7, fun q hq => ?_, rfl⟩⟩
  rw [List.getD_eq_getElem?_getD, List.getElem?_range hq]
  show (f q).toInt.toNat = q
  rw [h q (by omega)]
  omega

