set_option maxHeartbeats 4000000 in
set_option maxRecDepth 100000 in
theorem wX11_refuse_F (l : Launch) (dC : Nat → ClassId) (dI : Nat → Nat → Nat) (cI cQ : ClassId) (ha0 ha0_8 ha0_0 ha0_1 ha0_3 ha0_3_0 ha0_5 ha0_6 : Nat) (fa0_8 : Nat → Int32) (ia0_2 : Int32) (hia0_2l : 0 ≤ ia0_2.toInt) (hia0_2h : ia0_2.toInt ≤ 1) (ia0_7 : Int32) (hia0_7l : 0 ≤ ia0_7.toInt) (hia0_7h : ia0_7.toInt ≤ 12) (p1 : Int32) (sz : Nat) : Met l yX11_refuse vsX11_refuse ({ frames := 0, cells := 0, slots := 0, locals := 0 }) (va_Pc [.ref ha0, .int p1] (zB dC dI cI cQ [(ha0_8, .inl (cI, 7, .inl fa0_8)), (ha0, .inr (11, [.ref ha0_0, .ref ha0_1, .int ia0_2, .ref ha0_3, .ref ha0_3_0, .ref ha0_5, .ref ha0_6, .int ia0_7, .ref ha0_8]))] sz)) (zWi dC dI (va_A [(ha0_8, .inl (cI, 7, .inl fa0_8)), (ha0, .inr (11, [.ref ha0_0, .ref ha0_1, .int ia0_2, .ref ha0_3, .ref ha0_3_0, .ref ha0_5, .ref ha0_6, .int ia0_7, .ref ha0_8]))] sz) (fun u => [(ha0_8, .inl (cI, 7, .inl (u.2 0))), (ha0, .inr (11, [.ref ha0_0, .ref ha0_1, .int ia0_2, .ref ha0_3, .ref ha0_3_0, .ref ha0_5, .ref ha0_6, .int ia0_7, .ref ha0_8]))]) (fun r u => ((-2147483648) ≤ r.toInt ∧ r.toInt ≤ 2147483647) ∧ (r.toInt = p1.toInt))) 0 0 (va_A [(ha0_8, .inl (cI, 7, .inl fa0_8)), (ha0, .inr (11, [.ref ha0_0, .ref ha0_1, .int ia0_2, .ref ha0_3, .ref ha0_3_0, .ref ha0_5, .ref ha0_6, .int ia0_7, .ref ha0_8]))] sz) := by
  refine Met.ofW (cc := cX11_refuse) (maxL := 3) (ret := (some .int)) (by decide) rfl ?_
  intro p e s m args below meth c s₁ B hml hv
  obtain ⟨rfl, hsz, hP, hZ, hD0⟩ := hv
  obtain ⟨hK, hAO, hN⟩ := id hZ
  have hx := B.exec
  have hb := B.bytes
  have hr := B.returns
  have hts := atoms_spec (ws := vsX11_refuse) B.pre
  have hown : s.vm.findClass RX11 = some m.cls := findClass_of_methodNamed B.named
  have hlocks := B.notSynchronized
  have hlt0 : ((-9) : Int32).toInt = (-9) := by decide
  have hlt1 : ((-6) : Int32).toInt = (-6) := by decide
  have hlt2 : ((-4) : Int32).toInt = (-4) := by decide
  have hlt3 : ((-3) : Int32).toInt = (-3) := by decide
  have hlt4 : ((-2) : Int32).toInt = (-2) := by decide
  have hlt5 : ((-1) : Int32).toInt = (-1) := by decide
  have hlt6 : (0 : Int32).toInt = 0 := by decide
  have hlt7 : (1 : Int32).toInt = 1 := by decide
  subst hsz
  have hD := hD0.self (sz := s.heap.size)
  generalize hAe : va_A [(ha0_8, .inl (cI, 7, .inl fa0_8)), (ha0, .inr (11, [.ref ha0_0, .ref ha0_1, .int ia0_2, .ref ha0_3, .ref ha0_3_0, .ref ha0_5, .ref ha0_6, .int ia0_7, .ref ha0_8]))] s.heap.size = A at hD ⊢
  have hA : ∀ q : Nat, s.heap.size ≤ q → A q := fun q h => by rw [← hAe]; exact Or.inr h
  have hS : va_S A s.heap s.heap [] := va_S.rf
  have hP : va_P (dC, dI) vwCl [(ha0_8, .inl (cI, 7, .inl fa0_8)), (ha0, .inr (11, [.ref ha0_0, .ref ha0_1, .int ia0_2, .ref ha0_3, .ref ha0_3_0, .ref ha0_5, .ref ha0_6, .int ia0_7, .ref ha0_8]))] s.heap := hP
  have hp1l := z_lo p1
  have hp1h := z_hi p1
  have hl := lv_entry ([.ref ha0, .int p1]) (n := 3) (Nat.le_of_ble_eq_true rfl)
  rw [lg_entry_eq]
  generalize (lg_sl ([.ref ha0, .int p1]) ++ List.replicate (3 - (lg_sl ([.ref ha0, .int p1])).length) Slot.unset).toArray = ls at hl ⊢
  have hl : lv_has ls 3 [(0, .ref ha0), (1, .int p1)] := hl
  refine lv_iload_n hx hb dX11_refuse_0 rfl (lv_at hl 1 rfl) ?_
  refine lv_ineg hx hb dX11_refuse_1 ?_
  refine lv_topi (fun y1 ey1 => ?_)
  refine lv_istore_n (lv' := [(2, .int y1), (0, .ref ha0), (1, .int p1)]) hx hb dX11_refuse_2 rfl hl (by decide) rfl (fun ls hl => ?_)
  refine lv_iload_n hx hb dX11_refuse_3 rfl (lv_at hl 0 rfl) ?_
  refine lv_iconst (v := 1) hx hb dX11_refuse_4 (by decide) ?_
  refine lv_icmp_lt (tgt := 24) hx hb dX11_refuse_5 (by decide) (fun hc => ?_) (fun hc => ?_)
  · have q2 : y1.toInt < 1 := z_lt rfl (by decide) hc
    refine lv_iload_n hx hb dX11_refuse_24 rfl (lv_at hl 2 rfl) ?_
    have hP9 := hP.sub (ws' := [(ha0_8, .inl (cI, 7, .inl fa0_8)), (ha0, .inr (11, [.ref ha0_0, .ref ha0_1, .int ia0_2, .ref ha0_3, .ref ha0_3_0, .ref ha0_5, .ref ha0_6, .int ia0_7, .ref ha0_8]))]) [0, 1] rfl
    have hD9 := hD.sub (ws' := [(ha0_8, .inl (cI, 7, .inl fa0_8)), (ha0, .inr (11, [.ref ha0_0, .ref ha0_1, .int ia0_2, .ref ha0_3, .ref ha0_3_0, .ref ha0_5, .ref ha0_6, .int ia0_7, .ref ha0_8]))]) [0, 1] (by decide) rfl
    have hpo : ((p1 : Int32).toInt = p1.toInt) := by first | omega | decide | (simp; omega)
    exact W.iret (v := p1) hx hb hr (fun t ht hW => ⟨⟨p1, (fun k => [].getD k 0, fun k => [fa0_8].getD k (fun _ => 0)), rfl, (show ((-2147483648) ≤ (p1 : Int32).toInt ∧ (p1 : Int32).toInt ≤ 2147483647) ∧ (((p1 : Int32).toInt = p1.toInt)) from ⟨⟨by first | omega | decide | exact z_lo _, by first | omega | decide | exact z_hi _⟩, hpo⟩), by rw [ht]; exact hP9, hD9⟩, hS.F ht⟩) hS.2.2 dX11_refuse_25
  · have q3 : 1 ≤ y1.toInt := z_nlt rfl (by decide) hc
    refine lv_iload_n hx hb dX11_refuse_8 rfl (lv_at hl 0 rfl) ?_
    refine lv_bipush (v := 6) hx hb dX11_refuse_9 (by decide) ?_
    refine lv_icmp_gt (tgt := 24) hx hb dX11_refuse_11 (by decide) (fun hc => ?_) (fun hc => ?_)
    · have q4 : 6 < y1.toInt := z_lt (by decide) rfl hc
      refine lv_iload_n hx hb dX11_refuse_24 rfl (lv_at hl 2 rfl) ?_
      have hP9 := hP.sub (ws' := [(ha0_8, .inl (cI, 7, .inl fa0_8)), (ha0, .inr (11, [.ref ha0_0, .ref ha0_1, .int ia0_2, .ref ha0_3, .ref ha0_3_0, .ref ha0_5, .ref ha0_6, .int ia0_7, .ref ha0_8]))]) [0, 1] rfl
      have hD9 := hD.sub (ws' := [(ha0_8, .inl (cI, 7, .inl fa0_8)), (ha0, .inr (11, [.ref ha0_0, .ref ha0_1, .int ia0_2, .ref ha0_3, .ref ha0_3_0, .ref ha0_5, .ref ha0_6, .int ia0_7, .ref ha0_8]))]) [0, 1] (by decide) rfl
      have hpo : ((p1 : Int32).toInt = p1.toInt) := by first | omega | decide | (simp; omega)
      exact W.iret (v := p1) hx hb hr (fun t ht hW => ⟨⟨p1, (fun k => [].getD k 0, fun k => [fa0_8].getD k (fun _ => 0)), rfl, (show ((-2147483648) ≤ (p1 : Int32).toInt ∧ (p1 : Int32).toInt ≤ 2147483647) ∧ (((p1 : Int32).toInt = p1.toInt)) from ⟨⟨by first | omega | decide | exact z_lo _, by first | omega | decide | exact z_hi _⟩, hpo⟩), by rw [ht]; exact hP9, hD9⟩, hS.F ht⟩) hS.2.2 dX11_refuse_25
    · have q5 : y1.toInt ≤ 6 := z_nlt (by decide) rfl hc
      refine lv_aload_n hx hb dX11_refuse_14 rfl (lv_at hl 1 rfl) ?_
      refine va_get (D := (dC, dI)) (ci := 11) (v := .ref ha0_8) (C := RX11) (T := TX11) (N := 9) hx hb hts in_X11_refuse_X11 hown hK hP 1 rfl rfl 8 (by decide) (hts (.fieldLink RX11 50 "EachOnHisCue" "refusals" "[I") (by decide +kernel)) (fun _ h9 => h9) rfl dX11_refuse_15 ?_
      refine lv_iload_n hx hb dX11_refuse_18 rfl (lv_at hl 0 rfl) ?_
      refine lv_dup2_11 hx hb dX11_refuse_19 rfl rfl ?_
      refine va_iald hx hb hK hP 0 0 rfl rfl (z_in (by omega) (by omega)) dX11_refuse_20 ?_
      refine lv_topi (fun y6 ey6 => ?_)
      have gy6 : y6.toInt = (fa0_8 (y1 : Int32).toNatClampNeg).toInt := by rw [ey6]
      refine lv_iconst (v := 1) hx hb dX11_refuse_21 (by decide) ?_
      refine lv_iadd hx hb dX11_refuse_22 ?_
      refine lv_topi (fun y7 ey7 => ?_)
      refine va_iast hx hb hK hP hD hS 0 0 rfl rfl (z_in (by omega) (by omega)) dX11_refuse_23 (fun H locs hP hD hS => ?_)
      generalize ef8 : upd fa0_8 (y1 : Int32).toNatClampNeg y7 = f8 at hP hD
      have hP : va_P (dC, dI) vwCl [(ha0_8, .inl (cI, 7, .inl f8)), (ha0, .inr (11, [.ref ha0_0, .ref ha0_1, .int ia0_2, .ref ha0_3, .ref ha0_3_0, .ref ha0_5, .ref ha0_6, .int ia0_7, .ref ha0_8]))] H := hP
      have hD : va_D A [(ha0_8, .inl (cI, 7, .inl f8)), (ha0, .inr (11, [.ref ha0_0, .ref ha0_1, .int ia0_2, .ref ha0_3, .ref ha0_3_0, .ref ha0_5, .ref ha0_6, .int ia0_7, .ref ha0_8]))] := hD
      refine lv_iload_n hx hb dX11_refuse_24 rfl (lv_at hl 2 rfl) ?_
      have hP9 := hP.sub (ws' := [(ha0_8, .inl (cI, 7, .inl f8)), (ha0, .inr (11, [.ref ha0_0, .ref ha0_1, .int ia0_2, .ref ha0_3, .ref ha0_3_0, .ref ha0_5, .ref ha0_6, .int ia0_7, .ref ha0_8]))]) [0, 1] rfl
      have hD9 := hD.sub (ws' := [(ha0_8, .inl (cI, 7, .inl f8)), (ha0, .inr (11, [.ref ha0_0, .ref ha0_1, .int ia0_2, .ref ha0_3, .ref ha0_3_0, .ref ha0_5, .ref ha0_6, .int ia0_7, .ref ha0_8]))]) [0, 1] (by decide) rfl
      have hpo : ((p1 : Int32).toInt = p1.toInt) := by first | omega | decide | (simp; omega)
      exact W.iret (v := p1) hx hb hr (fun t ht hW => ⟨⟨p1, (fun k => [].getD k 0, fun k => [f8].getD k (fun _ => 0)), rfl, (show ((-2147483648) ≤ (p1 : Int32).toInt ∧ (p1 : Int32).toInt ≤ 2147483647) ∧ (((p1 : Int32).toInt = p1.toInt)) from ⟨⟨by first | omega | decide | exact z_lo _, by first | omega | decide | exact z_hi _⟩, hpo⟩), by rw [ht]; exact hP9, hD9⟩, hS.F ht⟩) hS.2.2 dX11_refuse_25
set_option maxHeartbeats 4000000 in
set_option maxRecDepth 100000 in
theorem wX4_add_F (l : Launch) (dC : Nat → ClassId) (dI : Nat → Nat → Nat) (cI cQ : ClassId) (ha0 ha0_0 : Nat) (fa0_0 : Nat → Int32) (hBfa0_0 : ∀ k, 0 ≤ (fa0_0 k).toInt ∧ (fa0_0 k).toInt ≤ 255) (ia0_1 : Int32) (hia0_1l : 0 ≤ ia0_1.toInt) (hia0_1h : ia0_1.toInt ≤ 80) (p1 : Int32) (hp1l : 0 ≤ p1.toInt) (hp1h : p1.toInt ≤ 255) (sz : Nat) : Met l yX4_add vsX4_add ({ frames := 0, cells := 0, slots := 0, locals := 0 }) (va_Pc [.ref ha0, .int p1] (zB dC dI cI cQ [(ha0_0, .inl (cI, 80, .inl fa0_0)), (ha0, .inr (4, [.ref ha0_0, .int ia0_1]))] sz)) (zWv dC dI (va_A [(ha0_0, .inl (cI, 80, .inl fa0_0)), (ha0, .inr (4, [.ref ha0_0, .int ia0_1]))] sz) (fun u => [(ha0_0, .inl (cI, 80, .inl (u.2 0))), (ha0, .inr (4, [.ref ha0_0, .int (u.1 0)]))]) (fun u => (∀ k, 0 ≤ ((u.2 0) k).toInt ∧ ((u.2 0) k).toInt ≤ 255) ∧ (1 ≤ (u.1 0).toInt ∧ (u.1 0).toInt ≤ 80) ∧ (ia0_1.toInt < 80 → (u.1 0).toInt = ia0_1.toInt + 1))) 0 0 (va_A [(ha0_0, .inl (cI, 80, .inl fa0_0)), (ha0, .inr (4, [.ref ha0_0, .int ia0_1]))] sz) := by
  refine Met.ofW (cc := cX4_add) (maxL := 2) (ret := none) (by decide) rfl ?_
  intro p e s m args below meth c s₁ B hml hv
  obtain ⟨rfl, hsz, hP, hZ, hD0⟩ := hv
  obtain ⟨hK, hAO, hN⟩ := id hZ
  have hx := B.exec
  have hb := B.bytes
  have hr := B.returns
  have hts := atoms_spec (ws := vsX4_add) B.pre
  have hown : s.vm.findClass RX4 = some m.cls := findClass_of_methodNamed B.named
  have hlocks := B.notSynchronized
  subst hsz
  have hD := hD0.self (sz := s.heap.size)
  generalize hAe : va_A [(ha0_0, .inl (cI, 80, .inl fa0_0)), (ha0, .inr (4, [.ref ha0_0, .int ia0_1]))] s.heap.size = A at hD ⊢
  have hA : ∀ q : Nat, s.heap.size ≤ q → A q := fun q h => by rw [← hAe]; exact Or.inr h
  have hS : va_S A s.heap s.heap [] := va_S.rf
  have hP : va_P (dC, dI) vwCl [(ha0_0, .inl (cI, 80, .inl fa0_0)), (ha0, .inr (4, [.ref ha0_0, .int ia0_1]))] s.heap := hP
  have hl := lv_entry ([.ref ha0, .int p1]) (n := 2) (Nat.le_of_ble_eq_true rfl)
  rw [lg_entry_eq]
  generalize (lg_sl ([.ref ha0, .int p1]) ++ List.replicate (2 - (lg_sl ([.ref ha0, .int p1])).length) Slot.unset).toArray = ls at hl ⊢
  have hl : lv_has ls 2 [(0, .ref ha0), (1, .int p1)] := hl
  refine lv_aload_n hx hb dX4_add_0 rfl (lv_at hl 0 rfl) ?_
  refine va_get (D := (dC, dI)) (ci := 4) (v := .int ia0_1) (C := RX4) (T := TX4) (N := 2) hx hb hts in_X4_add_X4 hown hK hP 1 rfl rfl 1 (by decide) (hts (.fieldLink RX4 15 "EachOnHisCue$Letters" "size" "I") (by decide +kernel)) (fun _ h9 => h9) rfl dX4_add_1 ?_
  refine lv_bipush (v := 80) hx hb dX4_add_4 (by decide) ?_
  refine lv_icmp_ge (tgt := 29) hx hb dX4_add_6 (by decide) (fun hc => ?_) (fun hc => ?_)
  · have q1 : 80 ≤ ia0_1.toInt := z_le (by decide) rfl hc
    have hP9 := hP.sub (ws' := [(ha0_0, .inl (cI, 80, .inl fa0_0)), (ha0, .inr (4, [.ref ha0_0, .int ia0_1]))]) [0, 1] rfl
    have hD9 := hD.sub (ws' := [(ha0_0, .inl (cI, 80, .inl fa0_0)), (ha0, .inr (4, [.ref ha0_0, .int ia0_1]))]) [0, 1] (by decide) rfl
    have hpo : (ia0_1.toInt < 80 → (ia0_1 : Int32).toInt = ia0_1.toInt + 1) := by first | omega | decide | (simp; omega)
    exact W.vret hx hb hr (fun t ht hW => ⟨⟨(fun k => [ia0_1].getD k 0, fun k => [fa0_0].getD k (fun _ => 0)), rfl, (show (∀ k, 0 ≤ (fa0_0 k).toInt ∧ (fa0_0 k).toInt ≤ 255) ∧ (1 ≤ (ia0_1 : Int32).toInt ∧ (ia0_1 : Int32).toInt ≤ 80) ∧ ((ia0_1.toInt < 80 → (ia0_1 : Int32).toInt = ia0_1.toInt + 1)) from ⟨hBfa0_0, ⟨by first | omega | decide | exact z_lo _, by first | omega | decide | exact z_hi _⟩, hpo⟩), by rw [ht]; exact hP9, hD9⟩, hS.F ht⟩) hS.2.2 dX4_add_29
  · have q2 : ia0_1.toInt < 80 := z_nle (by decide) rfl hc
    refine lv_aload_n hx hb dX4_add_9 rfl (lv_at hl 0 rfl) ?_
    refine va_get (D := (dC, dI)) (ci := 4) (v := .ref ha0_0) (C := RX4) (T := TX4) (N := 2) hx hb hts in_X4_add_X4 hown hK hP 1 rfl rfl 0 (by decide) (hts (.fieldLink RX4 9 "EachOnHisCue$Letters" "row" "[I") (by decide +kernel)) (fun _ h9 => h9) rfl dX4_add_10 ?_
    refine lv_aload_n hx hb dX4_add_13 rfl (lv_at hl 0 rfl) ?_
    refine va_get (D := (dC, dI)) (ci := 4) (v := .int ia0_1) (C := RX4) (T := TX4) (N := 2) hx hb hts in_X4_add_X4 hown hK hP 1 rfl rfl 1 (by decide) (hts (.fieldLink RX4 15 "EachOnHisCue$Letters" "size" "I") (by decide +kernel)) (fun _ h9 => h9) rfl dX4_add_14 ?_
    refine lv_iload_n hx hb dX4_add_17 rfl (lv_at hl 1 rfl) ?_
    refine va_iast hx hb hK hP hD hS 0 0 rfl rfl (z_in (by omega) (by omega)) dX4_add_18 (fun H locs hP hD hS => ?_)
    generalize ef3 : upd fa0_0 (ia0_1 : Int32).toNatClampNeg p1 = f3 at hP hD
    have hBf3 : ∀ k, 0 ≤ (f3 k).toInt ∧ (f3 k).toInt ≤ 255 := by rw [← ef3]; exact z_updB hBfa0_0 (by first | omega | decide) (by first | omega | decide)
    have hP : va_P (dC, dI) vwCl [(ha0_0, .inl (cI, 80, .inl f3)), (ha0, .inr (4, [.ref ha0_0, .int ia0_1]))] H := hP
    have hD : va_D A [(ha0_0, .inl (cI, 80, .inl f3)), (ha0, .inr (4, [.ref ha0_0, .int ia0_1]))] := hD
    refine lv_aload_n hx hb dX4_add_19 rfl (lv_at hl 0 rfl) ?_
    refine lv_dup hx hb dX4_add_20 rfl ?_
    refine va_get (D := (dC, dI)) (ci := 4) (v := .int ia0_1) (C := RX4) (T := TX4) (N := 2) hx hb hts in_X4_add_X4 hown hK hP 1 rfl rfl 1 (by decide) (hts (.fieldLink RX4 15 "EachOnHisCue$Letters" "size" "I") (by decide +kernel)) (fun _ h9 => h9) rfl dX4_add_21 ?_
    refine lv_iconst (v := 1) hx hb dX4_add_24 (by decide) ?_
    refine lv_iadd hx hb dX4_add_25 ?_
    refine lv_topi (fun y4 ey4 => ?_)
    have hy4 : y4.toInt = ia0_1.toInt + 1 := by rw [ey4]; exact z_add rfl (by decide) (by omega) (by omega)
    refine va_put (D := (dC, dI)) (ci := 4) (v := .int y4) (ty := .int) (C := RX4) (T := TX4) (N := 2) hx hb hts in_X4_add_X4 tyX4 tyX4_ok nmX4 hown hK hP hD hS 1 rfl rfl 1 (by decide) (hts (.fieldLink RX4 15 "EachOnHisCue$Letters" "size" "I") (by decide +kernel)) (fun _ h9 => h9) rfl (by decide +kernel) rfl rfl (Nat.le_of_ble_eq_true rfl) dX4_add_26 (fun H locs hP hD hS => ?_)
    have hP : va_P (dC, dI) vwCl [(ha0_0, .inl (cI, 80, .inl f3)), (ha0, .inr (4, [.ref ha0_0, .int y4]))] H := hP
    have hD : va_D A [(ha0_0, .inl (cI, 80, .inl f3)), (ha0, .inr (4, [.ref ha0_0, .int y4]))] := hD
    have hP9 := hP.sub (ws' := [(ha0_0, .inl (cI, 80, .inl f3)), (ha0, .inr (4, [.ref ha0_0, .int y4]))]) [0, 1] rfl
    have hD9 := hD.sub (ws' := [(ha0_0, .inl (cI, 80, .inl f3)), (ha0, .inr (4, [.ref ha0_0, .int y4]))]) [0, 1] (by decide) rfl
    have hpo : (ia0_1.toInt < 80 → (y4 : Int32).toInt = ia0_1.toInt + 1) := by first | omega | decide | (simp; omega)
    exact W.vret hx hb hr (fun t ht hW => ⟨⟨(fun k => [y4].getD k 0, fun k => [f3].getD k (fun _ => 0)), rfl, (show (∀ k, 0 ≤ (f3 k).toInt ∧ (f3 k).toInt ≤ 255) ∧ (1 ≤ (y4 : Int32).toInt ∧ (y4 : Int32).toInt ≤ 80) ∧ ((ia0_1.toInt < 80 → (y4 : Int32).toInt = ia0_1.toInt + 1)) from ⟨hBf3, ⟨by first | omega | decide | exact z_lo _, by first | omega | decide | exact z_hi _⟩, hpo⟩), by rw [ht]; exact hP9, hD9⟩, hS.F ht⟩) hS.2.2 dX4_add_29
set_option maxHeartbeats 4000000 in
set_option maxRecDepth 100000 in
theorem wX11_feed_F (l : Launch) (dC : Nat → ClassId) (dI : Nat → Nat → Nat) (cI cQ : ClassId) (ha0 ha0_5_0 ha0_5 ha0_8 ha0_0 ha0_1 ha0_3 ha0_3_0 ha0_6 : Nat) (fa0_5_0 : Nat → Int32) (hBfa0_5_0 : ∀ k, 0 ≤ (fa0_5_0 k).toInt ∧ (fa0_5_0 k).toInt ≤ 255) (ia0_5_1 : Int32) (hia0_5_1l : 0 ≤ ia0_5_1.toInt) (hia0_5_1h : ia0_5_1.toInt ≤ 80) (fa0_8 : Nat → Int32) (ia0_2 : Int32) (hia0_2l : 0 ≤ ia0_2.toInt) (hia0_2h : ia0_2.toInt ≤ 1) (ia0_7 : Int32) (hia0_7l : 0 ≤ ia0_7.toInt) (hia0_7h : ia0_7.toInt ≤ 12) (p1 : Int32) (sz : Nat) : Met l yX11_feed vsX11_feed ({ frames := 1, cells := 0, slots := 0, locals := 22 }) (va_Pc [.ref ha0, .int p1] (zB dC dI cI cQ [(ha0_5_0, .inl (cI, 80, .inl fa0_5_0)), (ha0_5, .inr (4, [.ref ha0_5_0, .int ia0_5_1])), (ha0_8, .inl (cI, 7, .inl fa0_8)), (ha0, .inr (11, [.ref ha0_0, .ref ha0_1, .int ia0_2, .ref ha0_3, .ref ha0_3_0, .ref ha0_5, .ref ha0_6, .int ia0_7, .ref ha0_8]))] sz)) (zWi dC dI (va_A [(ha0_5_0, .inl (cI, 80, .inl fa0_5_0)), (ha0_5, .inr (4, [.ref ha0_5_0, .int ia0_5_1])), (ha0_8, .inl (cI, 7, .inl fa0_8)), (ha0, .inr (11, [.ref ha0_0, .ref ha0_1, .int ia0_2, .ref ha0_3, .ref ha0_3_0, .ref ha0_5, .ref ha0_6, .int ia0_7, .ref ha0_8]))] sz) (fun u => [(ha0_5_0, .inl (cI, 80, .inl (u.2 0))), (ha0_5, .inr (4, [.ref ha0_5_0, .int (u.1 0)])), (ha0_8, .inl (cI, 7, .inl (u.2 1))), (ha0, .inr (11, [.ref ha0_0, .ref ha0_1, .int ia0_2, .ref ha0_3, .ref ha0_3_0, .ref ha0_5, .ref ha0_6, .int ia0_7, .ref ha0_8]))]) (fun r u => (∀ k, 0 ≤ ((u.2 0) k).toInt ∧ ((u.2 0) k).toInt ≤ 255) ∧ (0 ≤ (u.1 0).toInt ∧ (u.1 0).toInt ≤ 80) ∧ ((-2147483648) ≤ r.toInt ∧ r.toInt ≤ 2147483647) ∧ ((p1.toInt < 0 ∧ r.toInt = -4 ∧ (u.1 0).toInt = ia0_5_1.toInt) ∨ (0 ≤ p1.toInt ∧ (255 < p1.toInt ∨ ia0_5_1.toInt = 80) ∧ r.toInt = -6 ∧ (u.1 0).toInt = ia0_5_1.toInt) ∨ (0 ≤ p1.toInt ∧ p1.toInt ≤ 255 ∧ ia0_5_1.toInt < 80 ∧ r.toInt = ia0_5_1.toInt + 1 ∧ (u.1 0).toInt = ia0_5_1.toInt + 1)))) 0 0 (va_A [(ha0_5_0, .inl (cI, 80, .inl fa0_5_0)), (ha0_5, .inr (4, [.ref ha0_5_0, .int ia0_5_1])), (ha0_8, .inl (cI, 7, .inl fa0_8)), (ha0, .inr (11, [.ref ha0_0, .ref ha0_1, .int ia0_2, .ref ha0_3, .ref ha0_3_0, .ref ha0_5, .ref ha0_6, .int ia0_7, .ref ha0_8]))] sz) := by
  refine Met.ofW (cc := cX11_feed) (maxL := 2) (ret := (some .int)) (by decide) rfl ?_
  intro p e s m args below meth c s₁ B hml hv
  obtain ⟨rfl, hsz, hP, hZ, hD0⟩ := hv
  obtain ⟨hK, hAO, hN⟩ := id hZ
  have hx := B.exec
  have hb := B.bytes
  have hr := B.returns
  have hts := atoms_spec (ws := vsX11_feed) B.pre
  have hown : s.vm.findClass RX11 = some m.cls := findClass_of_methodNamed B.named
  have hlocks := B.notSynchronized
  have hlt0 : ((-9) : Int32).toInt = (-9) := by decide
  have hlt1 : ((-6) : Int32).toInt = (-6) := by decide
  have hlt2 : ((-4) : Int32).toInt = (-4) := by decide
  have hlt3 : ((-3) : Int32).toInt = (-3) := by decide
  have hlt4 : ((-2) : Int32).toInt = (-2) := by decide
  have hlt5 : ((-1) : Int32).toInt = (-1) := by decide
  have hlt6 : (0 : Int32).toInt = 0 := by decide
  have hlt7 : (1 : Int32).toInt = 1 := by decide
  subst hsz
  have hD := hD0.self (sz := s.heap.size)
  generalize hAe : va_A [(ha0_5_0, .inl (cI, 80, .inl fa0_5_0)), (ha0_5, .inr (4, [.ref ha0_5_0, .int ia0_5_1])), (ha0_8, .inl (cI, 7, .inl fa0_8)), (ha0, .inr (11, [.ref ha0_0, .ref ha0_1, .int ia0_2, .ref ha0_3, .ref ha0_3_0, .ref ha0_5, .ref ha0_6, .int ia0_7, .ref ha0_8]))] s.heap.size = A at hD ⊢
  have hA : ∀ q : Nat, s.heap.size ≤ q → A q := fun q h => by rw [← hAe]; exact Or.inr h
  have hS : va_S A s.heap s.heap [] := va_S.rf
  have hP : va_P (dC, dI) vwCl [(ha0_5_0, .inl (cI, 80, .inl fa0_5_0)), (ha0_5, .inr (4, [.ref ha0_5_0, .int ia0_5_1])), (ha0_8, .inl (cI, 7, .inl fa0_8)), (ha0, .inr (11, [.ref ha0_0, .ref ha0_1, .int ia0_2, .ref ha0_3, .ref ha0_3_0, .ref ha0_5, .ref ha0_6, .int ia0_7, .ref ha0_8]))] s.heap := hP
  have hp1l := z_lo p1
  have hp1h := z_hi p1
  have hl := lv_entry ([.ref ha0, .int p1]) (n := 2) (Nat.le_of_ble_eq_true rfl)
  rw [lg_entry_eq]
  generalize (lg_sl ([.ref ha0, .int p1]) ++ List.replicate (2 - (lg_sl ([.ref ha0, .int p1])).length) Slot.unset).toArray = ls at hl ⊢
  have hl : lv_has ls 2 [(0, .ref ha0), (1, .int p1)] := hl
  refine lv_iload_n hx hb dX11_feed_0 rfl (lv_at hl 1 rfl) ?_
  refine lv_if_ge (tgt := 11) hx hb dX11_feed_1 (by decide) (fun hc => ?_) (fun hc => ?_)
  · have q1 : 0 ≤ p1.toInt := z_le (by decide) rfl hc
    refine lv_iload_n hx hb dX11_feed_11 rfl (lv_at hl 1 rfl) ?_
    refine lv_sipush (v := 255) hx hb dX11_feed_12 (by decide) ?_
    refine lv_icmp_gt (tgt := 30) hx hb dX11_feed_15 (by decide) (fun hc => ?_) (fun hc => ?_)
    · have q2 : 255 < p1.toInt := z_lt (by decide) rfl hc
      refine lv_aload_n hx hb dX11_feed_30 rfl (lv_at hl 0 rfl) ?_
      refine lv_bipush (v := (-6)) hx hb dX11_feed_31 (by decide) ?_
      refine z_cwi (wc := [(ha0_8, .inl (cI, 7, .inl fa0_8)), (ha0, .inr (11, [.ref ha0_0, .ref ha0_1, .int ia0_2, .ref ha0_3, .ref ha0_3_0, .ref ha0_5, .ref ha0_6, .int ia0_7, .ref ha0_8]))]) (wr := [(ha0_5_0, .inl (cI, 80, .inl fa0_5_0)), (ha0_5, .inr (4, [.ref ha0_5_0, .int ia0_5_1]))]) (w1 := fun u4 => [(ha0_8, .inl (cI, 7, .inl (u4.2 0))), (ha0, .inr (11, [.ref ha0_0, .ref ha0_1, .int ia0_2, .ref ha0_3, .ref ha0_3_0, .ref ha0_5, .ref ha0_6, .int ia0_7, .ref ha0_8]))]) (va_runV (As := [.int (-6)]) (rest := []) ⟨hx, hb, hml, hown, hts⟩ (wX11_refuse_F l dC dI cI cQ ha0 ha0_8 ha0_0 ha0_1 ha0_3 ha0_3_0 ha0_5 ha0_6 fa0_8 ia0_2 (by first | omega | decide | exact z_lo _ | exact z_hi _) (by first | omega | decide | exact z_lo _ | exact z_hi _) ia0_7 (by first | omega | decide | exact z_lo _ | exact z_hi _) (by first | omega | decide | exact z_lo _ | exact z_hi _) (-6) s.heap.size) (cwV 1 hts gv_X11_feed_X11_refuse_53 rfl rfl rfl (by decide +kernel) ⟨Nat.le_of_ble_eq_true rfl, Nat.le_of_ble_eq_true rfl⟩) ⟨z_blind, va_recv hK hP (ci := 11) (q0 := 3) rfl rfl, z_pre hZ hP hD [2, 3] rfl (by decide)⟩ rfl rfl hl.1 rfl (lv_room (Nat.le_of_ble_eq_true rfl)) dX11_feed_33 ⟨Nat.le_of_ble_eq_true rfl, Nat.le_of_ble_eq_true rfl⟩) hP hD hS hA [2, 3] [0, 1] rfl rfl (by decide) (by decide) (fun y3 u4 H locs hpo hP hD hS => ?_)
      generalize hgf5 : u4.2 0 = f5 at hP hD hpo
      have hP : va_P (dC, dI) vwCl [(ha0_5_0, .inl (cI, 80, .inl fa0_5_0)), (ha0_5, .inr (4, [.ref ha0_5_0, .int ia0_5_1])), (ha0_8, .inl (cI, 7, .inl f5)), (ha0, .inr (11, [.ref ha0_0, .ref ha0_1, .int ia0_2, .ref ha0_3, .ref ha0_3_0, .ref ha0_5, .ref ha0_6, .int ia0_7, .ref ha0_8]))] H := hP
      have hD : va_D A [(ha0_5_0, .inl (cI, 80, .inl fa0_5_0)), (ha0_5, .inr (4, [.ref ha0_5_0, .int ia0_5_1])), (ha0_8, .inl (cI, 7, .inl f5)), (ha0, .inr (11, [.ref ha0_0, .ref ha0_1, .int ia0_2, .ref ha0_3, .ref ha0_3_0, .ref ha0_5, .ref ha0_6, .int ia0_7, .ref ha0_8]))] := hD
      obtain ⟨hy3r, hy3po⟩ := hpo
      obtain ⟨hy3l, hy3h⟩ := hy3r
      have hP9 := hP.sub (ws' := [(ha0_5_0, .inl (cI, 80, .inl fa0_5_0)), (ha0_5, .inr (4, [.ref ha0_5_0, .int ia0_5_1])), (ha0_8, .inl (cI, 7, .inl f5)), (ha0, .inr (11, [.ref ha0_0, .ref ha0_1, .int ia0_2, .ref ha0_3, .ref ha0_3_0, .ref ha0_5, .ref ha0_6, .int ia0_7, .ref ha0_8]))]) [0, 1, 2, 3] rfl
      have hD9 := hD.sub (ws' := [(ha0_5_0, .inl (cI, 80, .inl fa0_5_0)), (ha0_5, .inr (4, [.ref ha0_5_0, .int ia0_5_1])), (ha0_8, .inl (cI, 7, .inl f5)), (ha0, .inr (11, [.ref ha0_0, .ref ha0_1, .int ia0_2, .ref ha0_3, .ref ha0_3_0, .ref ha0_5, .ref ha0_6, .int ia0_7, .ref ha0_8]))]) [0, 1, 2, 3] (by decide) rfl
      have hpo : ((p1.toInt < 0 ∧ (y3 : Int32).toInt = -4 ∧ (ia0_5_1 : Int32).toInt = ia0_5_1.toInt) ∨ (0 ≤ p1.toInt ∧ (255 < p1.toInt ∨ ia0_5_1.toInt = 80) ∧ (y3 : Int32).toInt = -6 ∧ (ia0_5_1 : Int32).toInt = ia0_5_1.toInt) ∨ (0 ≤ p1.toInt ∧ p1.toInt ≤ 255 ∧ ia0_5_1.toInt < 80 ∧ (y3 : Int32).toInt = ia0_5_1.toInt + 1 ∧ (ia0_5_1 : Int32).toInt = ia0_5_1.toInt + 1)) := by first | omega | decide | (simp; omega)
      exact W.iret (v := y3) hx hb hr (fun t ht hW => ⟨⟨y3, (fun k => [ia0_5_1].getD k 0, fun k => [fa0_5_0, f5].getD k (fun _ => 0)), rfl, (show (∀ k, 0 ≤ (fa0_5_0 k).toInt ∧ (fa0_5_0 k).toInt ≤ 255) ∧ (0 ≤ (ia0_5_1 : Int32).toInt ∧ (ia0_5_1 : Int32).toInt ≤ 80) ∧ ((-2147483648) ≤ (y3 : Int32).toInt ∧ (y3 : Int32).toInt ≤ 2147483647) ∧ (((p1.toInt < 0 ∧ (y3 : Int32).toInt = -4 ∧ (ia0_5_1 : Int32).toInt = ia0_5_1.toInt) ∨ (0 ≤ p1.toInt ∧ (255 < p1.toInt ∨ ia0_5_1.toInt = 80) ∧ (y3 : Int32).toInt = -6 ∧ (ia0_5_1 : Int32).toInt = ia0_5_1.toInt) ∨ (0 ≤ p1.toInt ∧ p1.toInt ≤ 255 ∧ ia0_5_1.toInt < 80 ∧ (y3 : Int32).toInt = ia0_5_1.toInt + 1 ∧ (ia0_5_1 : Int32).toInt = ia0_5_1.toInt + 1))) from ⟨hBfa0_5_0, ⟨by first | omega | decide | exact z_lo _, by first | omega | decide | exact z_hi _⟩, ⟨by first | omega | decide | exact z_lo _, by first | omega | decide | exact z_hi _⟩, hpo⟩), by rw [ht]; exact hP9, hD9⟩, hS.F ht⟩) hS.2.2 dX11_feed_36
    · have q6 : p1.toInt ≤ 255 := z_nlt (by decide) rfl hc
      refine lv_aload_n hx hb dX11_feed_18 rfl (lv_at hl 0 rfl) ?_
      refine va_get (D := (dC, dI)) (ci := 11) (v := .ref ha0_5) (C := RX11) (T := TX11) (N := 9) hx hb hts in_X11_feed_X11 hown hK hP 3 rfl rfl 5 (by decide) (hts (.fieldLink RX11 38 "EachOnHisCue" "letters" "LEachOnHisCue$Letters;") (by decide +kernel)) (fun _ h9 => h9) rfl dX11_feed_19 ?_
      refine va_get (D := (dC, dI)) (ci := 4) (v := .int ia0_5_1) (C := RX4) (T := TX4) (N := 2) hx hb hts in_X11_feed_X4 hown hK hP 1 rfl rfl 1 (by decide) (hts (.fieldLink RX11 57 "EachOnHisCue$Letters" "size" "I") (by decide +kernel)) (fun _ h9 => h9) rfl dX11_feed_22 ?_
      refine lv_bipush (v := 80) hx hb dX11_feed_25 (by decide) ?_
      refine lv_icmp_lt (tgt := 37) hx hb dX11_feed_27 (by decide) (fun hc => ?_) (fun hc => ?_)
      · have q7 : ia0_5_1.toInt < 80 := z_lt rfl (by decide) hc
        refine lv_aload_n hx hb dX11_feed_37 rfl (lv_at hl 0 rfl) ?_
        refine va_get (D := (dC, dI)) (ci := 11) (v := .ref ha0_5) (C := RX11) (T := TX11) (N := 9) hx hb hts in_X11_feed_X11 hown hK hP 3 rfl rfl 5 (by decide) (hts (.fieldLink RX11 38 "EachOnHisCue" "letters" "LEachOnHisCue$Letters;") (by decide +kernel)) (fun _ h9 => h9) rfl dX11_feed_38 ?_
        refine lv_iload_n hx hb dX11_feed_41 rfl (lv_at hl 1 rfl) ?_
        refine z_cwv (wc := [(ha0_5_0, .inl (cI, 80, .inl fa0_5_0)), (ha0_5, .inr (4, [.ref ha0_5_0, .int ia0_5_1]))]) (wr := [(ha0_8, .inl (cI, 7, .inl fa0_8)), (ha0, .inr (11, [.ref ha0_0, .ref ha0_1, .int ia0_2, .ref ha0_3, .ref ha0_3_0, .ref ha0_5, .ref ha0_6, .int ia0_7, .ref ha0_8]))]) (w1 := fun u9 => [(ha0_5_0, .inl (cI, 80, .inl (u9.2 0))), (ha0_5, .inr (4, [.ref ha0_5_0, .int (u9.1 0)]))]) (va_runV (As := [.int p1]) (rest := []) ⟨hx, hb, hml, hown, hts⟩ (wX4_add_F l dC dI cI cQ ha0_5 ha0_5_0 fa0_5_0 hBfa0_5_0 ia0_5_1 (by first | omega | decide | exact z_lo _ | exact z_hi _) (by first | omega | decide | exact z_lo _ | exact z_hi _) p1 (by first | omega | decide | exact z_lo _ | exact z_hi _) (by first | omega | decide | exact z_lo _ | exact z_hi _) s.heap.size) (cwV 1 hts gv_X11_feed_X4_add_60 rfl rfl rfl (by decide +kernel) ⟨Nat.le_of_ble_eq_true rfl, Nat.le_of_ble_eq_true rfl⟩) ⟨z_blind, va_recv hK hP (ci := 4) (q0 := 1) rfl rfl, z_pre hZ hP hD [0, 1] rfl (by decide)⟩ rfl rfl hl.1 rfl (lv_room (Nat.le_of_ble_eq_true rfl)) dX11_feed_42 ⟨Nat.le_of_ble_eq_true rfl, Nat.le_of_ble_eq_true rfl⟩) hP hD hS hA [0, 1] [2, 3] rfl rfl (by decide) (by decide) (fun u9 H locs hpo hP hD hS => ?_)
        generalize hgf10 : u9.2 0 = f10 at hP hD hpo
        generalize hgw11 : u9.1 0 = w11 at hP hD hpo
        have hP : va_P (dC, dI) vwCl [(ha0_8, .inl (cI, 7, .inl fa0_8)), (ha0, .inr (11, [.ref ha0_0, .ref ha0_1, .int ia0_2, .ref ha0_3, .ref ha0_3_0, .ref ha0_5, .ref ha0_6, .int ia0_7, .ref ha0_8])), (ha0_5_0, .inl (cI, 80, .inl f10)), (ha0_5, .inr (4, [.ref ha0_5_0, .int w11]))] H := hP
        have hD : va_D A [(ha0_8, .inl (cI, 7, .inl fa0_8)), (ha0, .inr (11, [.ref ha0_0, .ref ha0_1, .int ia0_2, .ref ha0_3, .ref ha0_3_0, .ref ha0_5, .ref ha0_6, .int ia0_7, .ref ha0_8])), (ha0_5_0, .inl (cI, 80, .inl f10)), (ha0_5, .inr (4, [.ref ha0_5_0, .int w11]))] := hD
        obtain ⟨hBf10, hw11p, hy8po⟩ := hpo
        obtain ⟨hw11l, hw11h⟩ := hw11p
        refine lv_aload_n hx hb dX11_feed_45 rfl (lv_at hl 0 rfl) ?_
        refine va_get (D := (dC, dI)) (ci := 11) (v := .ref ha0_5) (C := RX11) (T := TX11) (N := 9) hx hb hts in_X11_feed_X11 hown hK hP 1 rfl rfl 5 (by decide) (hts (.fieldLink RX11 38 "EachOnHisCue" "letters" "LEachOnHisCue$Letters;") (by decide +kernel)) (fun _ h9 => h9) rfl dX11_feed_46 ?_
        refine va_get (D := (dC, dI)) (ci := 4) (v := .int w11) (C := RX4) (T := TX4) (N := 2) hx hb hts in_X11_feed_X4 hown hK hP 3 rfl rfl 1 (by decide) (hts (.fieldLink RX11 57 "EachOnHisCue$Letters" "size" "I") (by decide +kernel)) (fun _ h9 => h9) rfl dX11_feed_49 ?_
        have hP9 := hP.sub (ws' := [(ha0_5_0, .inl (cI, 80, .inl f10)), (ha0_5, .inr (4, [.ref ha0_5_0, .int w11])), (ha0_8, .inl (cI, 7, .inl fa0_8)), (ha0, .inr (11, [.ref ha0_0, .ref ha0_1, .int ia0_2, .ref ha0_3, .ref ha0_3_0, .ref ha0_5, .ref ha0_6, .int ia0_7, .ref ha0_8]))]) [2, 3, 0, 1] rfl
        have hD9 := hD.sub (ws' := [(ha0_5_0, .inl (cI, 80, .inl f10)), (ha0_5, .inr (4, [.ref ha0_5_0, .int w11])), (ha0_8, .inl (cI, 7, .inl fa0_8)), (ha0, .inr (11, [.ref ha0_0, .ref ha0_1, .int ia0_2, .ref ha0_3, .ref ha0_3_0, .ref ha0_5, .ref ha0_6, .int ia0_7, .ref ha0_8]))]) [2, 3, 0, 1] (by decide) rfl
        have hpo : ((p1.toInt < 0 ∧ (w11 : Int32).toInt = -4 ∧ (w11 : Int32).toInt = ia0_5_1.toInt) ∨ (0 ≤ p1.toInt ∧ (255 < p1.toInt ∨ ia0_5_1.toInt = 80) ∧ (w11 : Int32).toInt = -6 ∧ (w11 : Int32).toInt = ia0_5_1.toInt) ∨ (0 ≤ p1.toInt ∧ p1.toInt ≤ 255 ∧ ia0_5_1.toInt < 80 ∧ (w11 : Int32).toInt = ia0_5_1.toInt + 1 ∧ (w11 : Int32).toInt = ia0_5_1.toInt + 1)) := by first | omega | decide | (simp; omega)
        exact W.iret (v := w11) hx hb hr (fun t ht hW => ⟨⟨w11, (fun k => [w11].getD k 0, fun k => [f10, fa0_8].getD k (fun _ => 0)), rfl, (show (∀ k, 0 ≤ (f10 k).toInt ∧ (f10 k).toInt ≤ 255) ∧ (0 ≤ (w11 : Int32).toInt ∧ (w11 : Int32).toInt ≤ 80) ∧ ((-2147483648) ≤ (w11 : Int32).toInt ∧ (w11 : Int32).toInt ≤ 2147483647) ∧ (((p1.toInt < 0 ∧ (w11 : Int32).toInt = -4 ∧ (w11 : Int32).toInt = ia0_5_1.toInt) ∨ (0 ≤ p1.toInt ∧ (255 < p1.toInt ∨ ia0_5_1.toInt = 80) ∧ (w11 : Int32).toInt = -6 ∧ (w11 : Int32).toInt = ia0_5_1.toInt) ∨ (0 ≤ p1.toInt ∧ p1.toInt ≤ 255 ∧ ia0_5_1.toInt < 80 ∧ (w11 : Int32).toInt = ia0_5_1.toInt + 1 ∧ (w11 : Int32).toInt = ia0_5_1.toInt + 1))) from ⟨hBf10, ⟨by first | omega | decide | exact z_lo _, by first | omega | decide | exact z_hi _⟩, ⟨by first | omega | decide | exact z_lo _, by first | omega | decide | exact z_hi _⟩, hpo⟩), by rw [ht]; exact hP9, hD9⟩, hS.F ht⟩) hS.2.2 dX11_feed_52
      · have q12 : 80 ≤ ia0_5_1.toInt := z_nlt rfl (by decide) hc
        refine lv_aload_n hx hb dX11_feed_30 rfl (lv_at hl 0 rfl) ?_
        refine lv_bipush (v := (-6)) hx hb dX11_feed_31 (by decide) ?_
        refine z_cwi (wc := [(ha0_8, .inl (cI, 7, .inl fa0_8)), (ha0, .inr (11, [.ref ha0_0, .ref ha0_1, .int ia0_2, .ref ha0_3, .ref ha0_3_0, .ref ha0_5, .ref ha0_6, .int ia0_7, .ref ha0_8]))]) (wr := [(ha0_5_0, .inl (cI, 80, .inl fa0_5_0)), (ha0_5, .inr (4, [.ref ha0_5_0, .int ia0_5_1]))]) (w1 := fun u14 => [(ha0_8, .inl (cI, 7, .inl (u14.2 0))), (ha0, .inr (11, [.ref ha0_0, .ref ha0_1, .int ia0_2, .ref ha0_3, .ref ha0_3_0, .ref ha0_5, .ref ha0_6, .int ia0_7, .ref ha0_8]))]) (va_runV (As := [.int (-6)]) (rest := []) ⟨hx, hb, hml, hown, hts⟩ (wX11_refuse_F l dC dI cI cQ ha0 ha0_8 ha0_0 ha0_1 ha0_3 ha0_3_0 ha0_5 ha0_6 fa0_8 ia0_2 (by first | omega | decide | exact z_lo _ | exact z_hi _) (by first | omega | decide | exact z_lo _ | exact z_hi _) ia0_7 (by first | omega | decide | exact z_lo _ | exact z_hi _) (by first | omega | decide | exact z_lo _ | exact z_hi _) (-6) s.heap.size) (cwV 1 hts gv_X11_feed_X11_refuse_53 rfl rfl rfl (by decide +kernel) ⟨Nat.le_of_ble_eq_true rfl, Nat.le_of_ble_eq_true rfl⟩) ⟨z_blind, va_recv hK hP (ci := 11) (q0 := 3) rfl rfl, z_pre hZ hP hD [2, 3] rfl (by decide)⟩ rfl rfl hl.1 rfl (lv_room (Nat.le_of_ble_eq_true rfl)) dX11_feed_33 ⟨Nat.le_of_ble_eq_true rfl, Nat.le_of_ble_eq_true rfl⟩) hP hD hS hA [2, 3] [0, 1] rfl rfl (by decide) (by decide) (fun y13 u14 H locs hpo hP hD hS => ?_)
        generalize hgf15 : u14.2 0 = f15 at hP hD hpo
        have hP : va_P (dC, dI) vwCl [(ha0_5_0, .inl (cI, 80, .inl fa0_5_0)), (ha0_5, .inr (4, [.ref ha0_5_0, .int ia0_5_1])), (ha0_8, .inl (cI, 7, .inl f15)), (ha0, .inr (11, [.ref ha0_0, .ref ha0_1, .int ia0_2, .ref ha0_3, .ref ha0_3_0, .ref ha0_5, .ref ha0_6, .int ia0_7, .ref ha0_8]))] H := hP
        have hD : va_D A [(ha0_5_0, .inl (cI, 80, .inl fa0_5_0)), (ha0_5, .inr (4, [.ref ha0_5_0, .int ia0_5_1])), (ha0_8, .inl (cI, 7, .inl f15)), (ha0, .inr (11, [.ref ha0_0, .ref ha0_1, .int ia0_2, .ref ha0_3, .ref ha0_3_0, .ref ha0_5, .ref ha0_6, .int ia0_7, .ref ha0_8]))] := hD
        obtain ⟨hy13r, hy13po⟩ := hpo
        obtain ⟨hy13l, hy13h⟩ := hy13r
        have hP9 := hP.sub (ws' := [(ha0_5_0, .inl (cI, 80, .inl fa0_5_0)), (ha0_5, .inr (4, [.ref ha0_5_0, .int ia0_5_1])), (ha0_8, .inl (cI, 7, .inl f15)), (ha0, .inr (11, [.ref ha0_0, .ref ha0_1, .int ia0_2, .ref ha0_3, .ref ha0_3_0, .ref ha0_5, .ref ha0_6, .int ia0_7, .ref ha0_8]))]) [0, 1, 2, 3] rfl
        have hD9 := hD.sub (ws' := [(ha0_5_0, .inl (cI, 80, .inl fa0_5_0)), (ha0_5, .inr (4, [.ref ha0_5_0, .int ia0_5_1])), (ha0_8, .inl (cI, 7, .inl f15)), (ha0, .inr (11, [.ref ha0_0, .ref ha0_1, .int ia0_2, .ref ha0_3, .ref ha0_3_0, .ref ha0_5, .ref ha0_6, .int ia0_7, .ref ha0_8]))]) [0, 1, 2, 3] (by decide) rfl
        have hpo : ((p1.toInt < 0 ∧ (y13 : Int32).toInt = -4 ∧ (ia0_5_1 : Int32).toInt = ia0_5_1.toInt) ∨ (0 ≤ p1.toInt ∧ (255 < p1.toInt ∨ ia0_5_1.toInt = 80) ∧ (y13 : Int32).toInt = -6 ∧ (ia0_5_1 : Int32).toInt = ia0_5_1.toInt) ∨ (0 ≤ p1.toInt ∧ p1.toInt ≤ 255 ∧ ia0_5_1.toInt < 80 ∧ (y13 : Int32).toInt = ia0_5_1.toInt + 1 ∧ (ia0_5_1 : Int32).toInt = ia0_5_1.toInt + 1)) := by first | omega | decide | (simp; omega)
        exact W.iret (v := y13) hx hb hr (fun t ht hW => ⟨⟨y13, (fun k => [ia0_5_1].getD k 0, fun k => [fa0_5_0, f15].getD k (fun _ => 0)), rfl, (show (∀ k, 0 ≤ (fa0_5_0 k).toInt ∧ (fa0_5_0 k).toInt ≤ 255) ∧ (0 ≤ (ia0_5_1 : Int32).toInt ∧ (ia0_5_1 : Int32).toInt ≤ 80) ∧ ((-2147483648) ≤ (y13 : Int32).toInt ∧ (y13 : Int32).toInt ≤ 2147483647) ∧ (((p1.toInt < 0 ∧ (y13 : Int32).toInt = -4 ∧ (ia0_5_1 : Int32).toInt = ia0_5_1.toInt) ∨ (0 ≤ p1.toInt ∧ (255 < p1.toInt ∨ ia0_5_1.toInt = 80) ∧ (y13 : Int32).toInt = -6 ∧ (ia0_5_1 : Int32).toInt = ia0_5_1.toInt) ∨ (0 ≤ p1.toInt ∧ p1.toInt ≤ 255 ∧ ia0_5_1.toInt < 80 ∧ (y13 : Int32).toInt = ia0_5_1.toInt + 1 ∧ (ia0_5_1 : Int32).toInt = ia0_5_1.toInt + 1))) from ⟨hBfa0_5_0, ⟨by first | omega | decide | exact z_lo _, by first | omega | decide | exact z_hi _⟩, ⟨by first | omega | decide | exact z_lo _, by first | omega | decide | exact z_hi _⟩, hpo⟩), by rw [ht]; exact hP9, hD9⟩, hS.F ht⟩) hS.2.2 dX11_feed_36
  · have q16 : p1.toInt < 0 := z_nle (by decide) rfl hc
    refine lv_aload_n hx hb dX11_feed_4 rfl (lv_at hl 0 rfl) ?_
    refine lv_bipush (v := (-4)) hx hb dX11_feed_5 (by decide) ?_
    refine z_cwi (wc := [(ha0_8, .inl (cI, 7, .inl fa0_8)), (ha0, .inr (11, [.ref ha0_0, .ref ha0_1, .int ia0_2, .ref ha0_3, .ref ha0_3_0, .ref ha0_5, .ref ha0_6, .int ia0_7, .ref ha0_8]))]) (wr := [(ha0_5_0, .inl (cI, 80, .inl fa0_5_0)), (ha0_5, .inr (4, [.ref ha0_5_0, .int ia0_5_1]))]) (w1 := fun u18 => [(ha0_8, .inl (cI, 7, .inl (u18.2 0))), (ha0, .inr (11, [.ref ha0_0, .ref ha0_1, .int ia0_2, .ref ha0_3, .ref ha0_3_0, .ref ha0_5, .ref ha0_6, .int ia0_7, .ref ha0_8]))]) (va_runV (As := [.int (-4)]) (rest := []) ⟨hx, hb, hml, hown, hts⟩ (wX11_refuse_F l dC dI cI cQ ha0 ha0_8 ha0_0 ha0_1 ha0_3 ha0_3_0 ha0_5 ha0_6 fa0_8 ia0_2 (by first | omega | decide | exact z_lo _ | exact z_hi _) (by first | omega | decide | exact z_lo _ | exact z_hi _) ia0_7 (by first | omega | decide | exact z_lo _ | exact z_hi _) (by first | omega | decide | exact z_lo _ | exact z_hi _) (-4) s.heap.size) (cwV 1 hts gv_X11_feed_X11_refuse_53 rfl rfl rfl (by decide +kernel) ⟨Nat.le_of_ble_eq_true rfl, Nat.le_of_ble_eq_true rfl⟩) ⟨z_blind, va_recv hK hP (ci := 11) (q0 := 3) rfl rfl, z_pre hZ hP hD [2, 3] rfl (by decide)⟩ rfl rfl hl.1 rfl (lv_room (Nat.le_of_ble_eq_true rfl)) dX11_feed_7 ⟨Nat.le_of_ble_eq_true rfl, Nat.le_of_ble_eq_true rfl⟩) hP hD hS hA [2, 3] [0, 1] rfl rfl (by decide) (by decide) (fun y17 u18 H locs hpo hP hD hS => ?_)
    generalize hgf19 : u18.2 0 = f19 at hP hD hpo
    have hP : va_P (dC, dI) vwCl [(ha0_5_0, .inl (cI, 80, .inl fa0_5_0)), (ha0_5, .inr (4, [.ref ha0_5_0, .int ia0_5_1])), (ha0_8, .inl (cI, 7, .inl f19)), (ha0, .inr (11, [.ref ha0_0, .ref ha0_1, .int ia0_2, .ref ha0_3, .ref ha0_3_0, .ref ha0_5, .ref ha0_6, .int ia0_7, .ref ha0_8]))] H := hP
    have hD : va_D A [(ha0_5_0, .inl (cI, 80, .inl fa0_5_0)), (ha0_5, .inr (4, [.ref ha0_5_0, .int ia0_5_1])), (ha0_8, .inl (cI, 7, .inl f19)), (ha0, .inr (11, [.ref ha0_0, .ref ha0_1, .int ia0_2, .ref ha0_3, .ref ha0_3_0, .ref ha0_5, .ref ha0_6, .int ia0_7, .ref ha0_8]))] := hD
    obtain ⟨hy17r, hy17po⟩ := hpo
    obtain ⟨hy17l, hy17h⟩ := hy17r
    have hP9 := hP.sub (ws' := [(ha0_5_0, .inl (cI, 80, .inl fa0_5_0)), (ha0_5, .inr (4, [.ref ha0_5_0, .int ia0_5_1])), (ha0_8, .inl (cI, 7, .inl f19)), (ha0, .inr (11, [.ref ha0_0, .ref ha0_1, .int ia0_2, .ref ha0_3, .ref ha0_3_0, .ref ha0_5, .ref ha0_6, .int ia0_7, .ref ha0_8]))]) [0, 1, 2, 3] rfl
    have hD9 := hD.sub (ws' := [(ha0_5_0, .inl (cI, 80, .inl fa0_5_0)), (ha0_5, .inr (4, [.ref ha0_5_0, .int ia0_5_1])), (ha0_8, .inl (cI, 7, .inl f19)), (ha0, .inr (11, [.ref ha0_0, .ref ha0_1, .int ia0_2, .ref ha0_3, .ref ha0_3_0, .ref ha0_5, .ref ha0_6, .int ia0_7, .ref ha0_8]))]) [0, 1, 2, 3] (by decide) rfl
    have hpo : ((p1.toInt < 0 ∧ (y17 : Int32).toInt = -4 ∧ (ia0_5_1 : Int32).toInt = ia0_5_1.toInt) ∨ (0 ≤ p1.toInt ∧ (255 < p1.toInt ∨ ia0_5_1.toInt = 80) ∧ (y17 : Int32).toInt = -6 ∧ (ia0_5_1 : Int32).toInt = ia0_5_1.toInt) ∨ (0 ≤ p1.toInt ∧ p1.toInt ≤ 255 ∧ ia0_5_1.toInt < 80 ∧ (y17 : Int32).toInt = ia0_5_1.toInt + 1 ∧ (ia0_5_1 : Int32).toInt = ia0_5_1.toInt + 1)) := by first | omega | decide | (simp; omega)
    exact W.iret (v := y17) hx hb hr (fun t ht hW => ⟨⟨y17, (fun k => [ia0_5_1].getD k 0, fun k => [fa0_5_0, f19].getD k (fun _ => 0)), rfl, (show (∀ k, 0 ≤ (fa0_5_0 k).toInt ∧ (fa0_5_0 k).toInt ≤ 255) ∧ (0 ≤ (ia0_5_1 : Int32).toInt ∧ (ia0_5_1 : Int32).toInt ≤ 80) ∧ ((-2147483648) ≤ (y17 : Int32).toInt ∧ (y17 : Int32).toInt ≤ 2147483647) ∧ (((p1.toInt < 0 ∧ (y17 : Int32).toInt = -4 ∧ (ia0_5_1 : Int32).toInt = ia0_5_1.toInt) ∨ (0 ≤ p1.toInt ∧ (255 < p1.toInt ∨ ia0_5_1.toInt = 80) ∧ (y17 : Int32).toInt = -6 ∧ (ia0_5_1 : Int32).toInt = ia0_5_1.toInt) ∨ (0 ≤ p1.toInt ∧ p1.toInt ≤ 255 ∧ ia0_5_1.toInt < 80 ∧ (y17 : Int32).toInt = ia0_5_1.toInt + 1 ∧ (ia0_5_1 : Int32).toInt = ia0_5_1.toInt + 1))) from ⟨hBfa0_5_0, ⟨by first | omega | decide | exact z_lo _, by first | omega | decide | exact z_hi _⟩, ⟨by first | omega | decide | exact z_lo _, by first | omega | decide | exact z_hi _⟩, hpo⟩), by rw [ht]; exact hP9, hD9⟩, hS.F ht⟩) hS.2.2 dX11_feed_10
set_option maxHeartbeats 4000000 in
set_option maxRecDepth 100000 in
theorem rX12_bound_F (l : Launch) (dC : Nat → ClassId) (dI : Nat → Nat → Nat) (cI cQ : ClassId) (p0 : Int32) (p1 : Int32) (p2 : Int32) : Met l yX12_bound vsX12_bound ({ frames := 0, cells := 0, slots := 0, locals := 0 }) (va_Pc [.int p0, .int p1, .int p2] (zRB dC dI cI cQ [])) (vp_Si (fun r => (-6) ≤ r.toInt ∧ r.toInt ≤ 0 ∧ ((r.toInt = -4 ∧ p0.toInt < p1.toInt) ∨ (r.toInt = -6 ∧ p1.toInt ≤ p0.toInt ∧ p2.toInt < p0.toInt) ∨ (r.toInt = 0 ∧ p1.toInt ≤ p0.toInt ∧ p0.toInt ≤ p2.toInt)))) 0 0 (fun _ => False) := by
  refine Met.ofW (cc := cX12_bound) (maxL := 3) (ret := (some .int)) (by decide) rfl ?_
  intro p e s m args below meth c s₁ B hml hv
  obtain ⟨rfl, hP, hZ⟩ := hv
  obtain ⟨hK, hAO, hN⟩ := id hZ
  have hx := B.exec
  have hb := B.bytes
  have hr := B.returns
  have hts := atoms_spec (ws := vsX12_bound) B.pre
  have hown : s.vm.findClass RX12 = some m.cls := findClass_of_methodNamed B.named
  have hlocks := B.notSynchronized
  have hlt0 : ((-9) : Int32).toInt = (-9) := by decide
  have hlt1 : ((-6) : Int32).toInt = (-6) := by decide
  have hlt2 : ((-4) : Int32).toInt = (-4) := by decide
  have hlt3 : ((-3) : Int32).toInt = (-3) := by decide
  have hlt4 : ((-2) : Int32).toInt = (-2) := by decide
  have hlt5 : ((-1) : Int32).toInt = (-1) := by decide
  have hlt6 : (0 : Int32).toInt = 0 := by decide
  have hlt7 : (1 : Int32).toInt = 1 := by decide
  have hp0l := z_lo p0
  have hp0h := z_hi p0
  have hp1l := z_lo p1
  have hp1h := z_hi p1
  have hp2l := z_lo p2
  have hp2h := z_hi p2
  have hl := lv_entry ([.int p0, .int p1, .int p2]) (n := 3) (Nat.le_of_ble_eq_true rfl)
  rw [lg_entry_eq]
  generalize (lg_sl ([.int p0, .int p1, .int p2]) ++ List.replicate (3 - (lg_sl ([.int p0, .int p1, .int p2])).length) Slot.unset).toArray = ls at hl ⊢
  have hl : lv_has ls 3 [(0, .int p0), (1, .int p1), (2, .int p2)] := hl
  refine lv_iload_n hx hb dX12_bound_0 rfl (lv_at hl 0 rfl) ?_
  refine lv_iload_n hx hb dX12_bound_1 rfl (lv_at hl 1 rfl) ?_
  refine lv_icmp_ge (tgt := 10) hx hb dX12_bound_2 (by decide) (fun hc => ?_) (fun hc => ?_)
  · have q1 : p1.toInt ≤ p0.toInt := z_le rfl rfl hc
    refine lv_iload_n hx hb dX12_bound_10 rfl (lv_at hl 0 rfl) ?_
    refine lv_iload_n hx hb dX12_bound_11 rfl (lv_at hl 2 rfl) ?_
    refine lv_icmp_le (tgt := 20) hx hb dX12_bound_12 (by decide) (fun hc => ?_) (fun hc => ?_)
    · have q2 : p0.toInt ≤ p2.toInt := z_le rfl rfl hc
      refine lv_iconst (v := 0) hx hb dX12_bound_20 (by decide) ?_
      exact W.iret (v := 0) hx hb hr (fun t ht hW => ⟨0, rfl, ⟨by first | omega | decide | exact z_lo _, by first | omega | decide | exact z_hi _, by first | omega | (simp only [show (0 : Int32).toInt = 0 from by decide]; omega) | (intro _; omega) | (intro h; exact absurd h (by decide)) | (refine ⟨?_, ?_⟩ <;> omega) | (split <;> omega)⟩, ht⟩) (fun _ h => absurd h List.not_mem_nil) dX12_bound_21
    · have q3 : p2.toInt < p0.toInt := z_nle rfl rfl hc
      refine lv_bipush (v := (-6)) hx hb dX12_bound_15 (by decide) ?_
      refine lv_goto (tgt := 21) hx hb dX12_bound_17 (by decide) ?_
      exact W.iret (v := (-6)) hx hb hr (fun t ht hW => ⟨(-6), rfl, ⟨by first | omega | decide | exact z_lo _, by first | omega | decide | exact z_hi _, by first | omega | (simp only [show ((-6) : Int32).toInt = (-6) from by decide]; omega) | (intro _; omega) | (intro h; exact absurd h (by decide)) | (refine ⟨?_, ?_⟩ <;> omega) | (split <;> omega)⟩, ht⟩) (fun _ h => absurd h List.not_mem_nil) dX12_bound_21
  · have q4 : p0.toInt < p1.toInt := z_nle rfl rfl hc
    refine lv_bipush (v := (-4)) hx hb dX12_bound_5 (by decide) ?_
    refine lv_goto (tgt := 21) hx hb dX12_bound_7 (by decide) ?_
    exact W.iret (v := (-4)) hx hb hr (fun t ht hW => ⟨(-4), rfl, ⟨by first | omega | decide | exact z_lo _, by first | omega | decide | exact z_hi _, by first | omega | (simp only [show ((-4) : Int32).toInt = (-4) from by decide]; omega) | (intro _; omega) | (intro h; exact absurd h (by decide)) | (refine ⟨?_, ?_⟩ <;> omega) | (split <;> omega)⟩, ht⟩) (fun _ h => absurd h List.not_mem_nil) dX12_bound_21
set_option maxHeartbeats 4000000 in
set_option maxRecDepth 100000 in
theorem wX12_no_F (l : Launch) (dC : Nat → ClassId) (dI : Nat → Nat → Nat) (cI cQ : ClassId) (ha0 ha0_0 ha0_1 ha0_2 ha0_3 ha0_4 ha0_5 ha0_6 ha0_7 ha0_8 ha0_16 ha0_17 ha0_18 ha0_19 ha0_23 ha0_29 ha0_33 ha0_34 ha0_35 : Nat) (fa0_0 : Nat → Int32) (ia0_9 : Int32) (hia0_9l : 0 ≤ ia0_9.toInt) (hia0_9h : ia0_9.toInt ≤ 5) (ia0_10 : Int32) (hia0_10l : 0 ≤ ia0_10.toInt) (hia0_10h : ia0_10.toInt ≤ 12) (ia0_11 : Int32) (ia0_12 : Int32) (ia0_13 : Int32) (ia0_14 : Int32) (hia0_14l : (-9) ≤ ia0_14.toInt) (hia0_14h : ia0_14.toInt ≤ 11) (ia0_15 : Int32) (ia0_20 : Int32) (hia0_20l : 0 ≤ ia0_20.toInt) (hia0_20h : ia0_20.toInt ≤ 80) (ia0_21 : Int32) (hia0_21l : 0 ≤ ia0_21.toInt) (hia0_21h : ia0_21.toInt ≤ 80) (ia0_22 : Int32) (hia0_22l : 0 ≤ ia0_22.toInt) (hia0_22h : ia0_22.toInt ≤ 40) (ia0_24 : Int32) (hia0_24l : 0 ≤ ia0_24.toInt) (hia0_24h : ia0_24.toInt ≤ 1) (ia0_25 : Int32) (hia0_25l : 0 ≤ ia0_25.toInt) (hia0_25h : ia0_25.toInt ≤ 1) (ia0_26 : Int32) (hia0_26l : 0 ≤ ia0_26.toInt) (hia0_26h : ia0_26.toInt ≤ 300) (ia0_27 : Int32) (hia0_27l : (-9) ≤ ia0_27.toInt) (hia0_27h : ia0_27.toInt ≤ 11) (ia0_28 : Int32) (ia0_30 : Int32) (hia0_30l : 0 ≤ ia0_30.toInt) (hia0_30h : ia0_30.toInt ≤ 60) (ia0_31 : Int32) (ia0_32 : Int32) (hia0_32l : 0 ≤ ia0_32.toInt) (hia0_32h : ia0_32.toInt ≤ 1) (ia0_36 : Int32) (hia0_36l : 0 ≤ ia0_36.toInt) (hia0_36h : ia0_36.toInt ≤ 12) (ia0_37 : Int32) (p1 : Int32) (hp1l : (-6) ≤ p1.toInt) (hp1h : p1.toInt ≤ (-1)) (sz : Nat) : Met l yX12_no vsX12_no ({ frames := 0, cells := 0, slots := 0, locals := 0 }) (va_Pc [.ref ha0, .int p1] (zB dC dI cI cQ [(ha0_0, .inl (cI, 7, .inl fa0_0)), (ha0, .inr (12, [.ref ha0_0, .ref ha0_1, .ref ha0_2, .ref ha0_3, .ref ha0_4, .ref ha0_5, .ref ha0_6, .ref ha0_7, .ref ha0_8, .int ia0_9, .int ia0_10, .int ia0_11, .int ia0_12, .int ia0_13, .int ia0_14, .int ia0_15, .ref ha0_16, .ref ha0_17, .ref ha0_18, .ref ha0_19, .int ia0_20, .int ia0_21, .int ia0_22, .ref ha0_23, .int ia0_24, .int ia0_25, .int ia0_26, .int ia0_27, .int ia0_28, .ref ha0_29, .int ia0_30, .int ia0_31, .int ia0_32, .ref ha0_33, .ref ha0_34, .ref ha0_35, .int ia0_36, .int ia0_37]))] sz)) (zWi dC dI (va_A [(ha0_0, .inl (cI, 7, .inl fa0_0)), (ha0, .inr (12, [.ref ha0_0, .ref ha0_1, .ref ha0_2, .ref ha0_3, .ref ha0_4, .ref ha0_5, .ref ha0_6, .ref ha0_7, .ref ha0_8, .int ia0_9, .int ia0_10, .int ia0_11, .int ia0_12, .int ia0_13, .int ia0_14, .int ia0_15, .ref ha0_16, .ref ha0_17, .ref ha0_18, .ref ha0_19, .int ia0_20, .int ia0_21, .int ia0_22, .ref ha0_23, .int ia0_24, .int ia0_25, .int ia0_26, .int ia0_27, .int ia0_28, .ref ha0_29, .int ia0_30, .int ia0_31, .int ia0_32, .ref ha0_33, .ref ha0_34, .ref ha0_35, .int ia0_36, .int ia0_37]))] sz) (fun u => [(ha0_0, .inl (cI, 7, .inl (u.2 0))), (ha0, .inr (12, [.ref ha0_0, .ref ha0_1, .ref ha0_2, .ref ha0_3, .ref ha0_4, .ref ha0_5, .ref ha0_6, .ref ha0_7, .ref ha0_8, .int ia0_9, .int ia0_10, .int ia0_11, .int ia0_12, .int ia0_13, .int ia0_14, .int ia0_15, .ref ha0_16, .ref ha0_17, .ref ha0_18, .ref ha0_19, .int ia0_20, .int ia0_21, .int ia0_22, .ref ha0_23, .int ia0_24, .int ia0_25, .int ia0_26, .int ia0_27, .int ia0_28, .ref ha0_29, .int ia0_30, .int ia0_31, .int ia0_32, .ref ha0_33, .ref ha0_34, .ref ha0_35, .int ia0_36, .int ia0_37]))]) (fun r u => ((-6) ≤ r.toInt ∧ r.toInt ≤ (-1)) ∧ (r.toInt = p1.toInt))) 0 0 (va_A [(ha0_0, .inl (cI, 7, .inl fa0_0)), (ha0, .inr (12, [.ref ha0_0, .ref ha0_1, .ref ha0_2, .ref ha0_3, .ref ha0_4, .ref ha0_5, .ref ha0_6, .ref ha0_7, .ref ha0_8, .int ia0_9, .int ia0_10, .int ia0_11, .int ia0_12, .int ia0_13, .int ia0_14, .int ia0_15, .ref ha0_16, .ref ha0_17, .ref ha0_18, .ref ha0_19, .int ia0_20, .int ia0_21, .int ia0_22, .ref ha0_23, .int ia0_24, .int ia0_25, .int ia0_26, .int ia0_27, .int ia0_28, .ref ha0_29, .int ia0_30, .int ia0_31, .int ia0_32, .ref ha0_33, .ref ha0_34, .ref ha0_35, .int ia0_36, .int ia0_37]))] sz) := by
  refine Met.ofW (cc := cX12_no) (maxL := 2) (ret := (some .int)) (by decide) rfl ?_
  intro p e s m args below meth c s₁ B hml hv
  obtain ⟨rfl, hsz, hP, hZ, hD0⟩ := hv
  obtain ⟨hK, hAO, hN⟩ := id hZ
  have hx := B.exec
  have hb := B.bytes
  have hr := B.returns
  have hts := atoms_spec (ws := vsX12_no) B.pre
  have hown : s.vm.findClass RX12 = some m.cls := findClass_of_methodNamed B.named
  have hlocks := B.notSynchronized
  have hlt0 : ((-9) : Int32).toInt = (-9) := by decide
  have hlt1 : ((-6) : Int32).toInt = (-6) := by decide
  have hlt2 : ((-4) : Int32).toInt = (-4) := by decide
  have hlt3 : ((-3) : Int32).toInt = (-3) := by decide
  have hlt4 : ((-2) : Int32).toInt = (-2) := by decide
  have hlt5 : ((-1) : Int32).toInt = (-1) := by decide
  have hlt6 : (0 : Int32).toInt = 0 := by decide
  have hlt7 : (1 : Int32).toInt = 1 := by decide
  subst hsz
  have hD := hD0.self (sz := s.heap.size)
  generalize hAe : va_A [(ha0_0, .inl (cI, 7, .inl fa0_0)), (ha0, .inr (12, [.ref ha0_0, .ref ha0_1, .ref ha0_2, .ref ha0_3, .ref ha0_4, .ref ha0_5, .ref ha0_6, .ref ha0_7, .ref ha0_8, .int ia0_9, .int ia0_10, .int ia0_11, .int ia0_12, .int ia0_13, .int ia0_14, .int ia0_15, .ref ha0_16, .ref ha0_17, .ref ha0_18, .ref ha0_19, .int ia0_20, .int ia0_21, .int ia0_22, .ref ha0_23, .int ia0_24, .int ia0_25, .int ia0_26, .int ia0_27, .int ia0_28, .ref ha0_29, .int ia0_30, .int ia0_31, .int ia0_32, .ref ha0_33, .ref ha0_34, .ref ha0_35, .int ia0_36, .int ia0_37]))] s.heap.size = A at hD ⊢
  have hA : ∀ q : Nat, s.heap.size ≤ q → A q := fun q h => by rw [← hAe]; exact Or.inr h
  have hS : va_S A s.heap s.heap [] := va_S.rf
  have hP : va_P (dC, dI) vwCl [(ha0_0, .inl (cI, 7, .inl fa0_0)), (ha0, .inr (12, [.ref ha0_0, .ref ha0_1, .ref ha0_2, .ref ha0_3, .ref ha0_4, .ref ha0_5, .ref ha0_6, .ref ha0_7, .ref ha0_8, .int ia0_9, .int ia0_10, .int ia0_11, .int ia0_12, .int ia0_13, .int ia0_14, .int ia0_15, .ref ha0_16, .ref ha0_17, .ref ha0_18, .ref ha0_19, .int ia0_20, .int ia0_21, .int ia0_22, .ref ha0_23, .int ia0_24, .int ia0_25, .int ia0_26, .int ia0_27, .int ia0_28, .ref ha0_29, .int ia0_30, .int ia0_31, .int ia0_32, .ref ha0_33, .ref ha0_34, .ref ha0_35, .int ia0_36, .int ia0_37]))] s.heap := hP
  have hl := lv_entry ([.ref ha0, .int p1]) (n := 2) (Nat.le_of_ble_eq_true rfl)
  rw [lg_entry_eq]
  generalize (lg_sl ([.ref ha0, .int p1]) ++ List.replicate (2 - (lg_sl ([.ref ha0, .int p1])).length) Slot.unset).toArray = ls at hl ⊢
  have hl : lv_has ls 2 [(0, .ref ha0), (1, .int p1)] := hl
  refine lv_aload_n hx hb dX12_no_0 rfl (lv_at hl 0 rfl) ?_
  refine va_get (D := (dC, dI)) (ci := 12) (v := .ref ha0_0) (C := RX12) (T := TX12) (N := 38) hx hb hts in_X12_no_X12 hown hK hP 1 rfl rfl 0 (by decide) (hts (.fieldLink RX12 7 "EachOnHisCueModel" "refused" "[I") (by decide +kernel)) (fun _ h9 => h9) rfl dX12_no_1 ?_
  refine lv_iload_n hx hb dX12_no_4 rfl (lv_at hl 1 rfl) ?_
  refine lv_ineg hx hb dX12_no_5 ?_
  refine lv_topi (fun y1 ey1 => ?_)
  have hy1 : y1.toInt = -p1.toInt := by rw [ey1]; exact z_neg rfl (by omega) (by omega)
  refine lv_dup2_11 hx hb dX12_no_6 rfl rfl ?_
  refine va_iald hx hb hK hP 0 0 rfl rfl (z_in (by omega) (by omega)) dX12_no_7 ?_
  refine lv_topi (fun y2 ey2 => ?_)
  have gy2 : y2.toInt = (fa0_0 (y1 : Int32).toNatClampNeg).toInt := by rw [ey2]
  refine lv_iconst (v := 1) hx hb dX12_no_8 (by decide) ?_
  refine lv_iadd hx hb dX12_no_9 ?_
  refine lv_topi (fun y3 ey3 => ?_)
  refine va_iast hx hb hK hP hD hS 0 0 rfl rfl (z_in (by omega) (by omega)) dX12_no_10 (fun H locs hP hD hS => ?_)
  generalize ef4 : upd fa0_0 (y1 : Int32).toNatClampNeg y3 = f4 at hP hD
  have hP : va_P (dC, dI) vwCl [(ha0_0, .inl (cI, 7, .inl f4)), (ha0, .inr (12, [.ref ha0_0, .ref ha0_1, .ref ha0_2, .ref ha0_3, .ref ha0_4, .ref ha0_5, .ref ha0_6, .ref ha0_7, .ref ha0_8, .int ia0_9, .int ia0_10, .int ia0_11, .int ia0_12, .int ia0_13, .int ia0_14, .int ia0_15, .ref ha0_16, .ref ha0_17, .ref ha0_18, .ref ha0_19, .int ia0_20, .int ia0_21, .int ia0_22, .ref ha0_23, .int ia0_24, .int ia0_25, .int ia0_26, .int ia0_27, .int ia0_28, .ref ha0_29, .int ia0_30, .int ia0_31, .int ia0_32, .ref ha0_33, .ref ha0_34, .ref ha0_35, .int ia0_36, .int ia0_37]))] H := hP
  have hD : va_D A [(ha0_0, .inl (cI, 7, .inl f4)), (ha0, .inr (12, [.ref ha0_0, .ref ha0_1, .ref ha0_2, .ref ha0_3, .ref ha0_4, .ref ha0_5, .ref ha0_6, .ref ha0_7, .ref ha0_8, .int ia0_9, .int ia0_10, .int ia0_11, .int ia0_12, .int ia0_13, .int ia0_14, .int ia0_15, .ref ha0_16, .ref ha0_17, .ref ha0_18, .ref ha0_19, .int ia0_20, .int ia0_21, .int ia0_22, .ref ha0_23, .int ia0_24, .int ia0_25, .int ia0_26, .int ia0_27, .int ia0_28, .ref ha0_29, .int ia0_30, .int ia0_31, .int ia0_32, .ref ha0_33, .ref ha0_34, .ref ha0_35, .int ia0_36, .int ia0_37]))] := hD
  refine lv_iload_n hx hb dX12_no_11 rfl (lv_at hl 1 rfl) ?_
  have hP9 := hP.sub (ws' := [(ha0_0, .inl (cI, 7, .inl f4)), (ha0, .inr (12, [.ref ha0_0, .ref ha0_1, .ref ha0_2, .ref ha0_3, .ref ha0_4, .ref ha0_5, .ref ha0_6, .ref ha0_7, .ref ha0_8, .int ia0_9, .int ia0_10, .int ia0_11, .int ia0_12, .int ia0_13, .int ia0_14, .int ia0_15, .ref ha0_16, .ref ha0_17, .ref ha0_18, .ref ha0_19, .int ia0_20, .int ia0_21, .int ia0_22, .ref ha0_23, .int ia0_24, .int ia0_25, .int ia0_26, .int ia0_27, .int ia0_28, .ref ha0_29, .int ia0_30, .int ia0_31, .int ia0_32, .ref ha0_33, .ref ha0_34, .ref ha0_35, .int ia0_36, .int ia0_37]))]) [0, 1] rfl
  have hD9 := hD.sub (ws' := [(ha0_0, .inl (cI, 7, .inl f4)), (ha0, .inr (12, [.ref ha0_0, .ref ha0_1, .ref ha0_2, .ref ha0_3, .ref ha0_4, .ref ha0_5, .ref ha0_6, .ref ha0_7, .ref ha0_8, .int ia0_9, .int ia0_10, .int ia0_11, .int ia0_12, .int ia0_13, .int ia0_14, .int ia0_15, .ref ha0_16, .ref ha0_17, .ref ha0_18, .ref ha0_19, .int ia0_20, .int ia0_21, .int ia0_22, .ref ha0_23, .int ia0_24, .int ia0_25, .int ia0_26, .int ia0_27, .int ia0_28, .ref ha0_29, .int ia0_30, .int ia0_31, .int ia0_32, .ref ha0_33, .ref ha0_34, .ref ha0_35, .int ia0_36, .int ia0_37]))]) [0, 1] (by decide) rfl
  have hpo : ((p1 : Int32).toInt = p1.toInt) := by first | omega | decide | (simp; omega)
  exact W.iret (v := p1) hx hb hr (fun t ht hW => ⟨⟨p1, (fun k => [].getD k 0, fun k => [f4].getD k (fun _ => 0)), rfl, (show ((-6) ≤ (p1 : Int32).toInt ∧ (p1 : Int32).toInt ≤ (-1)) ∧ (((p1 : Int32).toInt = p1.toInt)) from ⟨⟨by first | omega | decide | exact z_lo _, by first | omega | decide | exact z_hi _⟩, hpo⟩), by rw [ht]; exact hP9, hD9⟩, hS.F ht⟩) hS.2.2 dX12_no_12
set_option maxHeartbeats 4000000 in
set_option maxRecDepth 100000 in
theorem wX12_feed_F (l : Launch) (dC : Nat → ClassId) (dI : Nat → Nat → Nat) (cI cQ : ClassId) (ha0 ha0_0 ha0_16 ha0_1 ha0_2 ha0_3 ha0_4 ha0_5 ha0_6 ha0_7 ha0_8 ha0_17 ha0_18 ha0_19 ha0_23 ha0_29 ha0_33 ha0_34 ha0_35 : Nat) (fa0_0 : Nat → Int32) (fa0_16 : Nat → Int32) (hBfa0_16 : ∀ k, 0 ≤ (fa0_16 k).toInt ∧ (fa0_16 k).toInt ≤ 255) (ia0_9 : Int32) (hia0_9l : 0 ≤ ia0_9.toInt) (hia0_9h : ia0_9.toInt ≤ 5) (ia0_10 : Int32) (hia0_10l : 0 ≤ ia0_10.toInt) (hia0_10h : ia0_10.toInt ≤ 12) (ia0_11 : Int32) (ia0_12 : Int32) (ia0_13 : Int32) (ia0_14 : Int32) (hia0_14l : (-9) ≤ ia0_14.toInt) (hia0_14h : ia0_14.toInt ≤ 11) (ia0_15 : Int32) (ia0_20 : Int32) (hia0_20l : 0 ≤ ia0_20.toInt) (hia0_20h : ia0_20.toInt ≤ 80) (ia0_21 : Int32) (hia0_21l : 0 ≤ ia0_21.toInt) (hia0_21h : ia0_21.toInt ≤ 80) (ia0_22 : Int32) (hia0_22l : 0 ≤ ia0_22.toInt) (hia0_22h : ia0_22.toInt ≤ 40) (ia0_24 : Int32) (hia0_24l : 0 ≤ ia0_24.toInt) (hia0_24h : ia0_24.toInt ≤ 1) (ia0_25 : Int32) (hia0_25l : 0 ≤ ia0_25.toInt) (hia0_25h : ia0_25.toInt ≤ 1) (ia0_26 : Int32) (hia0_26l : 0 ≤ ia0_26.toInt) (hia0_26h : ia0_26.toInt ≤ 300) (ia0_27 : Int32) (hia0_27l : (-9) ≤ ia0_27.toInt) (hia0_27h : ia0_27.toInt ≤ 11) (ia0_28 : Int32) (ia0_30 : Int32) (hia0_30l : 0 ≤ ia0_30.toInt) (hia0_30h : ia0_30.toInt ≤ 60) (ia0_31 : Int32) (ia0_32 : Int32) (hia0_32l : 0 ≤ ia0_32.toInt) (hia0_32h : ia0_32.toInt ≤ 1) (ia0_36 : Int32) (hia0_36l : 0 ≤ ia0_36.toInt) (hia0_36h : ia0_36.toInt ≤ 12) (ia0_37 : Int32) (p1 : Int32) (sz : Nat) : Met l yX12_feed vsX12_feed ({ frames := 1, cells := 0, slots := 0, locals := 22 }) (va_Pc [.ref ha0, .int p1] (zB dC dI cI cQ [(ha0_0, .inl (cI, 7, .inl fa0_0)), (ha0_16, .inl (cI, 80, .inl fa0_16)), (ha0, .inr (12, [.ref ha0_0, .ref ha0_1, .ref ha0_2, .ref ha0_3, .ref ha0_4, .ref ha0_5, .ref ha0_6, .ref ha0_7, .ref ha0_8, .int ia0_9, .int ia0_10, .int ia0_11, .int ia0_12, .int ia0_13, .int ia0_14, .int ia0_15, .ref ha0_16, .ref ha0_17, .ref ha0_18, .ref ha0_19, .int ia0_20, .int ia0_21, .int ia0_22, .ref ha0_23, .int ia0_24, .int ia0_25, .int ia0_26, .int ia0_27, .int ia0_28, .ref ha0_29, .int ia0_30, .int ia0_31, .int ia0_32, .ref ha0_33, .ref ha0_34, .ref ha0_35, .int ia0_36, .int ia0_37]))] sz)) (zWi dC dI (va_A [(ha0_0, .inl (cI, 7, .inl fa0_0)), (ha0_16, .inl (cI, 80, .inl fa0_16)), (ha0, .inr (12, [.ref ha0_0, .ref ha0_1, .ref ha0_2, .ref ha0_3, .ref ha0_4, .ref ha0_5, .ref ha0_6, .ref ha0_7, .ref ha0_8, .int ia0_9, .int ia0_10, .int ia0_11, .int ia0_12, .int ia0_13, .int ia0_14, .int ia0_15, .ref ha0_16, .ref ha0_17, .ref ha0_18, .ref ha0_19, .int ia0_20, .int ia0_21, .int ia0_22, .ref ha0_23, .int ia0_24, .int ia0_25, .int ia0_26, .int ia0_27, .int ia0_28, .ref ha0_29, .int ia0_30, .int ia0_31, .int ia0_32, .ref ha0_33, .ref ha0_34, .ref ha0_35, .int ia0_36, .int ia0_37]))] sz) (fun u => [(ha0_0, .inl (cI, 7, .inl (u.2 0))), (ha0_16, .inl (cI, 80, .inl (u.2 1))), (ha0, .inr (12, [.ref ha0_0, .ref ha0_1, .ref ha0_2, .ref ha0_3, .ref ha0_4, .ref ha0_5, .ref ha0_6, .ref ha0_7, .ref ha0_8, .int ia0_9, .int ia0_10, .int ia0_11, .int ia0_12, .int ia0_13, .int ia0_14, .int ia0_15, .ref ha0_16, .ref ha0_17, .ref ha0_18, .ref ha0_19, .int (u.1 0), .int ia0_21, .int ia0_22, .ref ha0_23, .int ia0_24, .int ia0_25, .int ia0_26, .int ia0_27, .int ia0_28, .ref ha0_29, .int ia0_30, .int ia0_31, .int ia0_32, .ref ha0_33, .ref ha0_34, .ref ha0_35, .int ia0_36, .int ia0_37]))]) (fun r u => (∀ k, 0 ≤ ((u.2 1) k).toInt ∧ ((u.2 1) k).toInt ≤ 255) ∧ (0 ≤ (u.1 0).toInt ∧ (u.1 0).toInt ≤ 80) ∧ ((-6) ≤ r.toInt ∧ r.toInt ≤ 80) ∧ ((p1.toInt < 0 ∧ r.toInt = -4 ∧ (u.1 0).toInt = ia0_20.toInt) ∨ (0 ≤ p1.toInt ∧ (255 < p1.toInt ∨ ia0_20.toInt = 80) ∧ r.toInt = -6 ∧ (u.1 0).toInt = ia0_20.toInt) ∨ (0 ≤ p1.toInt ∧ p1.toInt ≤ 255 ∧ ia0_20.toInt < 80 ∧ r.toInt = ia0_20.toInt + 1 ∧ (u.1 0).toInt = ia0_20.toInt + 1)))) 0 0 (va_A [(ha0_0, .inl (cI, 7, .inl fa0_0)), (ha0_16, .inl (cI, 80, .inl fa0_16)), (ha0, .inr (12, [.ref ha0_0, .ref ha0_1, .ref ha0_2, .ref ha0_3, .ref ha0_4, .ref ha0_5, .ref ha0_6, .ref ha0_7, .ref ha0_8, .int ia0_9, .int ia0_10, .int ia0_11, .int ia0_12, .int ia0_13, .int ia0_14, .int ia0_15, .ref ha0_16, .ref ha0_17, .ref ha0_18, .ref ha0_19, .int ia0_20, .int ia0_21, .int ia0_22, .ref ha0_23, .int ia0_24, .int ia0_25, .int ia0_26, .int ia0_27, .int ia0_28, .ref ha0_29, .int ia0_30, .int ia0_31, .int ia0_32, .ref ha0_33, .ref ha0_34, .ref ha0_35, .int ia0_36, .int ia0_37]))] sz) := by
  refine Met.ofW (cc := cX12_feed) (maxL := 3) (ret := (some .int)) (by decide) rfl ?_
  intro p e s m args below meth c s₁ B hml hv
  obtain ⟨rfl, hsz, hP, hZ, hD0⟩ := hv
  obtain ⟨hK, hAO, hN⟩ := id hZ
  have hx := B.exec
  have hb := B.bytes
  have hr := B.returns
  have hts := atoms_spec (ws := vsX12_feed) B.pre
  have hown : s.vm.findClass RX12 = some m.cls := findClass_of_methodNamed B.named
  have hlocks := B.notSynchronized
  have hlt0 : ((-9) : Int32).toInt = (-9) := by decide
  have hlt1 : ((-6) : Int32).toInt = (-6) := by decide
  have hlt2 : ((-4) : Int32).toInt = (-4) := by decide
  have hlt3 : ((-3) : Int32).toInt = (-3) := by decide
  have hlt4 : ((-2) : Int32).toInt = (-2) := by decide
  have hlt5 : ((-1) : Int32).toInt = (-1) := by decide
  have hlt6 : (0 : Int32).toInt = 0 := by decide
  have hlt7 : (1 : Int32).toInt = 1 := by decide
  subst hsz
  have hD := hD0.self (sz := s.heap.size)
  generalize hAe : va_A [(ha0_0, .inl (cI, 7, .inl fa0_0)), (ha0_16, .inl (cI, 80, .inl fa0_16)), (ha0, .inr (12, [.ref ha0_0, .ref ha0_1, .ref ha0_2, .ref ha0_3, .ref ha0_4, .ref ha0_5, .ref ha0_6, .ref ha0_7, .ref ha0_8, .int ia0_9, .int ia0_10, .int ia0_11, .int ia0_12, .int ia0_13, .int ia0_14, .int ia0_15, .ref ha0_16, .ref ha0_17, .ref ha0_18, .ref ha0_19, .int ia0_20, .int ia0_21, .int ia0_22, .ref ha0_23, .int ia0_24, .int ia0_25, .int ia0_26, .int ia0_27, .int ia0_28, .ref ha0_29, .int ia0_30, .int ia0_31, .int ia0_32, .ref ha0_33, .ref ha0_34, .ref ha0_35, .int ia0_36, .int ia0_37]))] s.heap.size = A at hD ⊢
  have hA : ∀ q : Nat, s.heap.size ≤ q → A q := fun q h => by rw [← hAe]; exact Or.inr h
  have hS : va_S A s.heap s.heap [] := va_S.rf
  have hP : va_P (dC, dI) vwCl [(ha0_0, .inl (cI, 7, .inl fa0_0)), (ha0_16, .inl (cI, 80, .inl fa0_16)), (ha0, .inr (12, [.ref ha0_0, .ref ha0_1, .ref ha0_2, .ref ha0_3, .ref ha0_4, .ref ha0_5, .ref ha0_6, .ref ha0_7, .ref ha0_8, .int ia0_9, .int ia0_10, .int ia0_11, .int ia0_12, .int ia0_13, .int ia0_14, .int ia0_15, .ref ha0_16, .ref ha0_17, .ref ha0_18, .ref ha0_19, .int ia0_20, .int ia0_21, .int ia0_22, .ref ha0_23, .int ia0_24, .int ia0_25, .int ia0_26, .int ia0_27, .int ia0_28, .ref ha0_29, .int ia0_30, .int ia0_31, .int ia0_32, .ref ha0_33, .ref ha0_34, .ref ha0_35, .int ia0_36, .int ia0_37]))] s.heap := hP
  have hp1l := z_lo p1
  have hp1h := z_hi p1
  have hl := lv_entry ([.ref ha0, .int p1]) (n := 3) (Nat.le_of_ble_eq_true rfl)
  rw [lg_entry_eq]
  generalize (lg_sl ([.ref ha0, .int p1]) ++ List.replicate (3 - (lg_sl ([.ref ha0, .int p1])).length) Slot.unset).toArray = ls at hl ⊢
  have hl : lv_has ls 3 [(0, .ref ha0), (1, .int p1)] := hl
  refine lv_iload_n hx hb dX12_feed_0 rfl (lv_at hl 1 rfl) ?_
  refine lv_iconst (v := 0) hx hb dX12_feed_1 (by decide) ?_
  refine lv_sipush (v := 255) hx hb dX12_feed_2 (by decide) ?_
  refine z_rdi (va_runS (As := [.int p1, .int 0, .int 255]) (rest := []) ⟨hx, hb, hml, hown, hts⟩ (rX12_bound_F l dC dI cI cQ p1 0 255) (va_cwS 3 hts gv_X12_feed_X12_bound_82 rfl rfl rfl (by decide +kernel) ⟨Nat.le_of_ble_eq_true rfl, Nat.le_of_ble_eq_true rfl⟩) ⟨z_blindR, z_preR hZ hP [] rfl⟩ rfl rfl hl.1 rfl (lv_room (Nat.le_of_ble_eq_true rfl)) dX12_feed_5 ⟨Nat.le_of_ble_eq_true rfl, Nat.le_of_ble_eq_true rfl⟩) (fun y1 hy1 => ?_)
  obtain ⟨hy1_0, hy1_1, hy1_2⟩ := hy1
  try simp only [show (0 : Int32).toInt = 0 from by decide, show (255 : Int32).toInt = 255 from by decide] at hy1_2
  refine lv_istore_n (lv' := [(2, .int y1), (0, .ref ha0), (1, .int p1)]) hx hb dX12_feed_8 rfl hl (by decide) rfl (fun ls hl => ?_)
  refine lv_iload_n hx hb dX12_feed_9 rfl (lv_at hl 0 rfl) ?_
  refine lv_if_ne (tgt := 25) hx hb dX12_feed_10 (by decide) (fun hc => ?_) (fun hc => ?_)
  · have q2 : y1.toInt ≠ 0 := z_ne rfl (by decide) hc
    refine lv_iload_n hx hb dX12_feed_25 rfl (lv_at hl 0 rfl) ?_
    refine lv_if_eq (tgt := 35) hx hb dX12_feed_26 (by decide) (fun hc => ?_) (fun hc => ?_)
    · have q3 : y1.toInt = 0 := z_eq rfl (by decide) hc
      exfalso; omega
    · have q4 : y1.toInt ≠ 0 := z_ne rfl (by decide) hc
      refine lv_aload_n hx hb dX12_feed_29 rfl (lv_at hl 1 rfl) ?_
      refine lv_iload_n hx hb dX12_feed_30 rfl (lv_at hl 0 rfl) ?_
      refine z_cwi (wc := [(ha0_0, .inl (cI, 7, .inl fa0_0)), (ha0, .inr (12, [.ref ha0_0, .ref ha0_1, .ref ha0_2, .ref ha0_3, .ref ha0_4, .ref ha0_5, .ref ha0_6, .ref ha0_7, .ref ha0_8, .int ia0_9, .int ia0_10, .int ia0_11, .int ia0_12, .int ia0_13, .int ia0_14, .int ia0_15, .ref ha0_16, .ref ha0_17, .ref ha0_18, .ref ha0_19, .int ia0_20, .int ia0_21, .int ia0_22, .ref ha0_23, .int ia0_24, .int ia0_25, .int ia0_26, .int ia0_27, .int ia0_28, .ref ha0_29, .int ia0_30, .int ia0_31, .int ia0_32, .ref ha0_33, .ref ha0_34, .ref ha0_35, .int ia0_36, .int ia0_37]))]) (wr := [(ha0_16, .inl (cI, 80, .inl fa0_16))]) (w1 := fun u6 => [(ha0_0, .inl (cI, 7, .inl (u6.2 0))), (ha0, .inr (12, [.ref ha0_0, .ref ha0_1, .ref ha0_2, .ref ha0_3, .ref ha0_4, .ref ha0_5, .ref ha0_6, .ref ha0_7, .ref ha0_8, .int ia0_9, .int ia0_10, .int ia0_11, .int ia0_12, .int ia0_13, .int ia0_14, .int ia0_15, .ref ha0_16, .ref ha0_17, .ref ha0_18, .ref ha0_19, .int ia0_20, .int ia0_21, .int ia0_22, .ref ha0_23, .int ia0_24, .int ia0_25, .int ia0_26, .int ia0_27, .int ia0_28, .ref ha0_29, .int ia0_30, .int ia0_31, .int ia0_32, .ref ha0_33, .ref ha0_34, .ref ha0_35, .int ia0_36, .int ia0_37]))]) (va_runV (As := [.int y1]) (rest := []) ⟨hx, hb, hml, hown, hts⟩ (wX12_no_F l dC dI cI cQ ha0 ha0_0 ha0_1 ha0_2 ha0_3 ha0_4 ha0_5 ha0_6 ha0_7 ha0_8 ha0_16 ha0_17 ha0_18 ha0_19 ha0_23 ha0_29 ha0_33 ha0_34 ha0_35 fa0_0 ia0_9 (by first | omega | decide | exact z_lo _ | exact z_hi _) (by first | omega | decide | exact z_lo _ | exact z_hi _) ia0_10 (by first | omega | decide | exact z_lo _ | exact z_hi _) (by first | omega | decide | exact z_lo _ | exact z_hi _) ia0_11 ia0_12 ia0_13 ia0_14 (by first | omega | decide | exact z_lo _ | exact z_hi _) (by first | omega | decide | exact z_lo _ | exact z_hi _) ia0_15 ia0_20 (by first | omega | decide | exact z_lo _ | exact z_hi _) (by first | omega | decide | exact z_lo _ | exact z_hi _) ia0_21 (by first | omega | decide | exact z_lo _ | exact z_hi _) (by first | omega | decide | exact z_lo _ | exact z_hi _) ia0_22 (by first | omega | decide | exact z_lo _ | exact z_hi _) (by first | omega | decide | exact z_lo _ | exact z_hi _) ia0_24 (by first | omega | decide | exact z_lo _ | exact z_hi _) (by first | omega | decide | exact z_lo _ | exact z_hi _) ia0_25 (by first | omega | decide | exact z_lo _ | exact z_hi _) (by first | omega | decide | exact z_lo _ | exact z_hi _) ia0_26 (by first | omega | decide | exact z_lo _ | exact z_hi _) (by first | omega | decide | exact z_lo _ | exact z_hi _) ia0_27 (by first | omega | decide | exact z_lo _ | exact z_hi _) (by first | omega | decide | exact z_lo _ | exact z_hi _) ia0_28 ia0_30 (by first | omega | decide | exact z_lo _ | exact z_hi _) (by first | omega | decide | exact z_lo _ | exact z_hi _) ia0_31 ia0_32 (by first | omega | decide | exact z_lo _ | exact z_hi _) (by first | omega | decide | exact z_lo _ | exact z_hi _) ia0_36 (by first | omega | decide | exact z_lo _ | exact z_hi _) (by first | omega | decide | exact z_lo _ | exact z_hi _) ia0_37 y1 (by first | omega | decide | exact z_lo _ | exact z_hi _) (by first | omega | decide | exact z_lo _ | exact z_hi _) s.heap.size) (cwV 1 hts gv_X12_feed_X12_no_89 rfl rfl rfl (by decide +kernel) ⟨Nat.le_of_ble_eq_true rfl, Nat.le_of_ble_eq_true rfl⟩) ⟨z_blind, va_recv hK hP (ci := 12) (q0 := 2) rfl rfl, z_pre hZ hP hD [0, 2] rfl (by decide)⟩ rfl rfl hl.1 rfl (lv_room (Nat.le_of_ble_eq_true rfl)) dX12_feed_31 ⟨Nat.le_of_ble_eq_true rfl, Nat.le_of_ble_eq_true rfl⟩) hP hD hS hA [0, 2] [1] rfl rfl (by decide) (by decide) (fun y5 u6 H locs hpo hP hD hS => ?_)
      generalize hgf7 : u6.2 0 = f7 at hP hD hpo
      have hP : va_P (dC, dI) vwCl [(ha0_16, .inl (cI, 80, .inl fa0_16)), (ha0_0, .inl (cI, 7, .inl f7)), (ha0, .inr (12, [.ref ha0_0, .ref ha0_1, .ref ha0_2, .ref ha0_3, .ref ha0_4, .ref ha0_5, .ref ha0_6, .ref ha0_7, .ref ha0_8, .int ia0_9, .int ia0_10, .int ia0_11, .int ia0_12, .int ia0_13, .int ia0_14, .int ia0_15, .ref ha0_16, .ref ha0_17, .ref ha0_18, .ref ha0_19, .int ia0_20, .int ia0_21, .int ia0_22, .ref ha0_23, .int ia0_24, .int ia0_25, .int ia0_26, .int ia0_27, .int ia0_28, .ref ha0_29, .int ia0_30, .int ia0_31, .int ia0_32, .ref ha0_33, .ref ha0_34, .ref ha0_35, .int ia0_36, .int ia0_37]))] H := hP
      have hD : va_D A [(ha0_16, .inl (cI, 80, .inl fa0_16)), (ha0_0, .inl (cI, 7, .inl f7)), (ha0, .inr (12, [.ref ha0_0, .ref ha0_1, .ref ha0_2, .ref ha0_3, .ref ha0_4, .ref ha0_5, .ref ha0_6, .ref ha0_7, .ref ha0_8, .int ia0_9, .int ia0_10, .int ia0_11, .int ia0_12, .int ia0_13, .int ia0_14, .int ia0_15, .ref ha0_16, .ref ha0_17, .ref ha0_18, .ref ha0_19, .int ia0_20, .int ia0_21, .int ia0_22, .ref ha0_23, .int ia0_24, .int ia0_25, .int ia0_26, .int ia0_27, .int ia0_28, .ref ha0_29, .int ia0_30, .int ia0_31, .int ia0_32, .ref ha0_33, .ref ha0_34, .ref ha0_35, .int ia0_36, .int ia0_37]))] := hD
      obtain ⟨hy5r, hy5po⟩ := hpo
      obtain ⟨hy5l, hy5h⟩ := hy5r
      have hP9 := hP.sub (ws' := [(ha0_0, .inl (cI, 7, .inl f7)), (ha0_16, .inl (cI, 80, .inl fa0_16)), (ha0, .inr (12, [.ref ha0_0, .ref ha0_1, .ref ha0_2, .ref ha0_3, .ref ha0_4, .ref ha0_5, .ref ha0_6, .ref ha0_7, .ref ha0_8, .int ia0_9, .int ia0_10, .int ia0_11, .int ia0_12, .int ia0_13, .int ia0_14, .int ia0_15, .ref ha0_16, .ref ha0_17, .ref ha0_18, .ref ha0_19, .int ia0_20, .int ia0_21, .int ia0_22, .ref ha0_23, .int ia0_24, .int ia0_25, .int ia0_26, .int ia0_27, .int ia0_28, .ref ha0_29, .int ia0_30, .int ia0_31, .int ia0_32, .ref ha0_33, .ref ha0_34, .ref ha0_35, .int ia0_36, .int ia0_37]))]) [1, 0, 2] rfl
      have hD9 := hD.sub (ws' := [(ha0_0, .inl (cI, 7, .inl f7)), (ha0_16, .inl (cI, 80, .inl fa0_16)), (ha0, .inr (12, [.ref ha0_0, .ref ha0_1, .ref ha0_2, .ref ha0_3, .ref ha0_4, .ref ha0_5, .ref ha0_6, .ref ha0_7, .ref ha0_8, .int ia0_9, .int ia0_10, .int ia0_11, .int ia0_12, .int ia0_13, .int ia0_14, .int ia0_15, .ref ha0_16, .ref ha0_17, .ref ha0_18, .ref ha0_19, .int ia0_20, .int ia0_21, .int ia0_22, .ref ha0_23, .int ia0_24, .int ia0_25, .int ia0_26, .int ia0_27, .int ia0_28, .ref ha0_29, .int ia0_30, .int ia0_31, .int ia0_32, .ref ha0_33, .ref ha0_34, .ref ha0_35, .int ia0_36, .int ia0_37]))]) [1, 0, 2] (by decide) rfl
      have hpo : ((p1.toInt < 0 ∧ (y5 : Int32).toInt = -4 ∧ (ia0_20 : Int32).toInt = ia0_20.toInt) ∨ (0 ≤ p1.toInt ∧ (255 < p1.toInt ∨ ia0_20.toInt = 80) ∧ (y5 : Int32).toInt = -6 ∧ (ia0_20 : Int32).toInt = ia0_20.toInt) ∨ (0 ≤ p1.toInt ∧ p1.toInt ≤ 255 ∧ ia0_20.toInt < 80 ∧ (y5 : Int32).toInt = ia0_20.toInt + 1 ∧ (ia0_20 : Int32).toInt = ia0_20.toInt + 1)) := by first | omega | decide | (simp; omega)
      exact W.iret (v := y5) hx hb hr (fun t ht hW => ⟨⟨y5, (fun k => [ia0_20].getD k 0, fun k => [f7, fa0_16].getD k (fun _ => 0)), rfl, (show (∀ k, 0 ≤ (fa0_16 k).toInt ∧ (fa0_16 k).toInt ≤ 255) ∧ (0 ≤ (ia0_20 : Int32).toInt ∧ (ia0_20 : Int32).toInt ≤ 80) ∧ ((-6) ≤ (y5 : Int32).toInt ∧ (y5 : Int32).toInt ≤ 80) ∧ (((p1.toInt < 0 ∧ (y5 : Int32).toInt = -4 ∧ (ia0_20 : Int32).toInt = ia0_20.toInt) ∨ (0 ≤ p1.toInt ∧ (255 < p1.toInt ∨ ia0_20.toInt = 80) ∧ (y5 : Int32).toInt = -6 ∧ (ia0_20 : Int32).toInt = ia0_20.toInt) ∨ (0 ≤ p1.toInt ∧ p1.toInt ≤ 255 ∧ ia0_20.toInt < 80 ∧ (y5 : Int32).toInt = ia0_20.toInt + 1 ∧ (ia0_20 : Int32).toInt = ia0_20.toInt + 1))) from ⟨hBfa0_16, ⟨by first | omega | decide | exact z_lo _, by first | omega | decide | exact z_hi _⟩, ⟨by first | omega | decide | exact z_lo _, by first | omega | decide | exact z_hi _⟩, hpo⟩), by rw [ht]; exact hP9, hD9⟩, hS.F ht⟩) hS.2.2 dX12_feed_34
  · have q8 : y1.toInt = 0 := z_eq rfl (by decide) hc
    refine lv_aload_n hx hb dX12_feed_13 rfl (lv_at hl 1 rfl) ?_
    refine va_get (D := (dC, dI)) (ci := 12) (v := .int ia0_20) (C := RX12) (T := TX12) (N := 38) hx hb hts in_X12_feed_X12 hown hK hP 2 rfl rfl 20 (by decide) (hts (.fieldLink RX12 86 "EachOnHisCueModel" "taped" "I") (by decide +kernel)) (fun _ h9 => h9) rfl dX12_feed_14 ?_
    refine lv_bipush (v := 80) hx hb dX12_feed_17 (by decide) ?_
    refine lv_icmp_ne (tgt := 25) hx hb dX12_feed_19 (by decide) (fun hc => ?_) (fun hc => ?_)
    · have q9 : ia0_20.toInt ≠ 80 := z_ne rfl (by decide) hc
      refine lv_iload_n hx hb dX12_feed_25 rfl (lv_at hl 0 rfl) ?_
      refine lv_if_eq (tgt := 35) hx hb dX12_feed_26 (by decide) (fun hc => ?_) (fun hc => ?_)
      · have q10 : y1.toInt = 0 := z_eq rfl (by decide) hc
        refine lv_aload_n hx hb dX12_feed_35 rfl (lv_at hl 1 rfl) ?_
        refine va_get (D := (dC, dI)) (ci := 12) (v := .ref ha0_16) (C := RX12) (T := TX12) (N := 38) hx hb hts in_X12_feed_X12 hown hK hP 2 rfl rfl 16 (by decide) (hts (.fieldLink RX12 44 "EachOnHisCueModel" "tape" "[I") (by decide +kernel)) (fun _ h9 => h9) rfl dX12_feed_36 ?_
        refine lv_aload_n hx hb dX12_feed_39 rfl (lv_at hl 1 rfl) ?_
        refine va_get (D := (dC, dI)) (ci := 12) (v := .int ia0_20) (C := RX12) (T := TX12) (N := 38) hx hb hts in_X12_feed_X12 hown hK hP 2 rfl rfl 20 (by decide) (hts (.fieldLink RX12 86 "EachOnHisCueModel" "taped" "I") (by decide +kernel)) (fun _ h9 => h9) rfl dX12_feed_40 ?_
        refine lv_iload_n hx hb dX12_feed_43 rfl (lv_at hl 2 rfl) ?_
        refine va_iast hx hb hK hP hD hS 1 0 rfl rfl (z_in (by omega) (by omega)) dX12_feed_44 (fun H locs hP hD hS => ?_)
        generalize ef11 : upd fa0_16 (ia0_20 : Int32).toNatClampNeg p1 = f11 at hP hD
        have hBf11 : ∀ k, 0 ≤ (f11 k).toInt ∧ (f11 k).toInt ≤ 255 := by rw [← ef11]; exact z_updB hBfa0_16 (by first | omega | decide) (by first | omega | decide)
        have hP : va_P (dC, dI) vwCl [(ha0_0, .inl (cI, 7, .inl fa0_0)), (ha0_16, .inl (cI, 80, .inl f11)), (ha0, .inr (12, [.ref ha0_0, .ref ha0_1, .ref ha0_2, .ref ha0_3, .ref ha0_4, .ref ha0_5, .ref ha0_6, .ref ha0_7, .ref ha0_8, .int ia0_9, .int ia0_10, .int ia0_11, .int ia0_12, .int ia0_13, .int ia0_14, .int ia0_15, .ref ha0_16, .ref ha0_17, .ref ha0_18, .ref ha0_19, .int ia0_20, .int ia0_21, .int ia0_22, .ref ha0_23, .int ia0_24, .int ia0_25, .int ia0_26, .int ia0_27, .int ia0_28, .ref ha0_29, .int ia0_30, .int ia0_31, .int ia0_32, .ref ha0_33, .ref ha0_34, .ref ha0_35, .int ia0_36, .int ia0_37]))] H := hP
        have hD : va_D A [(ha0_0, .inl (cI, 7, .inl fa0_0)), (ha0_16, .inl (cI, 80, .inl f11)), (ha0, .inr (12, [.ref ha0_0, .ref ha0_1, .ref ha0_2, .ref ha0_3, .ref ha0_4, .ref ha0_5, .ref ha0_6, .ref ha0_7, .ref ha0_8, .int ia0_9, .int ia0_10, .int ia0_11, .int ia0_12, .int ia0_13, .int ia0_14, .int ia0_15, .ref ha0_16, .ref ha0_17, .ref ha0_18, .ref ha0_19, .int ia0_20, .int ia0_21, .int ia0_22, .ref ha0_23, .int ia0_24, .int ia0_25, .int ia0_26, .int ia0_27, .int ia0_28, .ref ha0_29, .int ia0_30, .int ia0_31, .int ia0_32, .ref ha0_33, .ref ha0_34, .ref ha0_35, .int ia0_36, .int ia0_37]))] := hD
        refine lv_aload_n hx hb dX12_feed_45 rfl (lv_at hl 1 rfl) ?_
        refine lv_dup hx hb dX12_feed_46 rfl ?_
        refine va_get (D := (dC, dI)) (ci := 12) (v := .int ia0_20) (C := RX12) (T := TX12) (N := 38) hx hb hts in_X12_feed_X12 hown hK hP 2 rfl rfl 20 (by decide) (hts (.fieldLink RX12 86 "EachOnHisCueModel" "taped" "I") (by decide +kernel)) (fun _ h9 => h9) rfl dX12_feed_47 ?_
        refine lv_iconst (v := 1) hx hb dX12_feed_50 (by decide) ?_
        refine lv_iadd hx hb dX12_feed_51 ?_
        refine lv_topi (fun y12 ey12 => ?_)
        have hy12 : y12.toInt = ia0_20.toInt + 1 := by rw [ey12]; exact z_add rfl (by decide) (by omega) (by omega)
        refine va_put (D := (dC, dI)) (ci := 12) (v := .int y12) (ty := .int) (C := RX12) (T := TX12) (N := 38) hx hb hts in_X12_feed_X12 tyX12 tyX12_ok nmX12 hown hK hP hD hS 2 rfl rfl 20 (by decide) (hts (.fieldLink RX12 86 "EachOnHisCueModel" "taped" "I") (by decide +kernel)) (fun _ h9 => h9) rfl (by decide +kernel) rfl rfl (Nat.le_of_ble_eq_true rfl) dX12_feed_52 (fun H locs hP hD hS => ?_)
        have hP : va_P (dC, dI) vwCl [(ha0_0, .inl (cI, 7, .inl fa0_0)), (ha0_16, .inl (cI, 80, .inl f11)), (ha0, .inr (12, [.ref ha0_0, .ref ha0_1, .ref ha0_2, .ref ha0_3, .ref ha0_4, .ref ha0_5, .ref ha0_6, .ref ha0_7, .ref ha0_8, .int ia0_9, .int ia0_10, .int ia0_11, .int ia0_12, .int ia0_13, .int ia0_14, .int ia0_15, .ref ha0_16, .ref ha0_17, .ref ha0_18, .ref ha0_19, .int y12, .int ia0_21, .int ia0_22, .ref ha0_23, .int ia0_24, .int ia0_25, .int ia0_26, .int ia0_27, .int ia0_28, .ref ha0_29, .int ia0_30, .int ia0_31, .int ia0_32, .ref ha0_33, .ref ha0_34, .ref ha0_35, .int ia0_36, .int ia0_37]))] H := hP
        have hD : va_D A [(ha0_0, .inl (cI, 7, .inl fa0_0)), (ha0_16, .inl (cI, 80, .inl f11)), (ha0, .inr (12, [.ref ha0_0, .ref ha0_1, .ref ha0_2, .ref ha0_3, .ref ha0_4, .ref ha0_5, .ref ha0_6, .ref ha0_7, .ref ha0_8, .int ia0_9, .int ia0_10, .int ia0_11, .int ia0_12, .int ia0_13, .int ia0_14, .int ia0_15, .ref ha0_16, .ref ha0_17, .ref ha0_18, .ref ha0_19, .int y12, .int ia0_21, .int ia0_22, .ref ha0_23, .int ia0_24, .int ia0_25, .int ia0_26, .int ia0_27, .int ia0_28, .ref ha0_29, .int ia0_30, .int ia0_31, .int ia0_32, .ref ha0_33, .ref ha0_34, .ref ha0_35, .int ia0_36, .int ia0_37]))] := hD
        refine lv_aload_n hx hb dX12_feed_55 rfl (lv_at hl 1 rfl) ?_
        refine va_get (D := (dC, dI)) (ci := 12) (v := .int y12) (C := RX12) (T := TX12) (N := 38) hx hb hts in_X12_feed_X12 hown hK hP 2 rfl rfl 20 (by decide) (hts (.fieldLink RX12 86 "EachOnHisCueModel" "taped" "I") (by decide +kernel)) (fun _ h9 => h9) rfl dX12_feed_56 ?_
        have hP9 := hP.sub (ws' := [(ha0_0, .inl (cI, 7, .inl fa0_0)), (ha0_16, .inl (cI, 80, .inl f11)), (ha0, .inr (12, [.ref ha0_0, .ref ha0_1, .ref ha0_2, .ref ha0_3, .ref ha0_4, .ref ha0_5, .ref ha0_6, .ref ha0_7, .ref ha0_8, .int ia0_9, .int ia0_10, .int ia0_11, .int ia0_12, .int ia0_13, .int ia0_14, .int ia0_15, .ref ha0_16, .ref ha0_17, .ref ha0_18, .ref ha0_19, .int y12, .int ia0_21, .int ia0_22, .ref ha0_23, .int ia0_24, .int ia0_25, .int ia0_26, .int ia0_27, .int ia0_28, .ref ha0_29, .int ia0_30, .int ia0_31, .int ia0_32, .ref ha0_33, .ref ha0_34, .ref ha0_35, .int ia0_36, .int ia0_37]))]) [0, 1, 2] rfl
        have hD9 := hD.sub (ws' := [(ha0_0, .inl (cI, 7, .inl fa0_0)), (ha0_16, .inl (cI, 80, .inl f11)), (ha0, .inr (12, [.ref ha0_0, .ref ha0_1, .ref ha0_2, .ref ha0_3, .ref ha0_4, .ref ha0_5, .ref ha0_6, .ref ha0_7, .ref ha0_8, .int ia0_9, .int ia0_10, .int ia0_11, .int ia0_12, .int ia0_13, .int ia0_14, .int ia0_15, .ref ha0_16, .ref ha0_17, .ref ha0_18, .ref ha0_19, .int y12, .int ia0_21, .int ia0_22, .ref ha0_23, .int ia0_24, .int ia0_25, .int ia0_26, .int ia0_27, .int ia0_28, .ref ha0_29, .int ia0_30, .int ia0_31, .int ia0_32, .ref ha0_33, .ref ha0_34, .ref ha0_35, .int ia0_36, .int ia0_37]))]) [0, 1, 2] (by decide) rfl
        have hpo : ((p1.toInt < 0 ∧ (y12 : Int32).toInt = -4 ∧ (y12 : Int32).toInt = ia0_20.toInt) ∨ (0 ≤ p1.toInt ∧ (255 < p1.toInt ∨ ia0_20.toInt = 80) ∧ (y12 : Int32).toInt = -6 ∧ (y12 : Int32).toInt = ia0_20.toInt) ∨ (0 ≤ p1.toInt ∧ p1.toInt ≤ 255 ∧ ia0_20.toInt < 80 ∧ (y12 : Int32).toInt = ia0_20.toInt + 1 ∧ (y12 : Int32).toInt = ia0_20.toInt + 1)) := by first | omega | decide | (simp; omega)
        exact W.iret (v := y12) hx hb hr (fun t ht hW => ⟨⟨y12, (fun k => [y12].getD k 0, fun k => [fa0_0, f11].getD k (fun _ => 0)), rfl, (show (∀ k, 0 ≤ (f11 k).toInt ∧ (f11 k).toInt ≤ 255) ∧ (0 ≤ (y12 : Int32).toInt ∧ (y12 : Int32).toInt ≤ 80) ∧ ((-6) ≤ (y12 : Int32).toInt ∧ (y12 : Int32).toInt ≤ 80) ∧ (((p1.toInt < 0 ∧ (y12 : Int32).toInt = -4 ∧ (y12 : Int32).toInt = ia0_20.toInt) ∨ (0 ≤ p1.toInt ∧ (255 < p1.toInt ∨ ia0_20.toInt = 80) ∧ (y12 : Int32).toInt = -6 ∧ (y12 : Int32).toInt = ia0_20.toInt) ∨ (0 ≤ p1.toInt ∧ p1.toInt ≤ 255 ∧ ia0_20.toInt < 80 ∧ (y12 : Int32).toInt = ia0_20.toInt + 1 ∧ (y12 : Int32).toInt = ia0_20.toInt + 1))) from ⟨hBf11, ⟨by first | omega | decide | exact z_lo _, by first | omega | decide | exact z_hi _⟩, ⟨by first | omega | decide | exact z_lo _, by first | omega | decide | exact z_hi _⟩, hpo⟩), by rw [ht]; exact hP9, hD9⟩, hS.F ht⟩) hS.2.2 dX12_feed_59
      · have q13 : y1.toInt ≠ 0 := z_ne rfl (by decide) hc
        exfalso; omega
    · have q14 : ia0_20.toInt = 80 := z_eq rfl (by decide) hc
      refine lv_bipush (v := (-6)) hx hb dX12_feed_22 (by decide) ?_
      refine lv_istore_n (lv' := [(2, .int (-6)), (0, .ref ha0), (1, .int p1)]) hx hb dX12_feed_24 rfl hl (by decide) rfl (fun ls hl => ?_)
      refine lv_iload_n hx hb dX12_feed_25 rfl (lv_at hl 0 rfl) ?_
      refine lv_if_eq (tgt := 35) hx hb dX12_feed_26 (by decide) (fun hc => ?_) (fun hc => ?_)
      · exact absurd hc (by decide)
      · skip
        refine lv_aload_n hx hb dX12_feed_29 rfl (lv_at hl 1 rfl) ?_
        refine lv_iload_n hx hb dX12_feed_30 rfl (lv_at hl 0 rfl) ?_
        refine z_cwi (wc := [(ha0_0, .inl (cI, 7, .inl fa0_0)), (ha0, .inr (12, [.ref ha0_0, .ref ha0_1, .ref ha0_2, .ref ha0_3, .ref ha0_4, .ref ha0_5, .ref ha0_6, .ref ha0_7, .ref ha0_8, .int ia0_9, .int ia0_10, .int ia0_11, .int ia0_12, .int ia0_13, .int ia0_14, .int ia0_15, .ref ha0_16, .ref ha0_17, .ref ha0_18, .ref ha0_19, .int ia0_20, .int ia0_21, .int ia0_22, .ref ha0_23, .int ia0_24, .int ia0_25, .int ia0_26, .int ia0_27, .int ia0_28, .ref ha0_29, .int ia0_30, .int ia0_31, .int ia0_32, .ref ha0_33, .ref ha0_34, .ref ha0_35, .int ia0_36, .int ia0_37]))]) (wr := [(ha0_16, .inl (cI, 80, .inl fa0_16))]) (w1 := fun u16 => [(ha0_0, .inl (cI, 7, .inl (u16.2 0))), (ha0, .inr (12, [.ref ha0_0, .ref ha0_1, .ref ha0_2, .ref ha0_3, .ref ha0_4, .ref ha0_5, .ref ha0_6, .ref ha0_7, .ref ha0_8, .int ia0_9, .int ia0_10, .int ia0_11, .int ia0_12, .int ia0_13, .int ia0_14, .int ia0_15, .ref ha0_16, .ref ha0_17, .ref ha0_18, .ref ha0_19, .int ia0_20, .int ia0_21, .int ia0_22, .ref ha0_23, .int ia0_24, .int ia0_25, .int ia0_26, .int ia0_27, .int ia0_28, .ref ha0_29, .int ia0_30, .int ia0_31, .int ia0_32, .ref ha0_33, .ref ha0_34, .ref ha0_35, .int ia0_36, .int ia0_37]))]) (va_runV (As := [.int (-6)]) (rest := []) ⟨hx, hb, hml, hown, hts⟩ (wX12_no_F l dC dI cI cQ ha0 ha0_0 ha0_1 ha0_2 ha0_3 ha0_4 ha0_5 ha0_6 ha0_7 ha0_8 ha0_16 ha0_17 ha0_18 ha0_19 ha0_23 ha0_29 ha0_33 ha0_34 ha0_35 fa0_0 ia0_9 (by first | omega | decide | exact z_lo _ | exact z_hi _) (by first | omega | decide | exact z_lo _ | exact z_hi _) ia0_10 (by first | omega | decide | exact z_lo _ | exact z_hi _) (by first | omega | decide | exact z_lo _ | exact z_hi _) ia0_11 ia0_12 ia0_13 ia0_14 (by first | omega | decide | exact z_lo _ | exact z_hi _) (by first | omega | decide | exact z_lo _ | exact z_hi _) ia0_15 ia0_20 (by first | omega | decide | exact z_lo _ | exact z_hi _) (by first | omega | decide | exact z_lo _ | exact z_hi _) ia0_21 (by first | omega | decide | exact z_lo _ | exact z_hi _) (by first | omega | decide | exact z_lo _ | exact z_hi _) ia0_22 (by first | omega | decide | exact z_lo _ | exact z_hi _) (by first | omega | decide | exact z_lo _ | exact z_hi _) ia0_24 (by first | omega | decide | exact z_lo _ | exact z_hi _) (by first | omega | decide | exact z_lo _ | exact z_hi _) ia0_25 (by first | omega | decide | exact z_lo _ | exact z_hi _) (by first | omega | decide | exact z_lo _ | exact z_hi _) ia0_26 (by first | omega | decide | exact z_lo _ | exact z_hi _) (by first | omega | decide | exact z_lo _ | exact z_hi _) ia0_27 (by first | omega | decide | exact z_lo _ | exact z_hi _) (by first | omega | decide | exact z_lo _ | exact z_hi _) ia0_28 ia0_30 (by first | omega | decide | exact z_lo _ | exact z_hi _) (by first | omega | decide | exact z_lo _ | exact z_hi _) ia0_31 ia0_32 (by first | omega | decide | exact z_lo _ | exact z_hi _) (by first | omega | decide | exact z_lo _ | exact z_hi _) ia0_36 (by first | omega | decide | exact z_lo _ | exact z_hi _) (by first | omega | decide | exact z_lo _ | exact z_hi _) ia0_37 (-6) (by first | omega | decide | exact z_lo _ | exact z_hi _) (by first | omega | decide | exact z_lo _ | exact z_hi _) s.heap.size) (cwV 1 hts gv_X12_feed_X12_no_89 rfl rfl rfl (by decide +kernel) ⟨Nat.le_of_ble_eq_true rfl, Nat.le_of_ble_eq_true rfl⟩) ⟨z_blind, va_recv hK hP (ci := 12) (q0 := 2) rfl rfl, z_pre hZ hP hD [0, 2] rfl (by decide)⟩ rfl rfl hl.1 rfl (lv_room (Nat.le_of_ble_eq_true rfl)) dX12_feed_31 ⟨Nat.le_of_ble_eq_true rfl, Nat.le_of_ble_eq_true rfl⟩) hP hD hS hA [0, 2] [1] rfl rfl (by decide) (by decide) (fun y15 u16 H locs hpo hP hD hS => ?_)
        generalize hgf17 : u16.2 0 = f17 at hP hD hpo
        have hP : va_P (dC, dI) vwCl [(ha0_16, .inl (cI, 80, .inl fa0_16)), (ha0_0, .inl (cI, 7, .inl f17)), (ha0, .inr (12, [.ref ha0_0, .ref ha0_1, .ref ha0_2, .ref ha0_3, .ref ha0_4, .ref ha0_5, .ref ha0_6, .ref ha0_7, .ref ha0_8, .int ia0_9, .int ia0_10, .int ia0_11, .int ia0_12, .int ia0_13, .int ia0_14, .int ia0_15, .ref ha0_16, .ref ha0_17, .ref ha0_18, .ref ha0_19, .int ia0_20, .int ia0_21, .int ia0_22, .ref ha0_23, .int ia0_24, .int ia0_25, .int ia0_26, .int ia0_27, .int ia0_28, .ref ha0_29, .int ia0_30, .int ia0_31, .int ia0_32, .ref ha0_33, .ref ha0_34, .ref ha0_35, .int ia0_36, .int ia0_37]))] H := hP
        have hD : va_D A [(ha0_16, .inl (cI, 80, .inl fa0_16)), (ha0_0, .inl (cI, 7, .inl f17)), (ha0, .inr (12, [.ref ha0_0, .ref ha0_1, .ref ha0_2, .ref ha0_3, .ref ha0_4, .ref ha0_5, .ref ha0_6, .ref ha0_7, .ref ha0_8, .int ia0_9, .int ia0_10, .int ia0_11, .int ia0_12, .int ia0_13, .int ia0_14, .int ia0_15, .ref ha0_16, .ref ha0_17, .ref ha0_18, .ref ha0_19, .int ia0_20, .int ia0_21, .int ia0_22, .ref ha0_23, .int ia0_24, .int ia0_25, .int ia0_26, .int ia0_27, .int ia0_28, .ref ha0_29, .int ia0_30, .int ia0_31, .int ia0_32, .ref ha0_33, .ref ha0_34, .ref ha0_35, .int ia0_36, .int ia0_37]))] := hD
        obtain ⟨hy15r, hy15po⟩ := hpo
        obtain ⟨hy15l, hy15h⟩ := hy15r
        have hP9 := hP.sub (ws' := [(ha0_0, .inl (cI, 7, .inl f17)), (ha0_16, .inl (cI, 80, .inl fa0_16)), (ha0, .inr (12, [.ref ha0_0, .ref ha0_1, .ref ha0_2, .ref ha0_3, .ref ha0_4, .ref ha0_5, .ref ha0_6, .ref ha0_7, .ref ha0_8, .int ia0_9, .int ia0_10, .int ia0_11, .int ia0_12, .int ia0_13, .int ia0_14, .int ia0_15, .ref ha0_16, .ref ha0_17, .ref ha0_18, .ref ha0_19, .int ia0_20, .int ia0_21, .int ia0_22, .ref ha0_23, .int ia0_24, .int ia0_25, .int ia0_26, .int ia0_27, .int ia0_28, .ref ha0_29, .int ia0_30, .int ia0_31, .int ia0_32, .ref ha0_33, .ref ha0_34, .ref ha0_35, .int ia0_36, .int ia0_37]))]) [1, 0, 2] rfl
        have hD9 := hD.sub (ws' := [(ha0_0, .inl (cI, 7, .inl f17)), (ha0_16, .inl (cI, 80, .inl fa0_16)), (ha0, .inr (12, [.ref ha0_0, .ref ha0_1, .ref ha0_2, .ref ha0_3, .ref ha0_4, .ref ha0_5, .ref ha0_6, .ref ha0_7, .ref ha0_8, .int ia0_9, .int ia0_10, .int ia0_11, .int ia0_12, .int ia0_13, .int ia0_14, .int ia0_15, .ref ha0_16, .ref ha0_17, .ref ha0_18, .ref ha0_19, .int ia0_20, .int ia0_21, .int ia0_22, .ref ha0_23, .int ia0_24, .int ia0_25, .int ia0_26, .int ia0_27, .int ia0_28, .ref ha0_29, .int ia0_30, .int ia0_31, .int ia0_32, .ref ha0_33, .ref ha0_34, .ref ha0_35, .int ia0_36, .int ia0_37]))]) [1, 0, 2] (by decide) rfl
        have hpo : ((p1.toInt < 0 ∧ (y15 : Int32).toInt = -4 ∧ (ia0_20 : Int32).toInt = ia0_20.toInt) ∨ (0 ≤ p1.toInt ∧ (255 < p1.toInt ∨ ia0_20.toInt = 80) ∧ (y15 : Int32).toInt = -6 ∧ (ia0_20 : Int32).toInt = ia0_20.toInt) ∨ (0 ≤ p1.toInt ∧ p1.toInt ≤ 255 ∧ ia0_20.toInt < 80 ∧ (y15 : Int32).toInt = ia0_20.toInt + 1 ∧ (ia0_20 : Int32).toInt = ia0_20.toInt + 1)) := by first | omega | decide | (simp; omega)
        exact W.iret (v := y15) hx hb hr (fun t ht hW => ⟨⟨y15, (fun k => [ia0_20].getD k 0, fun k => [f17, fa0_16].getD k (fun _ => 0)), rfl, (show (∀ k, 0 ≤ (fa0_16 k).toInt ∧ (fa0_16 k).toInt ≤ 255) ∧ (0 ≤ (ia0_20 : Int32).toInt ∧ (ia0_20 : Int32).toInt ≤ 80) ∧ ((-6) ≤ (y15 : Int32).toInt ∧ (y15 : Int32).toInt ≤ 80) ∧ (((p1.toInt < 0 ∧ (y15 : Int32).toInt = -4 ∧ (ia0_20 : Int32).toInt = ia0_20.toInt) ∨ (0 ≤ p1.toInt ∧ (255 < p1.toInt ∨ ia0_20.toInt = 80) ∧ (y15 : Int32).toInt = -6 ∧ (ia0_20 : Int32).toInt = ia0_20.toInt) ∨ (0 ≤ p1.toInt ∧ p1.toInt ≤ 255 ∧ ia0_20.toInt < 80 ∧ (y15 : Int32).toInt = ia0_20.toInt + 1 ∧ (ia0_20 : Int32).toInt = ia0_20.toInt + 1))) from ⟨hBfa0_16, ⟨by first | omega | decide | exact z_lo _, by first | omega | decide | exact z_hi _⟩, ⟨by first | omega | decide | exact z_lo _, by first | omega | decide | exact z_hi _⟩, hpo⟩), by rw [ht]; exact hP9, hD9⟩, hS.F ht⟩) hS.2.2 dX12_feed_34
