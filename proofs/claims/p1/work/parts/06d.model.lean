set_option maxHeartbeats 4000000 in
set_option maxRecDepth 100000 in
theorem kX12_lowest (l : Launch) (dC : Nat → ClassId) (dI : Nat → Nat → Nat) (cI cQ : ClassId) (h0 h1 h2 h3 h4 h5 h6 h7 h8 h9 h10 h11 h12 h13 h14 h15 h16 h17 h18 : Nat) (sz : Nat) : Met l yX12_lowest vsX12_lowest ({ frames := 0, cells := 0, slots := 0, locals := 0 }) (va_Pc [.ref h0, .int (-2)] (zB dC dI cI cQ [(h0, .inr (12, [.ref h1, .ref h2, .ref h3, .ref h4, .ref h5, .ref h6, .ref h7, .ref h8, .ref h9, .int 0, .int 0, .int 10, .int 0, .int 0, .int (-9), .int 0, .ref h10, .ref h11, .ref h12, .ref h13, .int 0, .int 0, .int 0, .ref h14, .int 0, .int 0, .int 0, .int (-9), .int 0, .ref h15, .int 0, .int 0, .int 0, .ref h16, .ref h17, .ref h18, .int 0, .int 0])), (h1, .inl (cI, 7, .inl (fun _ => 0)))] sz)) (zQl dC dI (va_A [(h0, .inr (12, [.ref h1, .ref h2, .ref h3, .ref h4, .ref h5, .ref h6, .ref h7, .ref h8, .ref h9, .int 0, .int 0, .int 10, .int 0, .int 0, .int (-9), .int 0, .ref h10, .ref h11, .ref h12, .ref h13, .int 0, .int 0, .int 0, .ref h14, .int 0, .int 0, .int 0, .int (-9), .int 0, .ref h15, .int 0, .int 0, .int 0, .ref h16, .ref h17, .ref h18, .int 0, .int 0])), (h1, .inl (cI, 7, .inl (fun _ => 0)))] sz) (fun ad => [(h0, .inr (12, [.ref h1, .ref h2, .ref h3, .ref h4, .ref h5, .ref h6, .ref h7, .ref h8, .ref h9, .int 0, .int 0, .int 10, .int 0, .int 0, .int (-9), .int 0, .ref h10, .ref h11, .ref h12, .ref h13, .int 0, .int 0, .int 0, .ref h14, .int 0, .int 0, .int 0, .int (-9), .int 0, .ref h15, .int 0, .int 0, .int 0, .ref h16, .ref h17, .ref h18, .int 0, .int 0])), (h1, .inl (cI, 7, .inl (upd (fun _ => 0) 2 1)))]) 4000000000000000002) 0 0 (va_A [(h0, .inr (12, [.ref h1, .ref h2, .ref h3, .ref h4, .ref h5, .ref h6, .ref h7, .ref h8, .ref h9, .int 0, .int 0, .int 10, .int 0, .int 0, .int (-9), .int 0, .ref h10, .ref h11, .ref h12, .ref h13, .int 0, .int 0, .int 0, .ref h14, .int 0, .int 0, .int 0, .int (-9), .int 0, .ref h15, .int 0, .int 0, .int 0, .ref h16, .ref h17, .ref h18, .int 0, .int 0])), (h1, .inl (cI, 7, .inl (fun _ => 0)))] sz) := by
  refine Met.ofW (cc := cX12_lowest) (maxL := 2) (ret := (some .long)) (by decide) rfl ?_
  intro p e s m args below meth c s₁ B hml hv
  obtain ⟨rfl, hsz, hP, hZ, hD0⟩ := hv
  obtain ⟨hK, hAO, hN⟩ := id hZ
  have hx := B.exec
  have hb := B.bytes
  have hr := B.returns
  have hts := atoms_spec (ws := vsX12_lowest) B.pre
  have hown : s.vm.findClass RX12 = some m.cls := findClass_of_methodNamed B.named
  have hlocks := B.notSynchronized
  subst hsz
  have hD := hD0.self (sz := s.heap.size)
  generalize hAe : va_A [(h0, .inr (12, [.ref h1, .ref h2, .ref h3, .ref h4, .ref h5, .ref h6, .ref h7, .ref h8, .ref h9, .int 0, .int 0, .int 10, .int 0, .int 0, .int (-9), .int 0, .ref h10, .ref h11, .ref h12, .ref h13, .int 0, .int 0, .int 0, .ref h14, .int 0, .int 0, .int 0, .int (-9), .int 0, .ref h15, .int 0, .int 0, .int 0, .ref h16, .ref h17, .ref h18, .int 0, .int 0])), (h1, .inl (cI, 7, .inl (fun _ => 0)))] s.heap.size = A at hD ⊢
  have hA : ∀ q : Nat, s.heap.size ≤ q → A q := fun q h => by rw [← hAe]; exact Or.inr h
  have hS : va_S A s.heap s.heap [] := va_S.rf
  have hP : va_P (dC, dI) vwCl [(h0, .inr (12, [.ref h1, .ref h2, .ref h3, .ref h4, .ref h5, .ref h6, .ref h7, .ref h8, .ref h9, .int 0, .int 0, .int 10, .int 0, .int 0, .int (-9), .int 0, .ref h10, .ref h11, .ref h12, .ref h13, .int 0, .int 0, .int 0, .ref h14, .int 0, .int 0, .int 0, .int (-9), .int 0, .ref h15, .int 0, .int 0, .int 0, .ref h16, .ref h17, .ref h18, .int 0, .int 0])), (h1, .inl (cI, 7, .inl (fun _ => 0)))] s.heap := hP
  have hl := lv_entry ([.ref h0, .int (-2)]) (n := 2) (Nat.le_of_ble_eq_true rfl)
  rw [lg_entry_eq]
  generalize (lg_sl ([.ref h0, .int (-2)]) ++ List.replicate (2 - (lg_sl ([.ref h0, .int (-2)])).length) Slot.unset).toArray = ls at hl ⊢
  have hl : lv_has ls 2 [(0, .ref h0), (1, .int (-2))] := hl
  refine lv_aload_n hx hb dX12_lowest_0 rfl (lv_at hl 0 rfl) ?_
  refine va_get (D := (dC, dI)) (ci := 12) (v := .ref h1) (C := RX12) (T := TX12) (N := 38) hx hb hts in_X12_lowest_X12 hown hK hP 0 rfl rfl 0 (by decide) (hts (.fieldLink RX12 7 "EachOnHisCueModel" "refused" "[I") (by decide +kernel)) (fun _ h9 => h9) rfl dX12_lowest_1 ?_
  refine lv_iload_n hx hb dX12_lowest_4 rfl (lv_at hl 1 rfl) ?_
  refine lv_ineg hx hb dX12_lowest_5 ?_
  refine lv_topi (fun y1 ey1 => ?_)
  obtain rfl : y1 = 2 := ey1.trans (by decide)
  refine lv_dup2_11 hx hb dX12_lowest_6 rfl rfl ?_
  refine va_iald hx hb hK hP 1 0 rfl rfl (by unfold vp_in; decide) dX12_lowest_7 ?_
  refine lv_topi (fun y2 ey2 => ?_)
  obtain rfl : y2 = 0 := ey2.trans (by first | rfl | decide)
  refine lv_iconst (v := 1) hx hb dX12_lowest_8 (by decide) ?_
  refine lv_iadd hx hb dX12_lowest_9 ?_
  refine lv_topi (fun y3 ey3 => ?_)
  obtain rfl : y3 = 1 := ey3.trans (by decide)
  refine va_iast hx hb hK hP hD hS 1 0 rfl rfl (by unfold vp_in; decide) dX12_lowest_10 (fun H locs hP hD hS => ?_)
  have hP : va_P (dC, dI) vwCl [(h0, .inr (12, [.ref h1, .ref h2, .ref h3, .ref h4, .ref h5, .ref h6, .ref h7, .ref h8, .ref h9, .int 0, .int 0, .int 10, .int 0, .int 0, .int (-9), .int 0, .ref h10, .ref h11, .ref h12, .ref h13, .int 0, .int 0, .int 0, .ref h14, .int 0, .int 0, .int 0, .int (-9), .int 0, .ref h15, .int 0, .int 0, .int 0, .ref h16, .ref h17, .ref h18, .int 0, .int 0])), (h1, .inl (cI, 7, .inl (upd (fun _ => 0) 2 1)))] H := hP
  have hD : va_D A [(h0, .inr (12, [.ref h1, .ref h2, .ref h3, .ref h4, .ref h5, .ref h6, .ref h7, .ref h8, .ref h9, .int 0, .int 0, .int 10, .int 0, .int 0, .int (-9), .int 0, .ref h10, .ref h11, .ref h12, .ref h13, .int 0, .int 0, .int 0, .ref h14, .int 0, .int 0, .int 0, .int (-9), .int 0, .ref h15, .int 0, .int 0, .int 0, .ref h16, .ref h17, .ref h18, .int 0, .int 0])), (h1, .inl (cI, 7, .inl (upd (fun _ => 0) 2 1)))] := hD
  refine lv_ldc2 (own := RX12) (v := 4000000000000000000) hx hb hown (hts (.constantLong RX12 74 (4000000000000000000)) (by decide +kernel)) dX12_lowest_11 ?_
  refine lv_iload_n hx hb dX12_lowest_14 rfl (lv_at hl 1 rfl) ?_
  refine lv_i2l (v := (-2)) hx hb dX12_lowest_15 (by decide) ?_
  refine lv_lsub hx hb dX12_lowest_16 ?_
  refine lv_topl (fun y4 ey4 => ?_)
  obtain rfl : y4 = 4000000000000000002 := ey4.trans (by decide)
  have hP9 := hP.sub (ws' := [(h0, .inr (12, [.ref h1, .ref h2, .ref h3, .ref h4, .ref h5, .ref h6, .ref h7, .ref h8, .ref h9, .int 0, .int 0, .int 10, .int 0, .int 0, .int (-9), .int 0, .ref h10, .ref h11, .ref h12, .ref h13, .int 0, .int 0, .int 0, .ref h14, .int 0, .int 0, .int 0, .int (-9), .int 0, .ref h15, .int 0, .int 0, .int 0, .ref h16, .ref h17, .ref h18, .int 0, .int 0])), (h1, .inl (cI, 7, .inl (upd (fun _ => 0) 2 1)))]) [0, 1] rfl
  have hD9 := hD.sub (ws' := [(h0, .inr (12, [.ref h1, .ref h2, .ref h3, .ref h4, .ref h5, .ref h6, .ref h7, .ref h8, .ref h9, .int 0, .int 0, .int 10, .int 0, .int 0, .int (-9), .int 0, .ref h10, .ref h11, .ref h12, .ref h13, .int 0, .int 0, .int 0, .ref h14, .int 0, .int 0, .int 0, .int (-9), .int 0, .ref h15, .int 0, .int 0, .int 0, .ref h16, .ref h17, .ref h18, .int 0, .int 0])), (h1, .inl (cI, 7, .inl (upd (fun _ => 0) 2 1)))]) [0, 1] (by decide) rfl
  exact W.lret (v := 4000000000000000002) hx hb hr (fun t ht hW => ⟨⟨4000000000000000002, (fun k => [].getD k 0), rfl, rfl, by rw [ht]; exact hP9, hD9⟩, hS.F ht⟩) hS.2.2 dX12_lowest_17
set_option maxHeartbeats 4000000 in
set_option maxRecDepth 100000 in
theorem kX12_home (l : Launch) (dC : Nat → ClassId) (dI : Nat → Nat → Nat) (cI cQ : ClassId) (h0 h1 h2 h3 h4 h5 h6 h7 h8 h9 h10 h11 h12 h13 h14 h15 h16 h17 h18 : Nat) (p0 : Int32) (hp0l : -2147483648 ≤ p0.toInt) (hp0h : p0.toInt ≤ -1) (sz : Nat) : Met l yX12_home vsX12_home ({ frames := 1, cells := 0, slots := 0, locals := 22 }) (va_Pc [.ref h0, .int p0] (zB dC dI cI cQ [(h0, .inr (12, [.ref h1, .ref h2, .ref h3, .ref h4, .ref h5, .ref h6, .ref h7, .ref h8, .ref h9, .int 0, .int 0, .int 10, .int 0, .int 0, .int (-9), .int 0, .ref h10, .ref h11, .ref h12, .ref h13, .int 0, .int 0, .int 0, .ref h14, .int 0, .int 0, .int 0, .int (-9), .int 0, .ref h15, .int 0, .int 0, .int 0, .ref h16, .ref h17, .ref h18, .int 0, .int 0])), (h1, .inl (cI, 7, .inl (fun _ => 0)))] sz)) (zQl dC dI (va_A [(h0, .inr (12, [.ref h1, .ref h2, .ref h3, .ref h4, .ref h5, .ref h6, .ref h7, .ref h8, .ref h9, .int 0, .int 0, .int 10, .int 0, .int 0, .int (-9), .int 0, .ref h10, .ref h11, .ref h12, .ref h13, .int 0, .int 0, .int 0, .ref h14, .int 0, .int 0, .int 0, .int (-9), .int 0, .ref h15, .int 0, .int 0, .int 0, .ref h16, .ref h17, .ref h18, .int 0, .int 0])), (h1, .inl (cI, 7, .inl (fun _ => 0)))] sz) (fun ad => []) 4000000000000000002) 0 0 (va_A [(h0, .inr (12, [.ref h1, .ref h2, .ref h3, .ref h4, .ref h5, .ref h6, .ref h7, .ref h8, .ref h9, .int 0, .int 0, .int 10, .int 0, .int 0, .int (-9), .int 0, .ref h10, .ref h11, .ref h12, .ref h13, .int 0, .int 0, .int 0, .ref h14, .int 0, .int 0, .int 0, .int (-9), .int 0, .ref h15, .int 0, .int 0, .int 0, .ref h16, .ref h17, .ref h18, .int 0, .int 0])), (h1, .inl (cI, 7, .inl (fun _ => 0)))] sz) := by
  refine Met.ofW (cc := cX12_home) (maxL := 7) (ret := (some .long)) (by decide) rfl ?_
  intro p e s m args below meth c s₁ B hml hv
  obtain ⟨rfl, hsz, hP, hZ, hD0⟩ := hv
  obtain ⟨hK, hAO, hN⟩ := id hZ
  have hx := B.exec
  have hb := B.bytes
  have hr := B.returns
  have hts := atoms_spec (ws := vsX12_home) B.pre
  have hown : s.vm.findClass RX12 = some m.cls := findClass_of_methodNamed B.named
  have hlocks := B.notSynchronized
  subst hsz
  have hD := hD0.self (sz := s.heap.size)
  generalize hAe : va_A [(h0, .inr (12, [.ref h1, .ref h2, .ref h3, .ref h4, .ref h5, .ref h6, .ref h7, .ref h8, .ref h9, .int 0, .int 0, .int 10, .int 0, .int 0, .int (-9), .int 0, .ref h10, .ref h11, .ref h12, .ref h13, .int 0, .int 0, .int 0, .ref h14, .int 0, .int 0, .int 0, .int (-9), .int 0, .ref h15, .int 0, .int 0, .int 0, .ref h16, .ref h17, .ref h18, .int 0, .int 0])), (h1, .inl (cI, 7, .inl (fun _ => 0)))] s.heap.size = A at hD ⊢
  have hA : ∀ q : Nat, s.heap.size ≤ q → A q := fun q h => by rw [← hAe]; exact Or.inr h
  have hS : va_S A s.heap s.heap [] := va_S.rf
  have hP : va_P (dC, dI) vwCl [(h0, .inr (12, [.ref h1, .ref h2, .ref h3, .ref h4, .ref h5, .ref h6, .ref h7, .ref h8, .ref h9, .int 0, .int 0, .int 10, .int 0, .int 0, .int (-9), .int 0, .ref h10, .ref h11, .ref h12, .ref h13, .int 0, .int 0, .int 0, .ref h14, .int 0, .int 0, .int 0, .int (-9), .int 0, .ref h15, .int 0, .int 0, .int 0, .ref h16, .ref h17, .ref h18, .int 0, .int 0])), (h1, .inl (cI, 7, .inl (fun _ => 0)))] s.heap := hP
  have hl := lv_entry ([.ref h0, .int p0]) (n := 7) (Nat.le_of_ble_eq_true rfl)
  rw [lg_entry_eq]
  generalize (lg_sl ([.ref h0, .int p0]) ++ List.replicate (7 - (lg_sl ([.ref h0, .int p0])).length) Slot.unset).toArray = ls at hl ⊢
  have hl : lv_has ls 7 [(0, .ref h0), (1, .int p0)] := hl
  refine lv_iload_n hx hb dX12_home_0 rfl (lv_at hl 1 rfl) ?_
  refine lv_iconst (v := 0) hx hb dX12_home_1 (by decide) ?_
  refine lv_iconst (v := 1) hx hb dX12_home_2 (by decide) ?_
  refine z_calli (wc := []) (wr := [(h0, .inr (12, [.ref h1, .ref h2, .ref h3, .ref h4, .ref h5, .ref h6, .ref h7, .ref h8, .ref h9, .int 0, .int 0, .int 10, .int 0, .int 0, .int (-9), .int 0, .ref h10, .ref h11, .ref h12, .ref h13, .int 0, .int 0, .int 0, .ref h14, .int 0, .int 0, .int 0, .int (-9), .int 0, .ref h15, .int 0, .int 0, .int 0, .ref h16, .ref h17, .ref h18, .int 0, .int 0])), (h1, .inl (cI, 7, .inl (fun _ => 0)))]) (w1 := (fun _ => [])) (va_runS (As := [.int p0, .int 0, .int 1]) (rest := []) ⟨hx, hb, hml, hown, hts⟩ (kX12_isIn_3 l dC dI cI cQ p0 hp0l hp0h s.heap.size) (va_cwS 3 hts gv_X12_home_X12_isIn_100 rfl rfl rfl (by decide +kernel) ⟨Nat.le_of_ble_eq_true rfl, Nat.le_of_ble_eq_true rfl⟩) ⟨z_blind, z_pre hZ hP hD [] rfl (by decide)⟩ rfl rfl hl.1 rfl (lv_room (Nat.le_of_ble_eq_true rfl)) dX12_home_3 ⟨Nat.le_of_ble_eq_true rfl, Nat.le_of_ble_eq_true rfl⟩) hP hD hS hA [] [0, 1] rfl rfl (by decide) (by decide) (fun _ H locs hP hD hS => ?_)
  have hP : va_P (dC, dI) vwCl [(h0, .inr (12, [.ref h1, .ref h2, .ref h3, .ref h4, .ref h5, .ref h6, .ref h7, .ref h8, .ref h9, .int 0, .int 0, .int 10, .int 0, .int 0, .int (-9), .int 0, .ref h10, .ref h11, .ref h12, .ref h13, .int 0, .int 0, .int 0, .ref h14, .int 0, .int 0, .int 0, .int (-9), .int 0, .ref h15, .int 0, .int 0, .int 0, .ref h16, .ref h17, .ref h18, .int 0, .int 0])), (h1, .inl (cI, 7, .inl (fun _ => 0)))] H := hP
  have hD : va_D A [(h0, .inr (12, [.ref h1, .ref h2, .ref h3, .ref h4, .ref h5, .ref h6, .ref h7, .ref h8, .ref h9, .int 0, .int 0, .int 10, .int 0, .int 0, .int (-9), .int 0, .ref h10, .ref h11, .ref h12, .ref h13, .int 0, .int 0, .int 0, .ref h14, .int 0, .int 0, .int 0, .int (-9), .int 0, .ref h15, .int 0, .int 0, .int 0, .ref h16, .ref h17, .ref h18, .int 0, .int 0])), (h1, .inl (cI, 7, .inl (fun _ => 0)))] := hD
  refine lv_if_ne (tgt := 16) hx hb dX12_home_6 (by decide) (fun hc => ?_) (fun hc => ?_)
  · exact absurd hc (by decide)
  refine lv_aload_n hx hb dX12_home_9 rfl (lv_at hl 0 rfl) ?_
  refine lv_bipush (v := (-2)) hx hb dX12_home_10 (by decide) ?_
  refine z_calll (wc := [(h0, .inr (12, [.ref h1, .ref h2, .ref h3, .ref h4, .ref h5, .ref h6, .ref h7, .ref h8, .ref h9, .int 0, .int 0, .int 10, .int 0, .int 0, .int (-9), .int 0, .ref h10, .ref h11, .ref h12, .ref h13, .int 0, .int 0, .int 0, .ref h14, .int 0, .int 0, .int 0, .int (-9), .int 0, .ref h15, .int 0, .int 0, .int 0, .ref h16, .ref h17, .ref h18, .int 0, .int 0])), (h1, .inl (cI, 7, .inl (fun _ => 0)))]) (wr := []) (w1 := (fun _ => [(h0, .inr (12, [.ref h1, .ref h2, .ref h3, .ref h4, .ref h5, .ref h6, .ref h7, .ref h8, .ref h9, .int 0, .int 0, .int 10, .int 0, .int 0, .int (-9), .int 0, .ref h10, .ref h11, .ref h12, .ref h13, .int 0, .int 0, .int 0, .ref h14, .int 0, .int 0, .int 0, .int (-9), .int 0, .ref h15, .int 0, .int 0, .int 0, .ref h16, .ref h17, .ref h18, .int 0, .int 0])), (h1, .inl (cI, 7, .inl (upd (fun _ => 0) 2 1)))])) (va_runV (As := [.int (-2)]) (rest := []) ⟨hx, hb, hml, hown, hts⟩ (kX12_lowest l dC dI cI cQ h0 h1 h2 h3 h4 h5 h6 h7 h8 h9 h10 h11 h12 h13 h14 h15 h16 h17 h18 H.size) (cwV 1 hts gv_X12_home_X12_lowest_244 rfl rfl rfl (by decide +kernel) ⟨Nat.le_of_ble_eq_true rfl, Nat.le_of_ble_eq_true rfl⟩) ⟨z_blind, va_recv hK hP (ci := 12) (q0 := 0) rfl rfl, z_pre hZ hP hD [0, 1] rfl (by decide)⟩ rfl rfl hl.1 rfl (lv_room (Nat.le_of_ble_eq_true rfl)) dX12_home_12 ⟨Nat.le_of_ble_eq_true rfl, Nat.le_of_ble_eq_true rfl⟩) hP hD hS hA [0, 1] [] rfl rfl (by decide) (by decide) (fun _ H locs hP hD hS => ?_)
  have hP : va_P (dC, dI) vwCl [(h0, .inr (12, [.ref h1, .ref h2, .ref h3, .ref h4, .ref h5, .ref h6, .ref h7, .ref h8, .ref h9, .int 0, .int 0, .int 10, .int 0, .int 0, .int (-9), .int 0, .ref h10, .ref h11, .ref h12, .ref h13, .int 0, .int 0, .int 0, .ref h14, .int 0, .int 0, .int 0, .int (-9), .int 0, .ref h15, .int 0, .int 0, .int 0, .ref h16, .ref h17, .ref h18, .int 0, .int 0])), (h1, .inl (cI, 7, .inl (upd (fun _ => 0) 2 1)))] H := hP
  have hD : va_D A [(h0, .inr (12, [.ref h1, .ref h2, .ref h3, .ref h4, .ref h5, .ref h6, .ref h7, .ref h8, .ref h9, .int 0, .int 0, .int 10, .int 0, .int 0, .int (-9), .int 0, .ref h10, .ref h11, .ref h12, .ref h13, .int 0, .int 0, .int 0, .ref h14, .int 0, .int 0, .int 0, .int (-9), .int 0, .ref h15, .int 0, .int 0, .int 0, .ref h16, .ref h17, .ref h18, .int 0, .int 0])), (h1, .inl (cI, 7, .inl (upd (fun _ => 0) 2 1)))] := hD
  have hP9 := hP.sub (ws' := []) [] rfl
  have hD9 := hD.sub (ws' := []) [] (by decide) rfl
  exact W.lret (v := 4000000000000000002) hx hb hr (fun t ht hW => ⟨⟨4000000000000000002, (fun k => [].getD k 0), rfl, rfl, by rw [ht]; exact hP9, hD9⟩, hS.F ht⟩) hS.2.2 dX12_home_15
set_option maxHeartbeats 4000000 in
set_option maxRecDepth 100000 in
theorem kX12_isIn_4 (l : Launch) (dC : Nat → ClassId) (dI : Nat → Nat → Nat) (cI cQ : ClassId) (p0 : Int32) (hp0l : 0 ≤ p0.toInt) (hp0h : p0.toInt ≤ 1) (sz : Nat) : Met l yX12_isIn vsX12_isIn ({ frames := 0, cells := 0, slots := 0, locals := 0 }) (va_Pc [.int p0, .int 0, .int 1] (zB dC dI cI cQ [] sz)) (zQi dC dI (va_A [] sz) (fun ad => []) 1) 0 0 (va_A [] sz) := by
  refine Met.ofW (cc := cX12_isIn) (maxL := 3) (ret := (some .boolean)) (by decide) rfl ?_
  intro p e s m args below meth c s₁ B hml hv
  obtain ⟨rfl, hsz, hP, hZ, hD0⟩ := hv
  obtain ⟨hK, hAO, hN⟩ := id hZ
  have hx := B.exec
  have hb := B.bytes
  have hr := B.returns
  have hts := atoms_spec (ws := vsX12_isIn) B.pre
  have hown : s.vm.findClass RX12 = some m.cls := findClass_of_methodNamed B.named
  have hlocks := B.notSynchronized
  subst hsz
  have hD := hD0.self (sz := s.heap.size)
  generalize hAe : va_A [] s.heap.size = A at hD ⊢
  have hA : ∀ q : Nat, s.heap.size ≤ q → A q := fun q h => by rw [← hAe]; exact Or.inr h
  have hS : va_S A s.heap s.heap [] := va_S.rf
  have hP : va_P (dC, dI) vwCl [] s.heap := hP
  have hl := lv_entry ([.int p0, .int 0, .int 1]) (n := 3) (Nat.le_of_ble_eq_true rfl)
  rw [lg_entry_eq]
  generalize (lg_sl ([.int p0, .int 0, .int 1]) ++ List.replicate (3 - (lg_sl ([.int p0, .int 0, .int 1])).length) Slot.unset).toArray = ls at hl ⊢
  have hl : lv_has ls 3 [(0, .int p0), (1, .int 0), (2, .int 1)] := hl
  refine lv_iload_n hx hb dX12_isIn_0 rfl (lv_at hl 0 rfl) ?_
  refine lv_iload_n hx hb dX12_isIn_1 rfl (lv_at hl 1 rfl) ?_
  refine lv_icmp_lt (tgt := 14) hx hb dX12_isIn_2 (by decide) (fun hc => ?_) (fun hc => ?_)
  · exact absurd ((fa_lt _ _).mp hc) (by rw [show (0 : Int32).toInt = 0 from by decide]; omega)
  refine lv_iload_n hx hb dX12_isIn_5 rfl (lv_at hl 0 rfl) ?_
  refine lv_iload_n hx hb dX12_isIn_6 rfl (lv_at hl 2 rfl) ?_
  refine lv_icmp_gt (tgt := 14) hx hb dX12_isIn_7 (by decide) (fun hc => ?_) (fun hc => ?_)
  · exact absurd ((fa_lt _ _).mp hc) (by rw [show (1 : Int32).toInt = 1 from by decide]; omega)
  refine lv_iconst (v := 1) hx hb dX12_isIn_10 (by decide) ?_
  refine lv_goto (tgt := 15) hx hb dX12_isIn_11 (by decide) ?_
  have hP9 := hP.sub (ws' := []) [] rfl
  have hD9 := hD.sub (ws' := []) [] (by decide) rfl
  exact W.zret (v := 1) hx hb hr rfl (fun t ht hW => ⟨⟨1, (fun k => [].getD k 0), rfl, rfl, by rw [ht]; exact hP9, hD9⟩, hS.F ht⟩) hS.2.2 dX12_isIn_15
set_option maxHeartbeats 4000000 in
set_option maxRecDepth 100000 in
theorem kX12_lowest_1 (l : Launch) (dC : Nat → ClassId) (dI : Nat → Nat → Nat) (cI cQ : ClassId) (h0 h1 h2 h3 h4 h5 h6 h7 h8 h9 h10 h11 h12 h13 h14 h15 h16 h17 h18 : Nat) (sz : Nat) : Met l yX12_lowest vsX12_lowest ({ frames := 0, cells := 0, slots := 0, locals := 0 }) (va_Pc [.ref h0, .int (-3)] (zB dC dI cI cQ [(h0, .inr (12, [.ref h1, .ref h2, .ref h3, .ref h4, .ref h5, .ref h6, .ref h7, .ref h8, .ref h9, .int 0, .int 0, .int 10, .int 0, .int 0, .int (-9), .int 0, .ref h10, .ref h11, .ref h12, .ref h13, .int 0, .int 0, .int 0, .ref h14, .int 0, .int 0, .int 0, .int (-9), .int 0, .ref h15, .int 0, .int 0, .int 0, .ref h16, .ref h17, .ref h18, .int 0, .int 0])), (h1, .inl (cI, 7, .inl (fun _ => 0)))] sz)) (zQl dC dI (va_A [(h0, .inr (12, [.ref h1, .ref h2, .ref h3, .ref h4, .ref h5, .ref h6, .ref h7, .ref h8, .ref h9, .int 0, .int 0, .int 10, .int 0, .int 0, .int (-9), .int 0, .ref h10, .ref h11, .ref h12, .ref h13, .int 0, .int 0, .int 0, .ref h14, .int 0, .int 0, .int 0, .int (-9), .int 0, .ref h15, .int 0, .int 0, .int 0, .ref h16, .ref h17, .ref h18, .int 0, .int 0])), (h1, .inl (cI, 7, .inl (fun _ => 0)))] sz) (fun ad => [(h0, .inr (12, [.ref h1, .ref h2, .ref h3, .ref h4, .ref h5, .ref h6, .ref h7, .ref h8, .ref h9, .int 0, .int 0, .int 10, .int 0, .int 0, .int (-9), .int 0, .ref h10, .ref h11, .ref h12, .ref h13, .int 0, .int 0, .int 0, .ref h14, .int 0, .int 0, .int 0, .int (-9), .int 0, .ref h15, .int 0, .int 0, .int 0, .ref h16, .ref h17, .ref h18, .int 0, .int 0])), (h1, .inl (cI, 7, .inl (upd (fun _ => 0) 3 1)))]) 4000000000000000003) 0 0 (va_A [(h0, .inr (12, [.ref h1, .ref h2, .ref h3, .ref h4, .ref h5, .ref h6, .ref h7, .ref h8, .ref h9, .int 0, .int 0, .int 10, .int 0, .int 0, .int (-9), .int 0, .ref h10, .ref h11, .ref h12, .ref h13, .int 0, .int 0, .int 0, .ref h14, .int 0, .int 0, .int 0, .int (-9), .int 0, .ref h15, .int 0, .int 0, .int 0, .ref h16, .ref h17, .ref h18, .int 0, .int 0])), (h1, .inl (cI, 7, .inl (fun _ => 0)))] sz) := by
  refine Met.ofW (cc := cX12_lowest) (maxL := 2) (ret := (some .long)) (by decide) rfl ?_
  intro p e s m args below meth c s₁ B hml hv
  obtain ⟨rfl, hsz, hP, hZ, hD0⟩ := hv
  obtain ⟨hK, hAO, hN⟩ := id hZ
  have hx := B.exec
  have hb := B.bytes
  have hr := B.returns
  have hts := atoms_spec (ws := vsX12_lowest) B.pre
  have hown : s.vm.findClass RX12 = some m.cls := findClass_of_methodNamed B.named
  have hlocks := B.notSynchronized
  subst hsz
  have hD := hD0.self (sz := s.heap.size)
  generalize hAe : va_A [(h0, .inr (12, [.ref h1, .ref h2, .ref h3, .ref h4, .ref h5, .ref h6, .ref h7, .ref h8, .ref h9, .int 0, .int 0, .int 10, .int 0, .int 0, .int (-9), .int 0, .ref h10, .ref h11, .ref h12, .ref h13, .int 0, .int 0, .int 0, .ref h14, .int 0, .int 0, .int 0, .int (-9), .int 0, .ref h15, .int 0, .int 0, .int 0, .ref h16, .ref h17, .ref h18, .int 0, .int 0])), (h1, .inl (cI, 7, .inl (fun _ => 0)))] s.heap.size = A at hD ⊢
  have hA : ∀ q : Nat, s.heap.size ≤ q → A q := fun q h => by rw [← hAe]; exact Or.inr h
  have hS : va_S A s.heap s.heap [] := va_S.rf
  have hP : va_P (dC, dI) vwCl [(h0, .inr (12, [.ref h1, .ref h2, .ref h3, .ref h4, .ref h5, .ref h6, .ref h7, .ref h8, .ref h9, .int 0, .int 0, .int 10, .int 0, .int 0, .int (-9), .int 0, .ref h10, .ref h11, .ref h12, .ref h13, .int 0, .int 0, .int 0, .ref h14, .int 0, .int 0, .int 0, .int (-9), .int 0, .ref h15, .int 0, .int 0, .int 0, .ref h16, .ref h17, .ref h18, .int 0, .int 0])), (h1, .inl (cI, 7, .inl (fun _ => 0)))] s.heap := hP
  have hl := lv_entry ([.ref h0, .int (-3)]) (n := 2) (Nat.le_of_ble_eq_true rfl)
  rw [lg_entry_eq]
  generalize (lg_sl ([.ref h0, .int (-3)]) ++ List.replicate (2 - (lg_sl ([.ref h0, .int (-3)])).length) Slot.unset).toArray = ls at hl ⊢
  have hl : lv_has ls 2 [(0, .ref h0), (1, .int (-3))] := hl
  refine lv_aload_n hx hb dX12_lowest_0 rfl (lv_at hl 0 rfl) ?_
  refine va_get (D := (dC, dI)) (ci := 12) (v := .ref h1) (C := RX12) (T := TX12) (N := 38) hx hb hts in_X12_lowest_X12 hown hK hP 0 rfl rfl 0 (by decide) (hts (.fieldLink RX12 7 "EachOnHisCueModel" "refused" "[I") (by decide +kernel)) (fun _ h9 => h9) rfl dX12_lowest_1 ?_
  refine lv_iload_n hx hb dX12_lowest_4 rfl (lv_at hl 1 rfl) ?_
  refine lv_ineg hx hb dX12_lowest_5 ?_
  refine lv_topi (fun y1 ey1 => ?_)
  obtain rfl : y1 = 3 := ey1.trans (by decide)
  refine lv_dup2_11 hx hb dX12_lowest_6 rfl rfl ?_
  refine va_iald hx hb hK hP 1 0 rfl rfl (by unfold vp_in; decide) dX12_lowest_7 ?_
  refine lv_topi (fun y2 ey2 => ?_)
  obtain rfl : y2 = 0 := ey2.trans (by first | rfl | decide)
  refine lv_iconst (v := 1) hx hb dX12_lowest_8 (by decide) ?_
  refine lv_iadd hx hb dX12_lowest_9 ?_
  refine lv_topi (fun y3 ey3 => ?_)
  obtain rfl : y3 = 1 := ey3.trans (by decide)
  refine va_iast hx hb hK hP hD hS 1 0 rfl rfl (by unfold vp_in; decide) dX12_lowest_10 (fun H locs hP hD hS => ?_)
  have hP : va_P (dC, dI) vwCl [(h0, .inr (12, [.ref h1, .ref h2, .ref h3, .ref h4, .ref h5, .ref h6, .ref h7, .ref h8, .ref h9, .int 0, .int 0, .int 10, .int 0, .int 0, .int (-9), .int 0, .ref h10, .ref h11, .ref h12, .ref h13, .int 0, .int 0, .int 0, .ref h14, .int 0, .int 0, .int 0, .int (-9), .int 0, .ref h15, .int 0, .int 0, .int 0, .ref h16, .ref h17, .ref h18, .int 0, .int 0])), (h1, .inl (cI, 7, .inl (upd (fun _ => 0) 3 1)))] H := hP
  have hD : va_D A [(h0, .inr (12, [.ref h1, .ref h2, .ref h3, .ref h4, .ref h5, .ref h6, .ref h7, .ref h8, .ref h9, .int 0, .int 0, .int 10, .int 0, .int 0, .int (-9), .int 0, .ref h10, .ref h11, .ref h12, .ref h13, .int 0, .int 0, .int 0, .ref h14, .int 0, .int 0, .int 0, .int (-9), .int 0, .ref h15, .int 0, .int 0, .int 0, .ref h16, .ref h17, .ref h18, .int 0, .int 0])), (h1, .inl (cI, 7, .inl (upd (fun _ => 0) 3 1)))] := hD
  refine lv_ldc2 (own := RX12) (v := 4000000000000000000) hx hb hown (hts (.constantLong RX12 74 (4000000000000000000)) (by decide +kernel)) dX12_lowest_11 ?_
  refine lv_iload_n hx hb dX12_lowest_14 rfl (lv_at hl 1 rfl) ?_
  refine lv_i2l (v := (-3)) hx hb dX12_lowest_15 (by decide) ?_
  refine lv_lsub hx hb dX12_lowest_16 ?_
  refine lv_topl (fun y4 ey4 => ?_)
  obtain rfl : y4 = 4000000000000000003 := ey4.trans (by decide)
  have hP9 := hP.sub (ws' := [(h0, .inr (12, [.ref h1, .ref h2, .ref h3, .ref h4, .ref h5, .ref h6, .ref h7, .ref h8, .ref h9, .int 0, .int 0, .int 10, .int 0, .int 0, .int (-9), .int 0, .ref h10, .ref h11, .ref h12, .ref h13, .int 0, .int 0, .int 0, .ref h14, .int 0, .int 0, .int 0, .int (-9), .int 0, .ref h15, .int 0, .int 0, .int 0, .ref h16, .ref h17, .ref h18, .int 0, .int 0])), (h1, .inl (cI, 7, .inl (upd (fun _ => 0) 3 1)))]) [0, 1] rfl
  have hD9 := hD.sub (ws' := [(h0, .inr (12, [.ref h1, .ref h2, .ref h3, .ref h4, .ref h5, .ref h6, .ref h7, .ref h8, .ref h9, .int 0, .int 0, .int 10, .int 0, .int 0, .int (-9), .int 0, .ref h10, .ref h11, .ref h12, .ref h13, .int 0, .int 0, .int 0, .ref h14, .int 0, .int 0, .int 0, .int (-9), .int 0, .ref h15, .int 0, .int 0, .int 0, .ref h16, .ref h17, .ref h18, .int 0, .int 0])), (h1, .inl (cI, 7, .inl (upd (fun _ => 0) 3 1)))]) [0, 1] (by decide) rfl
  exact W.lret (v := 4000000000000000003) hx hb hr (fun t ht hW => ⟨⟨4000000000000000003, (fun k => [].getD k 0), rfl, rfl, by rw [ht]; exact hP9, hD9⟩, hS.F ht⟩) hS.2.2 dX12_lowest_17
set_option maxHeartbeats 4000000 in
set_option maxRecDepth 100000 in
theorem kX12_home_1 (l : Launch) (dC : Nat → ClassId) (dI : Nat → Nat → Nat) (cI cQ : ClassId) (h0 h1 h2 h3 h4 h5 h6 h7 h8 h9 h10 h11 h12 h13 h14 h15 h16 h17 h18 : Nat) (p0 : Int32) (hp0l : 0 ≤ p0.toInt) (hp0h : p0.toInt ≤ 1) (sz : Nat) : Met l yX12_home vsX12_home ({ frames := 1, cells := 0, slots := 0, locals := 22 }) (va_Pc [.ref h0, .int p0] (zB dC dI cI cQ [(h0, .inr (12, [.ref h1, .ref h2, .ref h3, .ref h4, .ref h5, .ref h6, .ref h7, .ref h8, .ref h9, .int 0, .int 0, .int 10, .int 0, .int 0, .int (-9), .int 0, .ref h10, .ref h11, .ref h12, .ref h13, .int 0, .int 0, .int 0, .ref h14, .int 0, .int 0, .int 0, .int (-9), .int 0, .ref h15, .int 0, .int 0, .int 0, .ref h16, .ref h17, .ref h18, .int 0, .int 0])), (h1, .inl (cI, 7, .inl (fun _ => 0)))] sz)) (zQl dC dI (va_A [(h0, .inr (12, [.ref h1, .ref h2, .ref h3, .ref h4, .ref h5, .ref h6, .ref h7, .ref h8, .ref h9, .int 0, .int 0, .int 10, .int 0, .int 0, .int (-9), .int 0, .ref h10, .ref h11, .ref h12, .ref h13, .int 0, .int 0, .int 0, .ref h14, .int 0, .int 0, .int 0, .int (-9), .int 0, .ref h15, .int 0, .int 0, .int 0, .ref h16, .ref h17, .ref h18, .int 0, .int 0])), (h1, .inl (cI, 7, .inl (fun _ => 0)))] sz) (fun ad => []) 4000000000000000003) 0 0 (va_A [(h0, .inr (12, [.ref h1, .ref h2, .ref h3, .ref h4, .ref h5, .ref h6, .ref h7, .ref h8, .ref h9, .int 0, .int 0, .int 10, .int 0, .int 0, .int (-9), .int 0, .ref h10, .ref h11, .ref h12, .ref h13, .int 0, .int 0, .int 0, .ref h14, .int 0, .int 0, .int 0, .int (-9), .int 0, .ref h15, .int 0, .int 0, .int 0, .ref h16, .ref h17, .ref h18, .int 0, .int 0])), (h1, .inl (cI, 7, .inl (fun _ => 0)))] sz) := by
  refine Met.ofW (cc := cX12_home) (maxL := 7) (ret := (some .long)) (by decide) rfl ?_
  intro p e s m args below meth c s₁ B hml hv
  obtain ⟨rfl, hsz, hP, hZ, hD0⟩ := hv
  obtain ⟨hK, hAO, hN⟩ := id hZ
  have hx := B.exec
  have hb := B.bytes
  have hr := B.returns
  have hts := atoms_spec (ws := vsX12_home) B.pre
  have hown : s.vm.findClass RX12 = some m.cls := findClass_of_methodNamed B.named
  have hlocks := B.notSynchronized
  subst hsz
  have hD := hD0.self (sz := s.heap.size)
  generalize hAe : va_A [(h0, .inr (12, [.ref h1, .ref h2, .ref h3, .ref h4, .ref h5, .ref h6, .ref h7, .ref h8, .ref h9, .int 0, .int 0, .int 10, .int 0, .int 0, .int (-9), .int 0, .ref h10, .ref h11, .ref h12, .ref h13, .int 0, .int 0, .int 0, .ref h14, .int 0, .int 0, .int 0, .int (-9), .int 0, .ref h15, .int 0, .int 0, .int 0, .ref h16, .ref h17, .ref h18, .int 0, .int 0])), (h1, .inl (cI, 7, .inl (fun _ => 0)))] s.heap.size = A at hD ⊢
  have hA : ∀ q : Nat, s.heap.size ≤ q → A q := fun q h => by rw [← hAe]; exact Or.inr h
  have hS : va_S A s.heap s.heap [] := va_S.rf
  have hP : va_P (dC, dI) vwCl [(h0, .inr (12, [.ref h1, .ref h2, .ref h3, .ref h4, .ref h5, .ref h6, .ref h7, .ref h8, .ref h9, .int 0, .int 0, .int 10, .int 0, .int 0, .int (-9), .int 0, .ref h10, .ref h11, .ref h12, .ref h13, .int 0, .int 0, .int 0, .ref h14, .int 0, .int 0, .int 0, .int (-9), .int 0, .ref h15, .int 0, .int 0, .int 0, .ref h16, .ref h17, .ref h18, .int 0, .int 0])), (h1, .inl (cI, 7, .inl (fun _ => 0)))] s.heap := hP
  have hl := lv_entry ([.ref h0, .int p0]) (n := 7) (Nat.le_of_ble_eq_true rfl)
  rw [lg_entry_eq]
  generalize (lg_sl ([.ref h0, .int p0]) ++ List.replicate (7 - (lg_sl ([.ref h0, .int p0])).length) Slot.unset).toArray = ls at hl ⊢
  have hl : lv_has ls 7 [(0, .ref h0), (1, .int p0)] := hl
  refine lv_iload_n hx hb dX12_home_0 rfl (lv_at hl 1 rfl) ?_
  refine lv_iconst (v := 0) hx hb dX12_home_1 (by decide) ?_
  refine lv_iconst (v := 1) hx hb dX12_home_2 (by decide) ?_
  refine z_calli (wc := []) (wr := [(h0, .inr (12, [.ref h1, .ref h2, .ref h3, .ref h4, .ref h5, .ref h6, .ref h7, .ref h8, .ref h9, .int 0, .int 0, .int 10, .int 0, .int 0, .int (-9), .int 0, .ref h10, .ref h11, .ref h12, .ref h13, .int 0, .int 0, .int 0, .ref h14, .int 0, .int 0, .int 0, .int (-9), .int 0, .ref h15, .int 0, .int 0, .int 0, .ref h16, .ref h17, .ref h18, .int 0, .int 0])), (h1, .inl (cI, 7, .inl (fun _ => 0)))]) (w1 := (fun _ => [])) (va_runS (As := [.int p0, .int 0, .int 1]) (rest := []) ⟨hx, hb, hml, hown, hts⟩ (kX12_isIn_4 l dC dI cI cQ p0 hp0l hp0h s.heap.size) (va_cwS 3 hts gv_X12_home_X12_isIn_100 rfl rfl rfl (by decide +kernel) ⟨Nat.le_of_ble_eq_true rfl, Nat.le_of_ble_eq_true rfl⟩) ⟨z_blind, z_pre hZ hP hD [] rfl (by decide)⟩ rfl rfl hl.1 rfl (lv_room (Nat.le_of_ble_eq_true rfl)) dX12_home_3 ⟨Nat.le_of_ble_eq_true rfl, Nat.le_of_ble_eq_true rfl⟩) hP hD hS hA [] [0, 1] rfl rfl (by decide) (by decide) (fun _ H locs hP hD hS => ?_)
  have hP : va_P (dC, dI) vwCl [(h0, .inr (12, [.ref h1, .ref h2, .ref h3, .ref h4, .ref h5, .ref h6, .ref h7, .ref h8, .ref h9, .int 0, .int 0, .int 10, .int 0, .int 0, .int (-9), .int 0, .ref h10, .ref h11, .ref h12, .ref h13, .int 0, .int 0, .int 0, .ref h14, .int 0, .int 0, .int 0, .int (-9), .int 0, .ref h15, .int 0, .int 0, .int 0, .ref h16, .ref h17, .ref h18, .int 0, .int 0])), (h1, .inl (cI, 7, .inl (fun _ => 0)))] H := hP
  have hD : va_D A [(h0, .inr (12, [.ref h1, .ref h2, .ref h3, .ref h4, .ref h5, .ref h6, .ref h7, .ref h8, .ref h9, .int 0, .int 0, .int 10, .int 0, .int 0, .int (-9), .int 0, .ref h10, .ref h11, .ref h12, .ref h13, .int 0, .int 0, .int 0, .ref h14, .int 0, .int 0, .int 0, .int (-9), .int 0, .ref h15, .int 0, .int 0, .int 0, .ref h16, .ref h17, .ref h18, .int 0, .int 0])), (h1, .inl (cI, 7, .inl (fun _ => 0)))] := hD
  refine lv_if_ne (tgt := 16) hx hb dX12_home_6 (by decide) (fun hc => ?_) (fun hc => ?_)
  rotate_left; exact absurd hc (by decide)
  refine lv_aload_n hx hb dX12_home_16 rfl (lv_at hl 0 rfl) ?_
  refine va_get (D := (dC, dI)) (ci := 12) (v := .int 0) (C := RX12) (T := TX12) (N := 38) hx hb hts in_X12_home_X12 hown hK hP 0 rfl rfl 10 (by decide) (hts (.fieldLink RX12 79 "EachOnHisCueModel" "lines" "I") (by decide +kernel)) (fun _ h9 => h9) rfl dX12_home_17 ?_
  refine lv_if_ne (tgt := 30) hx hb dX12_home_20 (by decide) (fun hc => ?_) (fun hc => ?_)
  · exact absurd hc (by decide)
  refine lv_aload_n hx hb dX12_home_23 rfl (lv_at hl 0 rfl) ?_
  refine lv_bipush (v := (-3)) hx hb dX12_home_24 (by decide) ?_
  refine z_calll (wc := [(h0, .inr (12, [.ref h1, .ref h2, .ref h3, .ref h4, .ref h5, .ref h6, .ref h7, .ref h8, .ref h9, .int 0, .int 0, .int 10, .int 0, .int 0, .int (-9), .int 0, .ref h10, .ref h11, .ref h12, .ref h13, .int 0, .int 0, .int 0, .ref h14, .int 0, .int 0, .int 0, .int (-9), .int 0, .ref h15, .int 0, .int 0, .int 0, .ref h16, .ref h17, .ref h18, .int 0, .int 0])), (h1, .inl (cI, 7, .inl (fun _ => 0)))]) (wr := []) (w1 := (fun _ => [(h0, .inr (12, [.ref h1, .ref h2, .ref h3, .ref h4, .ref h5, .ref h6, .ref h7, .ref h8, .ref h9, .int 0, .int 0, .int 10, .int 0, .int 0, .int (-9), .int 0, .ref h10, .ref h11, .ref h12, .ref h13, .int 0, .int 0, .int 0, .ref h14, .int 0, .int 0, .int 0, .int (-9), .int 0, .ref h15, .int 0, .int 0, .int 0, .ref h16, .ref h17, .ref h18, .int 0, .int 0])), (h1, .inl (cI, 7, .inl (upd (fun _ => 0) 3 1)))])) (va_runV (As := [.int (-3)]) (rest := []) ⟨hx, hb, hml, hown, hts⟩ (kX12_lowest_1 l dC dI cI cQ h0 h1 h2 h3 h4 h5 h6 h7 h8 h9 h10 h11 h12 h13 h14 h15 h16 h17 h18 H.size) (cwV 1 hts gv_X12_home_X12_lowest_244 rfl rfl rfl (by decide +kernel) ⟨Nat.le_of_ble_eq_true rfl, Nat.le_of_ble_eq_true rfl⟩) ⟨z_blind, va_recv hK hP (ci := 12) (q0 := 0) rfl rfl, z_pre hZ hP hD [0, 1] rfl (by decide)⟩ rfl rfl hl.1 rfl (lv_room (Nat.le_of_ble_eq_true rfl)) dX12_home_26 ⟨Nat.le_of_ble_eq_true rfl, Nat.le_of_ble_eq_true rfl⟩) hP hD hS hA [0, 1] [] rfl rfl (by decide) (by decide) (fun _ H locs hP hD hS => ?_)
  have hP : va_P (dC, dI) vwCl [(h0, .inr (12, [.ref h1, .ref h2, .ref h3, .ref h4, .ref h5, .ref h6, .ref h7, .ref h8, .ref h9, .int 0, .int 0, .int 10, .int 0, .int 0, .int (-9), .int 0, .ref h10, .ref h11, .ref h12, .ref h13, .int 0, .int 0, .int 0, .ref h14, .int 0, .int 0, .int 0, .int (-9), .int 0, .ref h15, .int 0, .int 0, .int 0, .ref h16, .ref h17, .ref h18, .int 0, .int 0])), (h1, .inl (cI, 7, .inl (upd (fun _ => 0) 3 1)))] H := hP
  have hD : va_D A [(h0, .inr (12, [.ref h1, .ref h2, .ref h3, .ref h4, .ref h5, .ref h6, .ref h7, .ref h8, .ref h9, .int 0, .int 0, .int 10, .int 0, .int 0, .int (-9), .int 0, .ref h10, .ref h11, .ref h12, .ref h13, .int 0, .int 0, .int 0, .ref h14, .int 0, .int 0, .int 0, .int (-9), .int 0, .ref h15, .int 0, .int 0, .int 0, .ref h16, .ref h17, .ref h18, .int 0, .int 0])), (h1, .inl (cI, 7, .inl (upd (fun _ => 0) 3 1)))] := hD
  have hP9 := hP.sub (ws' := []) [] rfl
  have hD9 := hD.sub (ws' := []) [] (by decide) rfl
  exact W.lret (v := 4000000000000000003) hx hb hr (fun t ht hW => ⟨⟨4000000000000000003, (fun k => [].getD k 0), rfl, rfl, by rw [ht]; exact hP9, hD9⟩, hS.F ht⟩) hS.2.2 dX12_home_29
set_option maxHeartbeats 4000000 in
set_option maxRecDepth 100000 in
theorem kX12_isIn_5 (l : Launch) (dC : Nat → ClassId) (dI : Nat → Nat → Nat) (cI cQ : ClassId) (p0 : Int32) (hp0l : 2 ≤ p0.toInt) (hp0h : p0.toInt ≤ 2147483647) (sz : Nat) : Met l yX12_isIn vsX12_isIn ({ frames := 0, cells := 0, slots := 0, locals := 0 }) (va_Pc [.int p0, .int 0, .int 1] (zB dC dI cI cQ [] sz)) (zQi dC dI (va_A [] sz) (fun ad => []) 0) 0 0 (va_A [] sz) := by
  refine Met.ofW (cc := cX12_isIn) (maxL := 3) (ret := (some .boolean)) (by decide) rfl ?_
  intro p e s m args below meth c s₁ B hml hv
  obtain ⟨rfl, hsz, hP, hZ, hD0⟩ := hv
  obtain ⟨hK, hAO, hN⟩ := id hZ
  have hx := B.exec
  have hb := B.bytes
  have hr := B.returns
  have hts := atoms_spec (ws := vsX12_isIn) B.pre
  have hown : s.vm.findClass RX12 = some m.cls := findClass_of_methodNamed B.named
  have hlocks := B.notSynchronized
  subst hsz
  have hD := hD0.self (sz := s.heap.size)
  generalize hAe : va_A [] s.heap.size = A at hD ⊢
  have hA : ∀ q : Nat, s.heap.size ≤ q → A q := fun q h => by rw [← hAe]; exact Or.inr h
  have hS : va_S A s.heap s.heap [] := va_S.rf
  have hP : va_P (dC, dI) vwCl [] s.heap := hP
  have hl := lv_entry ([.int p0, .int 0, .int 1]) (n := 3) (Nat.le_of_ble_eq_true rfl)
  rw [lg_entry_eq]
  generalize (lg_sl ([.int p0, .int 0, .int 1]) ++ List.replicate (3 - (lg_sl ([.int p0, .int 0, .int 1])).length) Slot.unset).toArray = ls at hl ⊢
  have hl : lv_has ls 3 [(0, .int p0), (1, .int 0), (2, .int 1)] := hl
  refine lv_iload_n hx hb dX12_isIn_0 rfl (lv_at hl 0 rfl) ?_
  refine lv_iload_n hx hb dX12_isIn_1 rfl (lv_at hl 1 rfl) ?_
  refine lv_icmp_lt (tgt := 14) hx hb dX12_isIn_2 (by decide) (fun hc => ?_) (fun hc => ?_)
  · exact absurd ((fa_lt _ _).mp hc) (by rw [show (0 : Int32).toInt = 0 from by decide]; omega)
  refine lv_iload_n hx hb dX12_isIn_5 rfl (lv_at hl 0 rfl) ?_
  refine lv_iload_n hx hb dX12_isIn_6 rfl (lv_at hl 2 rfl) ?_
  refine lv_icmp_gt (tgt := 14) hx hb dX12_isIn_7 (by decide) (fun hc => ?_) (fun hc => ?_)
  rotate_left; exact absurd ((fa_lt _ _).mpr (by rw [show (1 : Int32).toInt = 1 from by decide]; omega)) hc
  refine lv_iconst (v := 0) hx hb dX12_isIn_14 (by decide) ?_
  have hP9 := hP.sub (ws' := []) [] rfl
  have hD9 := hD.sub (ws' := []) [] (by decide) rfl
  exact W.zret (v := 0) hx hb hr rfl (fun t ht hW => ⟨⟨0, (fun k => [].getD k 0), rfl, rfl, by rw [ht]; exact hP9, hD9⟩, hS.F ht⟩) hS.2.2 dX12_isIn_15
set_option maxHeartbeats 4000000 in
set_option maxRecDepth 100000 in
theorem kX12_home_2 (l : Launch) (dC : Nat → ClassId) (dI : Nat → Nat → Nat) (cI cQ : ClassId) (h0 h1 h2 h3 h4 h5 h6 h7 h8 h9 h10 h11 h12 h13 h14 h15 h16 h17 h18 : Nat) (p0 : Int32) (hp0l : 2 ≤ p0.toInt) (hp0h : p0.toInt ≤ 2147483647) (sz : Nat) : Met l yX12_home vsX12_home ({ frames := 1, cells := 0, slots := 0, locals := 22 }) (va_Pc [.ref h0, .int p0] (zB dC dI cI cQ [(h0, .inr (12, [.ref h1, .ref h2, .ref h3, .ref h4, .ref h5, .ref h6, .ref h7, .ref h8, .ref h9, .int 0, .int 0, .int 10, .int 0, .int 0, .int (-9), .int 0, .ref h10, .ref h11, .ref h12, .ref h13, .int 0, .int 0, .int 0, .ref h14, .int 0, .int 0, .int 0, .int (-9), .int 0, .ref h15, .int 0, .int 0, .int 0, .ref h16, .ref h17, .ref h18, .int 0, .int 0])), (h1, .inl (cI, 7, .inl (fun _ => 0)))] sz)) (zQl dC dI (va_A [(h0, .inr (12, [.ref h1, .ref h2, .ref h3, .ref h4, .ref h5, .ref h6, .ref h7, .ref h8, .ref h9, .int 0, .int 0, .int 10, .int 0, .int 0, .int (-9), .int 0, .ref h10, .ref h11, .ref h12, .ref h13, .int 0, .int 0, .int 0, .ref h14, .int 0, .int 0, .int 0, .int (-9), .int 0, .ref h15, .int 0, .int 0, .int 0, .ref h16, .ref h17, .ref h18, .int 0, .int 0])), (h1, .inl (cI, 7, .inl (fun _ => 0)))] sz) (fun ad => []) 4000000000000000002) 0 0 (va_A [(h0, .inr (12, [.ref h1, .ref h2, .ref h3, .ref h4, .ref h5, .ref h6, .ref h7, .ref h8, .ref h9, .int 0, .int 0, .int 10, .int 0, .int 0, .int (-9), .int 0, .ref h10, .ref h11, .ref h12, .ref h13, .int 0, .int 0, .int 0, .ref h14, .int 0, .int 0, .int 0, .int (-9), .int 0, .ref h15, .int 0, .int 0, .int 0, .ref h16, .ref h17, .ref h18, .int 0, .int 0])), (h1, .inl (cI, 7, .inl (fun _ => 0)))] sz) := by
  refine Met.ofW (cc := cX12_home) (maxL := 7) (ret := (some .long)) (by decide) rfl ?_
  intro p e s m args below meth c s₁ B hml hv
  obtain ⟨rfl, hsz, hP, hZ, hD0⟩ := hv
  obtain ⟨hK, hAO, hN⟩ := id hZ
  have hx := B.exec
  have hb := B.bytes
  have hr := B.returns
  have hts := atoms_spec (ws := vsX12_home) B.pre
  have hown : s.vm.findClass RX12 = some m.cls := findClass_of_methodNamed B.named
  have hlocks := B.notSynchronized
  subst hsz
  have hD := hD0.self (sz := s.heap.size)
  generalize hAe : va_A [(h0, .inr (12, [.ref h1, .ref h2, .ref h3, .ref h4, .ref h5, .ref h6, .ref h7, .ref h8, .ref h9, .int 0, .int 0, .int 10, .int 0, .int 0, .int (-9), .int 0, .ref h10, .ref h11, .ref h12, .ref h13, .int 0, .int 0, .int 0, .ref h14, .int 0, .int 0, .int 0, .int (-9), .int 0, .ref h15, .int 0, .int 0, .int 0, .ref h16, .ref h17, .ref h18, .int 0, .int 0])), (h1, .inl (cI, 7, .inl (fun _ => 0)))] s.heap.size = A at hD ⊢
  have hA : ∀ q : Nat, s.heap.size ≤ q → A q := fun q h => by rw [← hAe]; exact Or.inr h
  have hS : va_S A s.heap s.heap [] := va_S.rf
  have hP : va_P (dC, dI) vwCl [(h0, .inr (12, [.ref h1, .ref h2, .ref h3, .ref h4, .ref h5, .ref h6, .ref h7, .ref h8, .ref h9, .int 0, .int 0, .int 10, .int 0, .int 0, .int (-9), .int 0, .ref h10, .ref h11, .ref h12, .ref h13, .int 0, .int 0, .int 0, .ref h14, .int 0, .int 0, .int 0, .int (-9), .int 0, .ref h15, .int 0, .int 0, .int 0, .ref h16, .ref h17, .ref h18, .int 0, .int 0])), (h1, .inl (cI, 7, .inl (fun _ => 0)))] s.heap := hP
  have hl := lv_entry ([.ref h0, .int p0]) (n := 7) (Nat.le_of_ble_eq_true rfl)
  rw [lg_entry_eq]
  generalize (lg_sl ([.ref h0, .int p0]) ++ List.replicate (7 - (lg_sl ([.ref h0, .int p0])).length) Slot.unset).toArray = ls at hl ⊢
  have hl : lv_has ls 7 [(0, .ref h0), (1, .int p0)] := hl
  refine lv_iload_n hx hb dX12_home_0 rfl (lv_at hl 1 rfl) ?_
  refine lv_iconst (v := 0) hx hb dX12_home_1 (by decide) ?_
  refine lv_iconst (v := 1) hx hb dX12_home_2 (by decide) ?_
  refine z_calli (wc := []) (wr := [(h0, .inr (12, [.ref h1, .ref h2, .ref h3, .ref h4, .ref h5, .ref h6, .ref h7, .ref h8, .ref h9, .int 0, .int 0, .int 10, .int 0, .int 0, .int (-9), .int 0, .ref h10, .ref h11, .ref h12, .ref h13, .int 0, .int 0, .int 0, .ref h14, .int 0, .int 0, .int 0, .int (-9), .int 0, .ref h15, .int 0, .int 0, .int 0, .ref h16, .ref h17, .ref h18, .int 0, .int 0])), (h1, .inl (cI, 7, .inl (fun _ => 0)))]) (w1 := (fun _ => [])) (va_runS (As := [.int p0, .int 0, .int 1]) (rest := []) ⟨hx, hb, hml, hown, hts⟩ (kX12_isIn_5 l dC dI cI cQ p0 hp0l hp0h s.heap.size) (va_cwS 3 hts gv_X12_home_X12_isIn_100 rfl rfl rfl (by decide +kernel) ⟨Nat.le_of_ble_eq_true rfl, Nat.le_of_ble_eq_true rfl⟩) ⟨z_blind, z_pre hZ hP hD [] rfl (by decide)⟩ rfl rfl hl.1 rfl (lv_room (Nat.le_of_ble_eq_true rfl)) dX12_home_3 ⟨Nat.le_of_ble_eq_true rfl, Nat.le_of_ble_eq_true rfl⟩) hP hD hS hA [] [0, 1] rfl rfl (by decide) (by decide) (fun _ H locs hP hD hS => ?_)
  have hP : va_P (dC, dI) vwCl [(h0, .inr (12, [.ref h1, .ref h2, .ref h3, .ref h4, .ref h5, .ref h6, .ref h7, .ref h8, .ref h9, .int 0, .int 0, .int 10, .int 0, .int 0, .int (-9), .int 0, .ref h10, .ref h11, .ref h12, .ref h13, .int 0, .int 0, .int 0, .ref h14, .int 0, .int 0, .int 0, .int (-9), .int 0, .ref h15, .int 0, .int 0, .int 0, .ref h16, .ref h17, .ref h18, .int 0, .int 0])), (h1, .inl (cI, 7, .inl (fun _ => 0)))] H := hP
  have hD : va_D A [(h0, .inr (12, [.ref h1, .ref h2, .ref h3, .ref h4, .ref h5, .ref h6, .ref h7, .ref h8, .ref h9, .int 0, .int 0, .int 10, .int 0, .int 0, .int (-9), .int 0, .ref h10, .ref h11, .ref h12, .ref h13, .int 0, .int 0, .int 0, .ref h14, .int 0, .int 0, .int 0, .int (-9), .int 0, .ref h15, .int 0, .int 0, .int 0, .ref h16, .ref h17, .ref h18, .int 0, .int 0])), (h1, .inl (cI, 7, .inl (fun _ => 0)))] := hD
  refine lv_if_ne (tgt := 16) hx hb dX12_home_6 (by decide) (fun hc => ?_) (fun hc => ?_)
  · exact absurd hc (by decide)
  refine lv_aload_n hx hb dX12_home_9 rfl (lv_at hl 0 rfl) ?_
  refine lv_bipush (v := (-2)) hx hb dX12_home_10 (by decide) ?_
  refine z_calll (wc := [(h0, .inr (12, [.ref h1, .ref h2, .ref h3, .ref h4, .ref h5, .ref h6, .ref h7, .ref h8, .ref h9, .int 0, .int 0, .int 10, .int 0, .int 0, .int (-9), .int 0, .ref h10, .ref h11, .ref h12, .ref h13, .int 0, .int 0, .int 0, .ref h14, .int 0, .int 0, .int 0, .int (-9), .int 0, .ref h15, .int 0, .int 0, .int 0, .ref h16, .ref h17, .ref h18, .int 0, .int 0])), (h1, .inl (cI, 7, .inl (fun _ => 0)))]) (wr := []) (w1 := (fun _ => [(h0, .inr (12, [.ref h1, .ref h2, .ref h3, .ref h4, .ref h5, .ref h6, .ref h7, .ref h8, .ref h9, .int 0, .int 0, .int 10, .int 0, .int 0, .int (-9), .int 0, .ref h10, .ref h11, .ref h12, .ref h13, .int 0, .int 0, .int 0, .ref h14, .int 0, .int 0, .int 0, .int (-9), .int 0, .ref h15, .int 0, .int 0, .int 0, .ref h16, .ref h17, .ref h18, .int 0, .int 0])), (h1, .inl (cI, 7, .inl (upd (fun _ => 0) 2 1)))])) (va_runV (As := [.int (-2)]) (rest := []) ⟨hx, hb, hml, hown, hts⟩ (kX12_lowest l dC dI cI cQ h0 h1 h2 h3 h4 h5 h6 h7 h8 h9 h10 h11 h12 h13 h14 h15 h16 h17 h18 H.size) (cwV 1 hts gv_X12_home_X12_lowest_244 rfl rfl rfl (by decide +kernel) ⟨Nat.le_of_ble_eq_true rfl, Nat.le_of_ble_eq_true rfl⟩) ⟨z_blind, va_recv hK hP (ci := 12) (q0 := 0) rfl rfl, z_pre hZ hP hD [0, 1] rfl (by decide)⟩ rfl rfl hl.1 rfl (lv_room (Nat.le_of_ble_eq_true rfl)) dX12_home_12 ⟨Nat.le_of_ble_eq_true rfl, Nat.le_of_ble_eq_true rfl⟩) hP hD hS hA [0, 1] [] rfl rfl (by decide) (by decide) (fun _ H locs hP hD hS => ?_)
  have hP : va_P (dC, dI) vwCl [(h0, .inr (12, [.ref h1, .ref h2, .ref h3, .ref h4, .ref h5, .ref h6, .ref h7, .ref h8, .ref h9, .int 0, .int 0, .int 10, .int 0, .int 0, .int (-9), .int 0, .ref h10, .ref h11, .ref h12, .ref h13, .int 0, .int 0, .int 0, .ref h14, .int 0, .int 0, .int 0, .int (-9), .int 0, .ref h15, .int 0, .int 0, .int 0, .ref h16, .ref h17, .ref h18, .int 0, .int 0])), (h1, .inl (cI, 7, .inl (upd (fun _ => 0) 2 1)))] H := hP
  have hD : va_D A [(h0, .inr (12, [.ref h1, .ref h2, .ref h3, .ref h4, .ref h5, .ref h6, .ref h7, .ref h8, .ref h9, .int 0, .int 0, .int 10, .int 0, .int 0, .int (-9), .int 0, .ref h10, .ref h11, .ref h12, .ref h13, .int 0, .int 0, .int 0, .ref h14, .int 0, .int 0, .int 0, .int (-9), .int 0, .ref h15, .int 0, .int 0, .int 0, .ref h16, .ref h17, .ref h18, .int 0, .int 0])), (h1, .inl (cI, 7, .inl (upd (fun _ => 0) 2 1)))] := hD
  have hP9 := hP.sub (ws' := []) [] rfl
  have hD9 := hD.sub (ws' := []) [] (by decide) rfl
  exact W.lret (v := 4000000000000000002) hx hb hr (fun t ht hW => ⟨⟨4000000000000000002, (fun k => [].getD k 0), rfl, rfl, by rw [ht]; exact hP9, hD9⟩, hS.F ht⟩) hS.2.2 dX12_home_15
set_option maxHeartbeats 4000000 in
set_option maxRecDepth 100000 in
theorem kX12_without (l : Launch) (dC : Nat → ClassId) (dI : Nat → Nat → Nat) (cI cQ : ClassId) (h0 h1 h2 h3 h4 h5 h6 h7 h8 h9 h10 h11 h12 h13 h14 h15 h16 h17 h18 : Nat) (p0 : Int32) (hp0l : -2147483648 ≤ p0.toInt) (hp0h : p0.toInt ≤ -1) (sz : Nat) : Met l yX12_without vsX12_without ({ frames := 1, cells := 0, slots := 0, locals := 21 }) (va_Pc [.ref h0, .int p0] (zB dC dI cI cQ [(h0, .inr (12, [.ref h1, .ref h2, .ref h3, .ref h4, .ref h5, .ref h6, .ref h7, .ref h8, .ref h9, .int 0, .int 0, .int 10, .int 0, .int 0, .int (-9), .int 0, .ref h10, .ref h11, .ref h12, .ref h13, .int 0, .int 0, .int 0, .ref h14, .int 0, .int 0, .int 0, .int (-9), .int 0, .ref h15, .int 0, .int 0, .int 0, .ref h16, .ref h17, .ref h18, .int 0, .int 0])), (h1, .inl (cI, 7, .inl (fun _ => 0)))] sz)) (zQi dC dI (va_A [(h0, .inr (12, [.ref h1, .ref h2, .ref h3, .ref h4, .ref h5, .ref h6, .ref h7, .ref h8, .ref h9, .int 0, .int 0, .int 10, .int 0, .int 0, .int (-9), .int 0, .ref h10, .ref h11, .ref h12, .ref h13, .int 0, .int 0, .int 0, .ref h14, .int 0, .int 0, .int 0, .int (-9), .int 0, .ref h15, .int 0, .int 0, .int 0, .ref h16, .ref h17, .ref h18, .int 0, .int 0])), (h1, .inl (cI, 7, .inl (fun _ => 0)))] sz) (fun ad => []) (-1)) 0 0 (va_A [(h0, .inr (12, [.ref h1, .ref h2, .ref h3, .ref h4, .ref h5, .ref h6, .ref h7, .ref h8, .ref h9, .int 0, .int 0, .int 10, .int 0, .int 0, .int (-9), .int 0, .ref h10, .ref h11, .ref h12, .ref h13, .int 0, .int 0, .int 0, .ref h14, .int 0, .int 0, .int 0, .int (-9), .int 0, .ref h15, .int 0, .int 0, .int 0, .ref h16, .ref h17, .ref h18, .int 0, .int 0])), (h1, .inl (cI, 7, .inl (fun _ => 0)))] sz) := by
  refine Met.ofW (cc := cX12_without) (maxL := 2) (ret := (some .int)) (by decide) rfl ?_
  intro p e s m args below meth c s₁ B hml hv
  obtain ⟨rfl, hsz, hP, hZ, hD0⟩ := hv
  obtain ⟨hK, hAO, hN⟩ := id hZ
  have hx := B.exec
  have hb := B.bytes
  have hr := B.returns
  have hts := atoms_spec (ws := vsX12_without) B.pre
  have hown : s.vm.findClass RX12 = some m.cls := findClass_of_methodNamed B.named
  have hlocks := B.notSynchronized
  subst hsz
  have hD := hD0.self (sz := s.heap.size)
  generalize hAe : va_A [(h0, .inr (12, [.ref h1, .ref h2, .ref h3, .ref h4, .ref h5, .ref h6, .ref h7, .ref h8, .ref h9, .int 0, .int 0, .int 10, .int 0, .int 0, .int (-9), .int 0, .ref h10, .ref h11, .ref h12, .ref h13, .int 0, .int 0, .int 0, .ref h14, .int 0, .int 0, .int 0, .int (-9), .int 0, .ref h15, .int 0, .int 0, .int 0, .ref h16, .ref h17, .ref h18, .int 0, .int 0])), (h1, .inl (cI, 7, .inl (fun _ => 0)))] s.heap.size = A at hD ⊢
  have hA : ∀ q : Nat, s.heap.size ≤ q → A q := fun q h => by rw [← hAe]; exact Or.inr h
  have hS : va_S A s.heap s.heap [] := va_S.rf
  have hP : va_P (dC, dI) vwCl [(h0, .inr (12, [.ref h1, .ref h2, .ref h3, .ref h4, .ref h5, .ref h6, .ref h7, .ref h8, .ref h9, .int 0, .int 0, .int 10, .int 0, .int 0, .int (-9), .int 0, .ref h10, .ref h11, .ref h12, .ref h13, .int 0, .int 0, .int 0, .ref h14, .int 0, .int 0, .int 0, .int (-9), .int 0, .ref h15, .int 0, .int 0, .int 0, .ref h16, .ref h17, .ref h18, .int 0, .int 0])), (h1, .inl (cI, 7, .inl (fun _ => 0)))] s.heap := hP
  have hl := lv_entry ([.ref h0, .int p0]) (n := 2) (Nat.le_of_ble_eq_true rfl)
  rw [lg_entry_eq]
  generalize (lg_sl ([.ref h0, .int p0]) ++ List.replicate (2 - (lg_sl ([.ref h0, .int p0])).length) Slot.unset).toArray = ls at hl ⊢
  have hl : lv_has ls 2 [(0, .ref h0), (1, .int p0)] := hl
  refine lv_aload_n hx hb dX12_without_0 rfl (lv_at hl 0 rfl) ?_
  refine lv_iload_n hx hb dX12_without_1 rfl (lv_at hl 1 rfl) ?_
  refine z_calli (wc := []) (wr := [(h0, .inr (12, [.ref h1, .ref h2, .ref h3, .ref h4, .ref h5, .ref h6, .ref h7, .ref h8, .ref h9, .int 0, .int 0, .int 10, .int 0, .int 0, .int (-9), .int 0, .ref h10, .ref h11, .ref h12, .ref h13, .int 0, .int 0, .int 0, .ref h14, .int 0, .int 0, .int 0, .int (-9), .int 0, .ref h15, .int 0, .int 0, .int 0, .ref h16, .ref h17, .ref h18, .int 0, .int 0])), (h1, .inl (cI, 7, .inl (fun _ => 0)))]) (w1 := (fun _ => [])) (va_runV (As := [.int p0]) (rest := []) ⟨hx, hb, hml, hown, hts⟩ (kX12_isPlayer l dC dI cI cQ h0 p0 hp0l hp0h s.heap.size) (cwV 1 hts gv_X12_without_X12_isPlayer_117 rfl rfl rfl (by decide +kernel) ⟨Nat.le_of_ble_eq_true rfl, Nat.le_of_ble_eq_true rfl⟩) ⟨z_blind, va_recv hK hP (ci := 12) (q0 := 0) rfl rfl, z_pre hZ hP hD [] rfl (by decide)⟩ rfl rfl hl.1 rfl (lv_room (Nat.le_of_ble_eq_true rfl)) dX12_without_2 ⟨Nat.le_of_ble_eq_true rfl, Nat.le_of_ble_eq_true rfl⟩) hP hD hS hA [] [0, 1] rfl rfl (by decide) (by decide) (fun _ H locs hP hD hS => ?_)
  have hP : va_P (dC, dI) vwCl [(h0, .inr (12, [.ref h1, .ref h2, .ref h3, .ref h4, .ref h5, .ref h6, .ref h7, .ref h8, .ref h9, .int 0, .int 0, .int 10, .int 0, .int 0, .int (-9), .int 0, .ref h10, .ref h11, .ref h12, .ref h13, .int 0, .int 0, .int 0, .ref h14, .int 0, .int 0, .int 0, .int (-9), .int 0, .ref h15, .int 0, .int 0, .int 0, .ref h16, .ref h17, .ref h18, .int 0, .int 0])), (h1, .inl (cI, 7, .inl (fun _ => 0)))] H := hP
  have hD : va_D A [(h0, .inr (12, [.ref h1, .ref h2, .ref h3, .ref h4, .ref h5, .ref h6, .ref h7, .ref h8, .ref h9, .int 0, .int 0, .int 10, .int 0, .int 0, .int (-9), .int 0, .ref h10, .ref h11, .ref h12, .ref h13, .int 0, .int 0, .int 0, .ref h14, .int 0, .int 0, .int 0, .int (-9), .int 0, .ref h15, .int 0, .int 0, .int 0, .ref h16, .ref h17, .ref h18, .int 0, .int 0])), (h1, .inl (cI, 7, .inl (fun _ => 0)))] := hD
  refine lv_if_ne (tgt := 14) hx hb dX12_without_5 (by decide) (fun hc => ?_) (fun hc => ?_)
  · exact absurd hc (by decide)
  refine lv_aload_n hx hb dX12_without_8 rfl (lv_at hl 0 rfl) ?_
  refine lv_iconst (v := (-1)) hx hb dX12_without_9 (by decide) ?_
  refine z_calli (wc := [(h0, .inr (12, [.ref h1, .ref h2, .ref h3, .ref h4, .ref h5, .ref h6, .ref h7, .ref h8, .ref h9, .int 0, .int 0, .int 10, .int 0, .int 0, .int (-9), .int 0, .ref h10, .ref h11, .ref h12, .ref h13, .int 0, .int 0, .int 0, .ref h14, .int 0, .int 0, .int 0, .int (-9), .int 0, .ref h15, .int 0, .int 0, .int 0, .ref h16, .ref h17, .ref h18, .int 0, .int 0])), (h1, .inl (cI, 7, .inl (fun _ => 0)))]) (wr := []) (w1 := (fun _ => [(h0, .inr (12, [.ref h1, .ref h2, .ref h3, .ref h4, .ref h5, .ref h6, .ref h7, .ref h8, .ref h9, .int 0, .int 0, .int 10, .int 0, .int 0, .int (-9), .int 0, .ref h10, .ref h11, .ref h12, .ref h13, .int 0, .int 0, .int 0, .ref h14, .int 0, .int 0, .int 0, .int (-9), .int 0, .ref h15, .int 0, .int 0, .int 0, .ref h16, .ref h17, .ref h18, .int 0, .int 0])), (h1, .inl (cI, 7, .inl (upd (fun _ => 0) 1 1)))])) (va_runV (As := [.int (-1)]) (rest := []) ⟨hx, hb, hml, hown, hts⟩ (kX12_no_2 l dC dI cI cQ h0 h1 h2 h3 h4 h5 h6 h7 h8 h9 h10 h11 h12 h13 h14 h15 h16 h17 h18 H.size) (cwV 1 hts gv_X12_without_X12_no_89 rfl rfl rfl (by decide +kernel) ⟨Nat.le_of_ble_eq_true rfl, Nat.le_of_ble_eq_true rfl⟩) ⟨z_blind, va_recv hK hP (ci := 12) (q0 := 0) rfl rfl, z_pre hZ hP hD [0, 1] rfl (by decide)⟩ rfl rfl hl.1 rfl (lv_room (Nat.le_of_ble_eq_true rfl)) dX12_without_10 ⟨Nat.le_of_ble_eq_true rfl, Nat.le_of_ble_eq_true rfl⟩) hP hD hS hA [0, 1] [] rfl rfl (by decide) (by decide) (fun _ H locs hP hD hS => ?_)
  have hP : va_P (dC, dI) vwCl [(h0, .inr (12, [.ref h1, .ref h2, .ref h3, .ref h4, .ref h5, .ref h6, .ref h7, .ref h8, .ref h9, .int 0, .int 0, .int 10, .int 0, .int 0, .int (-9), .int 0, .ref h10, .ref h11, .ref h12, .ref h13, .int 0, .int 0, .int 0, .ref h14, .int 0, .int 0, .int 0, .int (-9), .int 0, .ref h15, .int 0, .int 0, .int 0, .ref h16, .ref h17, .ref h18, .int 0, .int 0])), (h1, .inl (cI, 7, .inl (upd (fun _ => 0) 1 1)))] H := hP
  have hD : va_D A [(h0, .inr (12, [.ref h1, .ref h2, .ref h3, .ref h4, .ref h5, .ref h6, .ref h7, .ref h8, .ref h9, .int 0, .int 0, .int 10, .int 0, .int 0, .int (-9), .int 0, .ref h10, .ref h11, .ref h12, .ref h13, .int 0, .int 0, .int 0, .ref h14, .int 0, .int 0, .int 0, .int (-9), .int 0, .ref h15, .int 0, .int 0, .int 0, .ref h16, .ref h17, .ref h18, .int 0, .int 0])), (h1, .inl (cI, 7, .inl (upd (fun _ => 0) 1 1)))] := hD
  have hP9 := hP.sub (ws' := []) [] rfl
  have hD9 := hD.sub (ws' := []) [] (by decide) rfl
  exact W.iret (v := (-1)) hx hb hr (fun t ht hW => ⟨⟨(-1), (fun k => [].getD k 0), rfl, rfl, by rw [ht]; exact hP9, hD9⟩, hS.F ht⟩) hS.2.2 dX12_without_13
set_option maxHeartbeats 4000000 in
set_option maxRecDepth 100000 in
theorem kX12_without_1 (l : Launch) (dC : Nat → ClassId) (dI : Nat → Nat → Nat) (cI cQ : ClassId) (h0 h1 h2 h3 h4 h5 h6 h7 h8 h9 h10 h11 h12 h13 h14 h15 h16 h17 h18 : Nat) (p0 : Int32) (hp0l : 0 ≤ p0.toInt) (hp0h : p0.toInt ≤ 2147483647) (sz : Nat) : Met l yX12_without vsX12_without ({ frames := 1, cells := 0, slots := 0, locals := 21 }) (va_Pc [.ref h0, .int p0] (zB dC dI cI cQ [(h0, .inr (12, [.ref h1, .ref h2, .ref h3, .ref h4, .ref h5, .ref h6, .ref h7, .ref h8, .ref h9, .int 0, .int 0, .int 10, .int 0, .int 0, .int (-9), .int 0, .ref h10, .ref h11, .ref h12, .ref h13, .int 0, .int 0, .int 0, .ref h14, .int 0, .int 0, .int 0, .int (-9), .int 0, .ref h15, .int 0, .int 0, .int 0, .ref h16, .ref h17, .ref h18, .int 0, .int 0])), (h1, .inl (cI, 7, .inl (fun _ => 0)))] sz)) (zQi dC dI (va_A [(h0, .inr (12, [.ref h1, .ref h2, .ref h3, .ref h4, .ref h5, .ref h6, .ref h7, .ref h8, .ref h9, .int 0, .int 0, .int 10, .int 0, .int 0, .int (-9), .int 0, .ref h10, .ref h11, .ref h12, .ref h13, .int 0, .int 0, .int 0, .ref h14, .int 0, .int 0, .int 0, .int (-9), .int 0, .ref h15, .int 0, .int 0, .int 0, .ref h16, .ref h17, .ref h18, .int 0, .int 0])), (h1, .inl (cI, 7, .inl (fun _ => 0)))] sz) (fun ad => []) (-1)) 0 0 (va_A [(h0, .inr (12, [.ref h1, .ref h2, .ref h3, .ref h4, .ref h5, .ref h6, .ref h7, .ref h8, .ref h9, .int 0, .int 0, .int 10, .int 0, .int 0, .int (-9), .int 0, .ref h10, .ref h11, .ref h12, .ref h13, .int 0, .int 0, .int 0, .ref h14, .int 0, .int 0, .int 0, .int (-9), .int 0, .ref h15, .int 0, .int 0, .int 0, .ref h16, .ref h17, .ref h18, .int 0, .int 0])), (h1, .inl (cI, 7, .inl (fun _ => 0)))] sz) := by
  refine Met.ofW (cc := cX12_without) (maxL := 2) (ret := (some .int)) (by decide) rfl ?_
  intro p e s m args below meth c s₁ B hml hv
  obtain ⟨rfl, hsz, hP, hZ, hD0⟩ := hv
  obtain ⟨hK, hAO, hN⟩ := id hZ
  have hx := B.exec
  have hb := B.bytes
  have hr := B.returns
  have hts := atoms_spec (ws := vsX12_without) B.pre
  have hown : s.vm.findClass RX12 = some m.cls := findClass_of_methodNamed B.named
  have hlocks := B.notSynchronized
  subst hsz
  have hD := hD0.self (sz := s.heap.size)
  generalize hAe : va_A [(h0, .inr (12, [.ref h1, .ref h2, .ref h3, .ref h4, .ref h5, .ref h6, .ref h7, .ref h8, .ref h9, .int 0, .int 0, .int 10, .int 0, .int 0, .int (-9), .int 0, .ref h10, .ref h11, .ref h12, .ref h13, .int 0, .int 0, .int 0, .ref h14, .int 0, .int 0, .int 0, .int (-9), .int 0, .ref h15, .int 0, .int 0, .int 0, .ref h16, .ref h17, .ref h18, .int 0, .int 0])), (h1, .inl (cI, 7, .inl (fun _ => 0)))] s.heap.size = A at hD ⊢
  have hA : ∀ q : Nat, s.heap.size ≤ q → A q := fun q h => by rw [← hAe]; exact Or.inr h
  have hS : va_S A s.heap s.heap [] := va_S.rf
  have hP : va_P (dC, dI) vwCl [(h0, .inr (12, [.ref h1, .ref h2, .ref h3, .ref h4, .ref h5, .ref h6, .ref h7, .ref h8, .ref h9, .int 0, .int 0, .int 10, .int 0, .int 0, .int (-9), .int 0, .ref h10, .ref h11, .ref h12, .ref h13, .int 0, .int 0, .int 0, .ref h14, .int 0, .int 0, .int 0, .int (-9), .int 0, .ref h15, .int 0, .int 0, .int 0, .ref h16, .ref h17, .ref h18, .int 0, .int 0])), (h1, .inl (cI, 7, .inl (fun _ => 0)))] s.heap := hP
  have hl := lv_entry ([.ref h0, .int p0]) (n := 2) (Nat.le_of_ble_eq_true rfl)
  rw [lg_entry_eq]
  generalize (lg_sl ([.ref h0, .int p0]) ++ List.replicate (2 - (lg_sl ([.ref h0, .int p0])).length) Slot.unset).toArray = ls at hl ⊢
  have hl : lv_has ls 2 [(0, .ref h0), (1, .int p0)] := hl
  refine lv_aload_n hx hb dX12_without_0 rfl (lv_at hl 0 rfl) ?_
  refine lv_iload_n hx hb dX12_without_1 rfl (lv_at hl 1 rfl) ?_
  refine z_calli (wc := [(h0, .inr (12, [.ref h1, .ref h2, .ref h3, .ref h4, .ref h5, .ref h6, .ref h7, .ref h8, .ref h9, .int 0, .int 0, .int 10, .int 0, .int 0, .int (-9), .int 0, .ref h10, .ref h11, .ref h12, .ref h13, .int 0, .int 0, .int 0, .ref h14, .int 0, .int 0, .int 0, .int (-9), .int 0, .ref h15, .int 0, .int 0, .int 0, .ref h16, .ref h17, .ref h18, .int 0, .int 0]))]) (wr := [(h1, .inl (cI, 7, .inl (fun _ => 0)))]) (w1 := (fun _ => [(h0, .inr (12, [.ref h1, .ref h2, .ref h3, .ref h4, .ref h5, .ref h6, .ref h7, .ref h8, .ref h9, .int 0, .int 0, .int 10, .int 0, .int 0, .int (-9), .int 0, .ref h10, .ref h11, .ref h12, .ref h13, .int 0, .int 0, .int 0, .ref h14, .int 0, .int 0, .int 0, .int (-9), .int 0, .ref h15, .int 0, .int 0, .int 0, .ref h16, .ref h17, .ref h18, .int 0, .int 0]))])) (va_runV (As := [.int p0]) (rest := []) ⟨hx, hb, hml, hown, hts⟩ (kX12_isPlayer_1 l dC dI cI cQ h0 h1 h2 h3 h4 h5 h6 h7 h8 h9 h10 h11 h12 h13 h14 h15 h16 h17 h18 p0 hp0l hp0h s.heap.size) (cwV 1 hts gv_X12_without_X12_isPlayer_117 rfl rfl rfl (by decide +kernel) ⟨Nat.le_of_ble_eq_true rfl, Nat.le_of_ble_eq_true rfl⟩) ⟨z_blind, va_recv hK hP (ci := 12) (q0 := 0) rfl rfl, z_pre hZ hP hD [0] rfl (by decide)⟩ rfl rfl hl.1 rfl (lv_room (Nat.le_of_ble_eq_true rfl)) dX12_without_2 ⟨Nat.le_of_ble_eq_true rfl, Nat.le_of_ble_eq_true rfl⟩) hP hD hS hA [0] [1] rfl rfl (by decide) (by decide) (fun _ H locs hP hD hS => ?_)
  have hP : va_P (dC, dI) vwCl [(h1, .inl (cI, 7, .inl (fun _ => 0))), (h0, .inr (12, [.ref h1, .ref h2, .ref h3, .ref h4, .ref h5, .ref h6, .ref h7, .ref h8, .ref h9, .int 0, .int 0, .int 10, .int 0, .int 0, .int (-9), .int 0, .ref h10, .ref h11, .ref h12, .ref h13, .int 0, .int 0, .int 0, .ref h14, .int 0, .int 0, .int 0, .int (-9), .int 0, .ref h15, .int 0, .int 0, .int 0, .ref h16, .ref h17, .ref h18, .int 0, .int 0]))] H := hP
  have hD : va_D A [(h1, .inl (cI, 7, .inl (fun _ => 0))), (h0, .inr (12, [.ref h1, .ref h2, .ref h3, .ref h4, .ref h5, .ref h6, .ref h7, .ref h8, .ref h9, .int 0, .int 0, .int 10, .int 0, .int 0, .int (-9), .int 0, .ref h10, .ref h11, .ref h12, .ref h13, .int 0, .int 0, .int 0, .ref h14, .int 0, .int 0, .int 0, .int (-9), .int 0, .ref h15, .int 0, .int 0, .int 0, .ref h16, .ref h17, .ref h18, .int 0, .int 0]))] := hD
  refine lv_if_ne (tgt := 14) hx hb dX12_without_5 (by decide) (fun hc => ?_) (fun hc => ?_)
  · exact absurd hc (by decide)
  refine lv_aload_n hx hb dX12_without_8 rfl (lv_at hl 0 rfl) ?_
  refine lv_iconst (v := (-1)) hx hb dX12_without_9 (by decide) ?_
  refine z_calli (wc := [(h1, .inl (cI, 7, .inl (fun _ => 0))), (h0, .inr (12, [.ref h1, .ref h2, .ref h3, .ref h4, .ref h5, .ref h6, .ref h7, .ref h8, .ref h9, .int 0, .int 0, .int 10, .int 0, .int 0, .int (-9), .int 0, .ref h10, .ref h11, .ref h12, .ref h13, .int 0, .int 0, .int 0, .ref h14, .int 0, .int 0, .int 0, .int (-9), .int 0, .ref h15, .int 0, .int 0, .int 0, .ref h16, .ref h17, .ref h18, .int 0, .int 0]))]) (wr := []) (w1 := (fun _ => [(h1, .inl (cI, 7, .inl (upd (fun _ => 0) 1 1))), (h0, .inr (12, [.ref h1, .ref h2, .ref h3, .ref h4, .ref h5, .ref h6, .ref h7, .ref h8, .ref h9, .int 0, .int 0, .int 10, .int 0, .int 0, .int (-9), .int 0, .ref h10, .ref h11, .ref h12, .ref h13, .int 0, .int 0, .int 0, .ref h14, .int 0, .int 0, .int 0, .int (-9), .int 0, .ref h15, .int 0, .int 0, .int 0, .ref h16, .ref h17, .ref h18, .int 0, .int 0]))])) (va_runV (As := [.int (-1)]) (rest := []) ⟨hx, hb, hml, hown, hts⟩ (kX12_no_3 l dC dI cI cQ h0 h1 h2 h3 h4 h5 h6 h7 h8 h9 h10 h11 h12 h13 h14 h15 h16 h17 h18 H.size) (cwV 1 hts gv_X12_without_X12_no_89 rfl rfl rfl (by decide +kernel) ⟨Nat.le_of_ble_eq_true rfl, Nat.le_of_ble_eq_true rfl⟩) ⟨z_blind, va_recv hK hP (ci := 12) (q0 := 1) rfl rfl, z_pre hZ hP hD [0, 1] rfl (by decide)⟩ rfl rfl hl.1 rfl (lv_room (Nat.le_of_ble_eq_true rfl)) dX12_without_10 ⟨Nat.le_of_ble_eq_true rfl, Nat.le_of_ble_eq_true rfl⟩) hP hD hS hA [0, 1] [] rfl rfl (by decide) (by decide) (fun _ H locs hP hD hS => ?_)
  have hP : va_P (dC, dI) vwCl [(h1, .inl (cI, 7, .inl (upd (fun _ => 0) 1 1))), (h0, .inr (12, [.ref h1, .ref h2, .ref h3, .ref h4, .ref h5, .ref h6, .ref h7, .ref h8, .ref h9, .int 0, .int 0, .int 10, .int 0, .int 0, .int (-9), .int 0, .ref h10, .ref h11, .ref h12, .ref h13, .int 0, .int 0, .int 0, .ref h14, .int 0, .int 0, .int 0, .int (-9), .int 0, .ref h15, .int 0, .int 0, .int 0, .ref h16, .ref h17, .ref h18, .int 0, .int 0]))] H := hP
  have hD : va_D A [(h1, .inl (cI, 7, .inl (upd (fun _ => 0) 1 1))), (h0, .inr (12, [.ref h1, .ref h2, .ref h3, .ref h4, .ref h5, .ref h6, .ref h7, .ref h8, .ref h9, .int 0, .int 0, .int 10, .int 0, .int 0, .int (-9), .int 0, .ref h10, .ref h11, .ref h12, .ref h13, .int 0, .int 0, .int 0, .ref h14, .int 0, .int 0, .int 0, .int (-9), .int 0, .ref h15, .int 0, .int 0, .int 0, .ref h16, .ref h17, .ref h18, .int 0, .int 0]))] := hD
  have hP9 := hP.sub (ws' := []) [] rfl
  have hD9 := hD.sub (ws' := []) [] (by decide) rfl
  exact W.iret (v := (-1)) hx hb hr (fun t ht hW => ⟨⟨(-1), (fun k => [].getD k 0), rfl, rfl, by rw [ht]; exact hP9, hD9⟩, hS.F ht⟩) hS.2.2 dX12_without_13
set_option maxHeartbeats 4000000 in
set_option maxRecDepth 100000 in
theorem kX12_leastHarm (l : Launch) (dC : Nat → ClassId) (dI : Nat → Nat → Nat) (cI cQ : ClassId) (h0 h1 h2 h3 h4 h5 h6 h7 h8 h9 h10 h11 h12 h13 h14 h15 h16 h17 h18 : Nat) (sz : Nat) : Met l yX12_leastHarm vsX12_leastHarm ({ frames := 1, cells := 0, slots := 0, locals := 21 }) (va_Pc [.ref h0] (zB dC dI cI cQ [(h0, .inr (12, [.ref h1, .ref h2, .ref h3, .ref h4, .ref h5, .ref h6, .ref h7, .ref h8, .ref h9, .int 0, .int 0, .int 10, .int 0, .int 0, .int (-9), .int 0, .ref h10, .ref h11, .ref h12, .ref h13, .int 0, .int 0, .int 0, .ref h14, .int 0, .int 0, .int 0, .int (-9), .int 0, .ref h15, .int 0, .int 0, .int 0, .ref h16, .ref h17, .ref h18, .int 0, .int 0])), (h1, .inl (cI, 7, .inl (fun _ => 0)))] sz)) (zQi dC dI (va_A [(h0, .inr (12, [.ref h1, .ref h2, .ref h3, .ref h4, .ref h5, .ref h6, .ref h7, .ref h8, .ref h9, .int 0, .int 0, .int 10, .int 0, .int 0, .int (-9), .int 0, .ref h10, .ref h11, .ref h12, .ref h13, .int 0, .int 0, .int 0, .ref h14, .int 0, .int 0, .int 0, .int (-9), .int 0, .ref h15, .int 0, .int 0, .int 0, .ref h16, .ref h17, .ref h18, .int 0, .int 0])), (h1, .inl (cI, 7, .inl (fun _ => 0)))] sz) (fun ad => []) (-3)) 0 0 (va_A [(h0, .inr (12, [.ref h1, .ref h2, .ref h3, .ref h4, .ref h5, .ref h6, .ref h7, .ref h8, .ref h9, .int 0, .int 0, .int 10, .int 0, .int 0, .int (-9), .int 0, .ref h10, .ref h11, .ref h12, .ref h13, .int 0, .int 0, .int 0, .ref h14, .int 0, .int 0, .int 0, .int (-9), .int 0, .ref h15, .int 0, .int 0, .int 0, .ref h16, .ref h17, .ref h18, .int 0, .int 0])), (h1, .inl (cI, 7, .inl (fun _ => 0)))] sz) := by
  refine Met.ofW (cc := cX12_leastHarm) (maxL := 5) (ret := (some .int)) (by decide) rfl ?_
  intro p e s m args below meth c s₁ B hml hv
  obtain ⟨rfl, hsz, hP, hZ, hD0⟩ := hv
  obtain ⟨hK, hAO, hN⟩ := id hZ
  have hx := B.exec
  have hb := B.bytes
  have hr := B.returns
  have hts := atoms_spec (ws := vsX12_leastHarm) B.pre
  have hown : s.vm.findClass RX12 = some m.cls := findClass_of_methodNamed B.named
  have hlocks := B.notSynchronized
  subst hsz
  have hD := hD0.self (sz := s.heap.size)
  generalize hAe : va_A [(h0, .inr (12, [.ref h1, .ref h2, .ref h3, .ref h4, .ref h5, .ref h6, .ref h7, .ref h8, .ref h9, .int 0, .int 0, .int 10, .int 0, .int 0, .int (-9), .int 0, .ref h10, .ref h11, .ref h12, .ref h13, .int 0, .int 0, .int 0, .ref h14, .int 0, .int 0, .int 0, .int (-9), .int 0, .ref h15, .int 0, .int 0, .int 0, .ref h16, .ref h17, .ref h18, .int 0, .int 0])), (h1, .inl (cI, 7, .inl (fun _ => 0)))] s.heap.size = A at hD ⊢
  have hA : ∀ q : Nat, s.heap.size ≤ q → A q := fun q h => by rw [← hAe]; exact Or.inr h
  have hS : va_S A s.heap s.heap [] := va_S.rf
  have hP : va_P (dC, dI) vwCl [(h0, .inr (12, [.ref h1, .ref h2, .ref h3, .ref h4, .ref h5, .ref h6, .ref h7, .ref h8, .ref h9, .int 0, .int 0, .int 10, .int 0, .int 0, .int (-9), .int 0, .ref h10, .ref h11, .ref h12, .ref h13, .int 0, .int 0, .int 0, .ref h14, .int 0, .int 0, .int 0, .int (-9), .int 0, .ref h15, .int 0, .int 0, .int 0, .ref h16, .ref h17, .ref h18, .int 0, .int 0])), (h1, .inl (cI, 7, .inl (fun _ => 0)))] s.heap := hP
  have hl := lv_entry ([.ref h0]) (n := 5) (Nat.le_of_ble_eq_true rfl)
  rw [lg_entry_eq]
  generalize (lg_sl ([.ref h0]) ++ List.replicate (5 - (lg_sl ([.ref h0])).length) Slot.unset).toArray = ls at hl ⊢
  have hl : lv_has ls 5 [(0, .ref h0)] := hl
  refine lv_aload_n hx hb dX12_leastHarm_0 rfl (lv_at hl 0 rfl) ?_
  refine va_get (D := (dC, dI)) (ci := 12) (v := .int 0) (C := RX12) (T := TX12) (N := 38) hx hb hts in_X12_leastHarm_X12 hown hK hP 0 rfl rfl 10 (by decide) (hts (.fieldLink RX12 79 "EachOnHisCueModel" "lines" "I") (by decide +kernel)) (fun _ h9 => h9) rfl dX12_leastHarm_1 ?_
  refine lv_if_ne (tgt := 14) hx hb dX12_leastHarm_4 (by decide) (fun hc => ?_) (fun hc => ?_)
  · exact absurd hc (by decide)
  refine lv_aload_n hx hb dX12_leastHarm_7 rfl (lv_at hl 0 rfl) ?_
  refine lv_bipush (v := (-3)) hx hb dX12_leastHarm_8 (by decide) ?_
  refine z_calli (wc := [(h0, .inr (12, [.ref h1, .ref h2, .ref h3, .ref h4, .ref h5, .ref h6, .ref h7, .ref h8, .ref h9, .int 0, .int 0, .int 10, .int 0, .int 0, .int (-9), .int 0, .ref h10, .ref h11, .ref h12, .ref h13, .int 0, .int 0, .int 0, .ref h14, .int 0, .int 0, .int 0, .int (-9), .int 0, .ref h15, .int 0, .int 0, .int 0, .ref h16, .ref h17, .ref h18, .int 0, .int 0])), (h1, .inl (cI, 7, .inl (fun _ => 0)))]) (wr := []) (w1 := (fun _ => [(h0, .inr (12, [.ref h1, .ref h2, .ref h3, .ref h4, .ref h5, .ref h6, .ref h7, .ref h8, .ref h9, .int 0, .int 0, .int 10, .int 0, .int 0, .int (-9), .int 0, .ref h10, .ref h11, .ref h12, .ref h13, .int 0, .int 0, .int 0, .ref h14, .int 0, .int 0, .int 0, .int (-9), .int 0, .ref h15, .int 0, .int 0, .int 0, .ref h16, .ref h17, .ref h18, .int 0, .int 0])), (h1, .inl (cI, 7, .inl (upd (fun _ => 0) 3 1)))])) (va_runV (As := [.int (-3)]) (rest := []) ⟨hx, hb, hml, hown, hts⟩ (kX12_no_4 l dC dI cI cQ h0 h1 h2 h3 h4 h5 h6 h7 h8 h9 h10 h11 h12 h13 h14 h15 h16 h17 h18 s.heap.size) (cwV 1 hts gv_X12_leastHarm_X12_no_89 rfl rfl rfl (by decide +kernel) ⟨Nat.le_of_ble_eq_true rfl, Nat.le_of_ble_eq_true rfl⟩) ⟨z_blind, va_recv hK hP (ci := 12) (q0 := 0) rfl rfl, z_pre hZ hP hD [0, 1] rfl (by decide)⟩ rfl rfl hl.1 rfl (lv_room (Nat.le_of_ble_eq_true rfl)) dX12_leastHarm_10 ⟨Nat.le_of_ble_eq_true rfl, Nat.le_of_ble_eq_true rfl⟩) hP hD hS hA [0, 1] [] rfl rfl (by decide) (by decide) (fun _ H locs hP hD hS => ?_)
  have hP : va_P (dC, dI) vwCl [(h0, .inr (12, [.ref h1, .ref h2, .ref h3, .ref h4, .ref h5, .ref h6, .ref h7, .ref h8, .ref h9, .int 0, .int 0, .int 10, .int 0, .int 0, .int (-9), .int 0, .ref h10, .ref h11, .ref h12, .ref h13, .int 0, .int 0, .int 0, .ref h14, .int 0, .int 0, .int 0, .int (-9), .int 0, .ref h15, .int 0, .int 0, .int 0, .ref h16, .ref h17, .ref h18, .int 0, .int 0])), (h1, .inl (cI, 7, .inl (upd (fun _ => 0) 3 1)))] H := hP
  have hD : va_D A [(h0, .inr (12, [.ref h1, .ref h2, .ref h3, .ref h4, .ref h5, .ref h6, .ref h7, .ref h8, .ref h9, .int 0, .int 0, .int 10, .int 0, .int 0, .int (-9), .int 0, .ref h10, .ref h11, .ref h12, .ref h13, .int 0, .int 0, .int 0, .ref h14, .int 0, .int 0, .int 0, .int (-9), .int 0, .ref h15, .int 0, .int 0, .int 0, .ref h16, .ref h17, .ref h18, .int 0, .int 0])), (h1, .inl (cI, 7, .inl (upd (fun _ => 0) 3 1)))] := hD
  have hP9 := hP.sub (ws' := []) [] rfl
  have hD9 := hD.sub (ws' := []) [] (by decide) rfl
  exact W.iret (v := (-3)) hx hb hr (fun t ht hW => ⟨⟨(-3), (fun k => [].getD k 0), rfl, rfl, by rw [ht]; exact hP9, hD9⟩, hS.F ht⟩) hS.2.2 dX12_leastHarm_13
set_option maxHeartbeats 4000000 in
set_option maxRecDepth 100000 in
theorem kX12_joke (l : Launch) (dC : Nat → ClassId) (dI : Nat → Nat → Nat) (cI cQ : ClassId) (h0 h1 h2 h3 h4 h5 h6 h7 h8 h9 h10 h11 h12 h13 h14 h15 h16 h17 h18 : Nat) (p0 : Int32) (hp0l : -2147483648 ≤ p0.toInt) (hp0h : p0.toInt ≤ -1) (p1 : Int32) (hp1l : -2147483648 ≤ p1.toInt) (hp1h : p1.toInt ≤ 2147483647) (sz : Nat) : Met l yX12_joke vsX12_joke ({ frames := 1, cells := 0, slots := 0, locals := 21 }) (va_Pc [.ref h0, .int p0, .int p1] (zB dC dI cI cQ [(h0, .inr (12, [.ref h1, .ref h2, .ref h3, .ref h4, .ref h5, .ref h6, .ref h7, .ref h8, .ref h9, .int 0, .int 0, .int 10, .int 0, .int 0, .int (-9), .int 0, .ref h10, .ref h11, .ref h12, .ref h13, .int 0, .int 0, .int 0, .ref h14, .int 0, .int 0, .int 0, .int (-9), .int 0, .ref h15, .int 0, .int 0, .int 0, .ref h16, .ref h17, .ref h18, .int 0, .int 0])), (h1, .inl (cI, 7, .inl (fun _ => 0)))] sz)) (zQi dC dI (va_A [(h0, .inr (12, [.ref h1, .ref h2, .ref h3, .ref h4, .ref h5, .ref h6, .ref h7, .ref h8, .ref h9, .int 0, .int 0, .int 10, .int 0, .int 0, .int (-9), .int 0, .ref h10, .ref h11, .ref h12, .ref h13, .int 0, .int 0, .int 0, .ref h14, .int 0, .int 0, .int 0, .int (-9), .int 0, .ref h15, .int 0, .int 0, .int 0, .ref h16, .ref h17, .ref h18, .int 0, .int 0])), (h1, .inl (cI, 7, .inl (fun _ => 0)))] sz) (fun ad => []) (-1)) 0 0 (va_A [(h0, .inr (12, [.ref h1, .ref h2, .ref h3, .ref h4, .ref h5, .ref h6, .ref h7, .ref h8, .ref h9, .int 0, .int 0, .int 10, .int 0, .int 0, .int (-9), .int 0, .ref h10, .ref h11, .ref h12, .ref h13, .int 0, .int 0, .int 0, .ref h14, .int 0, .int 0, .int 0, .int (-9), .int 0, .ref h15, .int 0, .int 0, .int 0, .ref h16, .ref h17, .ref h18, .int 0, .int 0])), (h1, .inl (cI, 7, .inl (fun _ => 0)))] sz) := by
  refine Met.ofW (cc := cX12_joke) (maxL := 4) (ret := (some .int)) (by decide) rfl ?_
  intro p e s m args below meth c s₁ B hml hv
  obtain ⟨rfl, hsz, hP, hZ, hD0⟩ := hv
  obtain ⟨hK, hAO, hN⟩ := id hZ
  have hx := B.exec
  have hb := B.bytes
  have hr := B.returns
  have hts := atoms_spec (ws := vsX12_joke) B.pre
  have hown : s.vm.findClass RX12 = some m.cls := findClass_of_methodNamed B.named
  have hlocks := B.notSynchronized
  subst hsz
  have hD := hD0.self (sz := s.heap.size)
  generalize hAe : va_A [(h0, .inr (12, [.ref h1, .ref h2, .ref h3, .ref h4, .ref h5, .ref h6, .ref h7, .ref h8, .ref h9, .int 0, .int 0, .int 10, .int 0, .int 0, .int (-9), .int 0, .ref h10, .ref h11, .ref h12, .ref h13, .int 0, .int 0, .int 0, .ref h14, .int 0, .int 0, .int 0, .int (-9), .int 0, .ref h15, .int 0, .int 0, .int 0, .ref h16, .ref h17, .ref h18, .int 0, .int 0])), (h1, .inl (cI, 7, .inl (fun _ => 0)))] s.heap.size = A at hD ⊢
  have hA : ∀ q : Nat, s.heap.size ≤ q → A q := fun q h => by rw [← hAe]; exact Or.inr h
  have hS : va_S A s.heap s.heap [] := va_S.rf
  have hP : va_P (dC, dI) vwCl [(h0, .inr (12, [.ref h1, .ref h2, .ref h3, .ref h4, .ref h5, .ref h6, .ref h7, .ref h8, .ref h9, .int 0, .int 0, .int 10, .int 0, .int 0, .int (-9), .int 0, .ref h10, .ref h11, .ref h12, .ref h13, .int 0, .int 0, .int 0, .ref h14, .int 0, .int 0, .int 0, .int (-9), .int 0, .ref h15, .int 0, .int 0, .int 0, .ref h16, .ref h17, .ref h18, .int 0, .int 0])), (h1, .inl (cI, 7, .inl (fun _ => 0)))] s.heap := hP
  have hl := lv_entry ([.ref h0, .int p0, .int p1]) (n := 4) (Nat.le_of_ble_eq_true rfl)
  rw [lg_entry_eq]
  generalize (lg_sl ([.ref h0, .int p0, .int p1]) ++ List.replicate (4 - (lg_sl ([.ref h0, .int p0, .int p1])).length) Slot.unset).toArray = ls at hl ⊢
  have hl : lv_has ls 4 [(0, .ref h0), (1, .int p0), (2, .int p1)] := hl
  refine lv_aload_n hx hb dX12_joke_0 rfl (lv_at hl 0 rfl) ?_
  refine lv_iload_n hx hb dX12_joke_1 rfl (lv_at hl 1 rfl) ?_
  refine z_calli (wc := []) (wr := [(h0, .inr (12, [.ref h1, .ref h2, .ref h3, .ref h4, .ref h5, .ref h6, .ref h7, .ref h8, .ref h9, .int 0, .int 0, .int 10, .int 0, .int 0, .int (-9), .int 0, .ref h10, .ref h11, .ref h12, .ref h13, .int 0, .int 0, .int 0, .ref h14, .int 0, .int 0, .int 0, .int (-9), .int 0, .ref h15, .int 0, .int 0, .int 0, .ref h16, .ref h17, .ref h18, .int 0, .int 0])), (h1, .inl (cI, 7, .inl (fun _ => 0)))]) (w1 := (fun _ => [])) (va_runV (As := [.int p0]) (rest := []) ⟨hx, hb, hml, hown, hts⟩ (kX12_isLine l dC dI cI cQ h0 p0 hp0l hp0h s.heap.size) (cwV 1 hts gv_X12_joke_X12_isLine_169 rfl rfl rfl (by decide +kernel) ⟨Nat.le_of_ble_eq_true rfl, Nat.le_of_ble_eq_true rfl⟩) ⟨z_blind, va_recv hK hP (ci := 12) (q0 := 0) rfl rfl, z_pre hZ hP hD [] rfl (by decide)⟩ rfl rfl hl.1 rfl (lv_room (Nat.le_of_ble_eq_true rfl)) dX12_joke_2 ⟨Nat.le_of_ble_eq_true rfl, Nat.le_of_ble_eq_true rfl⟩) hP hD hS hA [] [0, 1] rfl rfl (by decide) (by decide) (fun _ H locs hP hD hS => ?_)
  have hP : va_P (dC, dI) vwCl [(h0, .inr (12, [.ref h1, .ref h2, .ref h3, .ref h4, .ref h5, .ref h6, .ref h7, .ref h8, .ref h9, .int 0, .int 0, .int 10, .int 0, .int 0, .int (-9), .int 0, .ref h10, .ref h11, .ref h12, .ref h13, .int 0, .int 0, .int 0, .ref h14, .int 0, .int 0, .int 0, .int (-9), .int 0, .ref h15, .int 0, .int 0, .int 0, .ref h16, .ref h17, .ref h18, .int 0, .int 0])), (h1, .inl (cI, 7, .inl (fun _ => 0)))] H := hP
  have hD : va_D A [(h0, .inr (12, [.ref h1, .ref h2, .ref h3, .ref h4, .ref h5, .ref h6, .ref h7, .ref h8, .ref h9, .int 0, .int 0, .int 10, .int 0, .int 0, .int (-9), .int 0, .ref h10, .ref h11, .ref h12, .ref h13, .int 0, .int 0, .int 0, .ref h14, .int 0, .int 0, .int 0, .int (-9), .int 0, .ref h15, .int 0, .int 0, .int 0, .ref h16, .ref h17, .ref h18, .int 0, .int 0])), (h1, .inl (cI, 7, .inl (fun _ => 0)))] := hD
  refine lv_if_ne (tgt := 14) hx hb dX12_joke_5 (by decide) (fun hc => ?_) (fun hc => ?_)
  · exact absurd hc (by decide)
  refine lv_aload_n hx hb dX12_joke_8 rfl (lv_at hl 0 rfl) ?_
  refine lv_iconst (v := (-1)) hx hb dX12_joke_9 (by decide) ?_
  refine z_calli (wc := [(h0, .inr (12, [.ref h1, .ref h2, .ref h3, .ref h4, .ref h5, .ref h6, .ref h7, .ref h8, .ref h9, .int 0, .int 0, .int 10, .int 0, .int 0, .int (-9), .int 0, .ref h10, .ref h11, .ref h12, .ref h13, .int 0, .int 0, .int 0, .ref h14, .int 0, .int 0, .int 0, .int (-9), .int 0, .ref h15, .int 0, .int 0, .int 0, .ref h16, .ref h17, .ref h18, .int 0, .int 0])), (h1, .inl (cI, 7, .inl (fun _ => 0)))]) (wr := []) (w1 := (fun _ => [(h0, .inr (12, [.ref h1, .ref h2, .ref h3, .ref h4, .ref h5, .ref h6, .ref h7, .ref h8, .ref h9, .int 0, .int 0, .int 10, .int 0, .int 0, .int (-9), .int 0, .ref h10, .ref h11, .ref h12, .ref h13, .int 0, .int 0, .int 0, .ref h14, .int 0, .int 0, .int 0, .int (-9), .int 0, .ref h15, .int 0, .int 0, .int 0, .ref h16, .ref h17, .ref h18, .int 0, .int 0])), (h1, .inl (cI, 7, .inl (upd (fun _ => 0) 1 1)))])) (va_runV (As := [.int (-1)]) (rest := []) ⟨hx, hb, hml, hown, hts⟩ (kX12_no_2 l dC dI cI cQ h0 h1 h2 h3 h4 h5 h6 h7 h8 h9 h10 h11 h12 h13 h14 h15 h16 h17 h18 H.size) (cwV 1 hts gv_X12_joke_X12_no_89 rfl rfl rfl (by decide +kernel) ⟨Nat.le_of_ble_eq_true rfl, Nat.le_of_ble_eq_true rfl⟩) ⟨z_blind, va_recv hK hP (ci := 12) (q0 := 0) rfl rfl, z_pre hZ hP hD [0, 1] rfl (by decide)⟩ rfl rfl hl.1 rfl (lv_room (Nat.le_of_ble_eq_true rfl)) dX12_joke_10 ⟨Nat.le_of_ble_eq_true rfl, Nat.le_of_ble_eq_true rfl⟩) hP hD hS hA [0, 1] [] rfl rfl (by decide) (by decide) (fun _ H locs hP hD hS => ?_)
  have hP : va_P (dC, dI) vwCl [(h0, .inr (12, [.ref h1, .ref h2, .ref h3, .ref h4, .ref h5, .ref h6, .ref h7, .ref h8, .ref h9, .int 0, .int 0, .int 10, .int 0, .int 0, .int (-9), .int 0, .ref h10, .ref h11, .ref h12, .ref h13, .int 0, .int 0, .int 0, .ref h14, .int 0, .int 0, .int 0, .int (-9), .int 0, .ref h15, .int 0, .int 0, .int 0, .ref h16, .ref h17, .ref h18, .int 0, .int 0])), (h1, .inl (cI, 7, .inl (upd (fun _ => 0) 1 1)))] H := hP
  have hD : va_D A [(h0, .inr (12, [.ref h1, .ref h2, .ref h3, .ref h4, .ref h5, .ref h6, .ref h7, .ref h8, .ref h9, .int 0, .int 0, .int 10, .int 0, .int 0, .int (-9), .int 0, .ref h10, .ref h11, .ref h12, .ref h13, .int 0, .int 0, .int 0, .ref h14, .int 0, .int 0, .int 0, .int (-9), .int 0, .ref h15, .int 0, .int 0, .int 0, .ref h16, .ref h17, .ref h18, .int 0, .int 0])), (h1, .inl (cI, 7, .inl (upd (fun _ => 0) 1 1)))] := hD
  have hP9 := hP.sub (ws' := []) [] rfl
  have hD9 := hD.sub (ws' := []) [] (by decide) rfl
  exact W.iret (v := (-1)) hx hb hr (fun t ht hW => ⟨⟨(-1), (fun k => [].getD k 0), rfl, rfl, by rw [ht]; exact hP9, hD9⟩, hS.F ht⟩) hS.2.2 dX12_joke_13
set_option maxHeartbeats 4000000 in
set_option maxRecDepth 100000 in
theorem kX12_joke_1 (l : Launch) (dC : Nat → ClassId) (dI : Nat → Nat → Nat) (cI cQ : ClassId) (h0 h1 h2 h3 h4 h5 h6 h7 h8 h9 h10 h11 h12 h13 h14 h15 h16 h17 h18 : Nat) (p0 : Int32) (hp0l : 0 ≤ p0.toInt) (hp0h : p0.toInt ≤ 2147483647) (p1 : Int32) (hp1l : -2147483648 ≤ p1.toInt) (hp1h : p1.toInt ≤ 2147483647) (sz : Nat) : Met l yX12_joke vsX12_joke ({ frames := 1, cells := 0, slots := 0, locals := 21 }) (va_Pc [.ref h0, .int p0, .int p1] (zB dC dI cI cQ [(h0, .inr (12, [.ref h1, .ref h2, .ref h3, .ref h4, .ref h5, .ref h6, .ref h7, .ref h8, .ref h9, .int 0, .int 0, .int 10, .int 0, .int 0, .int (-9), .int 0, .ref h10, .ref h11, .ref h12, .ref h13, .int 0, .int 0, .int 0, .ref h14, .int 0, .int 0, .int 0, .int (-9), .int 0, .ref h15, .int 0, .int 0, .int 0, .ref h16, .ref h17, .ref h18, .int 0, .int 0])), (h1, .inl (cI, 7, .inl (fun _ => 0)))] sz)) (zQi dC dI (va_A [(h0, .inr (12, [.ref h1, .ref h2, .ref h3, .ref h4, .ref h5, .ref h6, .ref h7, .ref h8, .ref h9, .int 0, .int 0, .int 10, .int 0, .int 0, .int (-9), .int 0, .ref h10, .ref h11, .ref h12, .ref h13, .int 0, .int 0, .int 0, .ref h14, .int 0, .int 0, .int 0, .int (-9), .int 0, .ref h15, .int 0, .int 0, .int 0, .ref h16, .ref h17, .ref h18, .int 0, .int 0])), (h1, .inl (cI, 7, .inl (fun _ => 0)))] sz) (fun ad => []) (-1)) 0 0 (va_A [(h0, .inr (12, [.ref h1, .ref h2, .ref h3, .ref h4, .ref h5, .ref h6, .ref h7, .ref h8, .ref h9, .int 0, .int 0, .int 10, .int 0, .int 0, .int (-9), .int 0, .ref h10, .ref h11, .ref h12, .ref h13, .int 0, .int 0, .int 0, .ref h14, .int 0, .int 0, .int 0, .int (-9), .int 0, .ref h15, .int 0, .int 0, .int 0, .ref h16, .ref h17, .ref h18, .int 0, .int 0])), (h1, .inl (cI, 7, .inl (fun _ => 0)))] sz) := by
  refine Met.ofW (cc := cX12_joke) (maxL := 4) (ret := (some .int)) (by decide) rfl ?_
  intro p e s m args below meth c s₁ B hml hv
  obtain ⟨rfl, hsz, hP, hZ, hD0⟩ := hv
  obtain ⟨hK, hAO, hN⟩ := id hZ
  have hx := B.exec
  have hb := B.bytes
  have hr := B.returns
  have hts := atoms_spec (ws := vsX12_joke) B.pre
  have hown : s.vm.findClass RX12 = some m.cls := findClass_of_methodNamed B.named
  have hlocks := B.notSynchronized
  subst hsz
  have hD := hD0.self (sz := s.heap.size)
  generalize hAe : va_A [(h0, .inr (12, [.ref h1, .ref h2, .ref h3, .ref h4, .ref h5, .ref h6, .ref h7, .ref h8, .ref h9, .int 0, .int 0, .int 10, .int 0, .int 0, .int (-9), .int 0, .ref h10, .ref h11, .ref h12, .ref h13, .int 0, .int 0, .int 0, .ref h14, .int 0, .int 0, .int 0, .int (-9), .int 0, .ref h15, .int 0, .int 0, .int 0, .ref h16, .ref h17, .ref h18, .int 0, .int 0])), (h1, .inl (cI, 7, .inl (fun _ => 0)))] s.heap.size = A at hD ⊢
  have hA : ∀ q : Nat, s.heap.size ≤ q → A q := fun q h => by rw [← hAe]; exact Or.inr h
  have hS : va_S A s.heap s.heap [] := va_S.rf
  have hP : va_P (dC, dI) vwCl [(h0, .inr (12, [.ref h1, .ref h2, .ref h3, .ref h4, .ref h5, .ref h6, .ref h7, .ref h8, .ref h9, .int 0, .int 0, .int 10, .int 0, .int 0, .int (-9), .int 0, .ref h10, .ref h11, .ref h12, .ref h13, .int 0, .int 0, .int 0, .ref h14, .int 0, .int 0, .int 0, .int (-9), .int 0, .ref h15, .int 0, .int 0, .int 0, .ref h16, .ref h17, .ref h18, .int 0, .int 0])), (h1, .inl (cI, 7, .inl (fun _ => 0)))] s.heap := hP
  have hl := lv_entry ([.ref h0, .int p0, .int p1]) (n := 4) (Nat.le_of_ble_eq_true rfl)
  rw [lg_entry_eq]
  generalize (lg_sl ([.ref h0, .int p0, .int p1]) ++ List.replicate (4 - (lg_sl ([.ref h0, .int p0, .int p1])).length) Slot.unset).toArray = ls at hl ⊢
  have hl : lv_has ls 4 [(0, .ref h0), (1, .int p0), (2, .int p1)] := hl
  refine lv_aload_n hx hb dX12_joke_0 rfl (lv_at hl 0 rfl) ?_
  refine lv_iload_n hx hb dX12_joke_1 rfl (lv_at hl 1 rfl) ?_
  refine z_calli (wc := [(h0, .inr (12, [.ref h1, .ref h2, .ref h3, .ref h4, .ref h5, .ref h6, .ref h7, .ref h8, .ref h9, .int 0, .int 0, .int 10, .int 0, .int 0, .int (-9), .int 0, .ref h10, .ref h11, .ref h12, .ref h13, .int 0, .int 0, .int 0, .ref h14, .int 0, .int 0, .int 0, .int (-9), .int 0, .ref h15, .int 0, .int 0, .int 0, .ref h16, .ref h17, .ref h18, .int 0, .int 0]))]) (wr := [(h1, .inl (cI, 7, .inl (fun _ => 0)))]) (w1 := (fun _ => [(h0, .inr (12, [.ref h1, .ref h2, .ref h3, .ref h4, .ref h5, .ref h6, .ref h7, .ref h8, .ref h9, .int 0, .int 0, .int 10, .int 0, .int 0, .int (-9), .int 0, .ref h10, .ref h11, .ref h12, .ref h13, .int 0, .int 0, .int 0, .ref h14, .int 0, .int 0, .int 0, .int (-9), .int 0, .ref h15, .int 0, .int 0, .int 0, .ref h16, .ref h17, .ref h18, .int 0, .int 0]))])) (va_runV (As := [.int p0]) (rest := []) ⟨hx, hb, hml, hown, hts⟩ (kX12_isLine_1 l dC dI cI cQ h0 h1 h2 h3 h4 h5 h6 h7 h8 h9 h10 h11 h12 h13 h14 h15 h16 h17 h18 p0 hp0l hp0h s.heap.size) (cwV 1 hts gv_X12_joke_X12_isLine_169 rfl rfl rfl (by decide +kernel) ⟨Nat.le_of_ble_eq_true rfl, Nat.le_of_ble_eq_true rfl⟩) ⟨z_blind, va_recv hK hP (ci := 12) (q0 := 0) rfl rfl, z_pre hZ hP hD [0] rfl (by decide)⟩ rfl rfl hl.1 rfl (lv_room (Nat.le_of_ble_eq_true rfl)) dX12_joke_2 ⟨Nat.le_of_ble_eq_true rfl, Nat.le_of_ble_eq_true rfl⟩) hP hD hS hA [0] [1] rfl rfl (by decide) (by decide) (fun _ H locs hP hD hS => ?_)
  have hP : va_P (dC, dI) vwCl [(h1, .inl (cI, 7, .inl (fun _ => 0))), (h0, .inr (12, [.ref h1, .ref h2, .ref h3, .ref h4, .ref h5, .ref h6, .ref h7, .ref h8, .ref h9, .int 0, .int 0, .int 10, .int 0, .int 0, .int (-9), .int 0, .ref h10, .ref h11, .ref h12, .ref h13, .int 0, .int 0, .int 0, .ref h14, .int 0, .int 0, .int 0, .int (-9), .int 0, .ref h15, .int 0, .int 0, .int 0, .ref h16, .ref h17, .ref h18, .int 0, .int 0]))] H := hP
  have hD : va_D A [(h1, .inl (cI, 7, .inl (fun _ => 0))), (h0, .inr (12, [.ref h1, .ref h2, .ref h3, .ref h4, .ref h5, .ref h6, .ref h7, .ref h8, .ref h9, .int 0, .int 0, .int 10, .int 0, .int 0, .int (-9), .int 0, .ref h10, .ref h11, .ref h12, .ref h13, .int 0, .int 0, .int 0, .ref h14, .int 0, .int 0, .int 0, .int (-9), .int 0, .ref h15, .int 0, .int 0, .int 0, .ref h16, .ref h17, .ref h18, .int 0, .int 0]))] := hD
  refine lv_if_ne (tgt := 14) hx hb dX12_joke_5 (by decide) (fun hc => ?_) (fun hc => ?_)
  · exact absurd hc (by decide)
  refine lv_aload_n hx hb dX12_joke_8 rfl (lv_at hl 0 rfl) ?_
  refine lv_iconst (v := (-1)) hx hb dX12_joke_9 (by decide) ?_
  refine z_calli (wc := [(h1, .inl (cI, 7, .inl (fun _ => 0))), (h0, .inr (12, [.ref h1, .ref h2, .ref h3, .ref h4, .ref h5, .ref h6, .ref h7, .ref h8, .ref h9, .int 0, .int 0, .int 10, .int 0, .int 0, .int (-9), .int 0, .ref h10, .ref h11, .ref h12, .ref h13, .int 0, .int 0, .int 0, .ref h14, .int 0, .int 0, .int 0, .int (-9), .int 0, .ref h15, .int 0, .int 0, .int 0, .ref h16, .ref h17, .ref h18, .int 0, .int 0]))]) (wr := []) (w1 := (fun _ => [(h1, .inl (cI, 7, .inl (upd (fun _ => 0) 1 1))), (h0, .inr (12, [.ref h1, .ref h2, .ref h3, .ref h4, .ref h5, .ref h6, .ref h7, .ref h8, .ref h9, .int 0, .int 0, .int 10, .int 0, .int 0, .int (-9), .int 0, .ref h10, .ref h11, .ref h12, .ref h13, .int 0, .int 0, .int 0, .ref h14, .int 0, .int 0, .int 0, .int (-9), .int 0, .ref h15, .int 0, .int 0, .int 0, .ref h16, .ref h17, .ref h18, .int 0, .int 0]))])) (va_runV (As := [.int (-1)]) (rest := []) ⟨hx, hb, hml, hown, hts⟩ (kX12_no_3 l dC dI cI cQ h0 h1 h2 h3 h4 h5 h6 h7 h8 h9 h10 h11 h12 h13 h14 h15 h16 h17 h18 H.size) (cwV 1 hts gv_X12_joke_X12_no_89 rfl rfl rfl (by decide +kernel) ⟨Nat.le_of_ble_eq_true rfl, Nat.le_of_ble_eq_true rfl⟩) ⟨z_blind, va_recv hK hP (ci := 12) (q0 := 1) rfl rfl, z_pre hZ hP hD [0, 1] rfl (by decide)⟩ rfl rfl hl.1 rfl (lv_room (Nat.le_of_ble_eq_true rfl)) dX12_joke_10 ⟨Nat.le_of_ble_eq_true rfl, Nat.le_of_ble_eq_true rfl⟩) hP hD hS hA [0, 1] [] rfl rfl (by decide) (by decide) (fun _ H locs hP hD hS => ?_)
  have hP : va_P (dC, dI) vwCl [(h1, .inl (cI, 7, .inl (upd (fun _ => 0) 1 1))), (h0, .inr (12, [.ref h1, .ref h2, .ref h3, .ref h4, .ref h5, .ref h6, .ref h7, .ref h8, .ref h9, .int 0, .int 0, .int 10, .int 0, .int 0, .int (-9), .int 0, .ref h10, .ref h11, .ref h12, .ref h13, .int 0, .int 0, .int 0, .ref h14, .int 0, .int 0, .int 0, .int (-9), .int 0, .ref h15, .int 0, .int 0, .int 0, .ref h16, .ref h17, .ref h18, .int 0, .int 0]))] H := hP
  have hD : va_D A [(h1, .inl (cI, 7, .inl (upd (fun _ => 0) 1 1))), (h0, .inr (12, [.ref h1, .ref h2, .ref h3, .ref h4, .ref h5, .ref h6, .ref h7, .ref h8, .ref h9, .int 0, .int 0, .int 10, .int 0, .int 0, .int (-9), .int 0, .ref h10, .ref h11, .ref h12, .ref h13, .int 0, .int 0, .int 0, .ref h14, .int 0, .int 0, .int 0, .int (-9), .int 0, .ref h15, .int 0, .int 0, .int 0, .ref h16, .ref h17, .ref h18, .int 0, .int 0]))] := hD
  have hP9 := hP.sub (ws' := []) [] rfl
  have hD9 := hD.sub (ws' := []) [] (by decide) rfl
  exact W.iret (v := (-1)) hx hb hr (fun t ht hW => ⟨⟨(-1), (fun k => [].getD k 0), rfl, rfl, by rw [ht]; exact hP9, hD9⟩, hS.F ht⟩) hS.2.2 dX12_joke_13
set_option maxHeartbeats 4000000 in
set_option maxRecDepth 100000 in
theorem kX12_bound_6 (l : Launch) (dC : Nat → ClassId) (dI : Nat → Nat → Nat) (cI cQ : ClassId) (p0 : Int32) (hp0l : -2147483648 ≤ p0.toInt) (hp0h : p0.toInt ≤ -1) (sz : Nat) : Met l yX12_bound vsX12_bound ({ frames := 0, cells := 0, slots := 0, locals := 0 }) (va_Pc [.int p0, .int 0, .int 3] (zB dC dI cI cQ [] sz)) (zQi dC dI (va_A [] sz) (fun ad => []) (-4)) 0 0 (va_A [] sz) := by
  refine Met.ofW (cc := cX12_bound) (maxL := 3) (ret := (some .int)) (by decide) rfl ?_
  intro p e s m args below meth c s₁ B hml hv
  obtain ⟨rfl, hsz, hP, hZ, hD0⟩ := hv
  obtain ⟨hK, hAO, hN⟩ := id hZ
  have hx := B.exec
  have hb := B.bytes
  have hr := B.returns
  have hts := atoms_spec (ws := vsX12_bound) B.pre
  have hown : s.vm.findClass RX12 = some m.cls := findClass_of_methodNamed B.named
  have hlocks := B.notSynchronized
  subst hsz
  have hD := hD0.self (sz := s.heap.size)
  generalize hAe : va_A [] s.heap.size = A at hD ⊢
  have hA : ∀ q : Nat, s.heap.size ≤ q → A q := fun q h => by rw [← hAe]; exact Or.inr h
  have hS : va_S A s.heap s.heap [] := va_S.rf
  have hP : va_P (dC, dI) vwCl [] s.heap := hP
  have hl := lv_entry ([.int p0, .int 0, .int 3]) (n := 3) (Nat.le_of_ble_eq_true rfl)
  rw [lg_entry_eq]
  generalize (lg_sl ([.int p0, .int 0, .int 3]) ++ List.replicate (3 - (lg_sl ([.int p0, .int 0, .int 3])).length) Slot.unset).toArray = ls at hl ⊢
  have hl : lv_has ls 3 [(0, .int p0), (1, .int 0), (2, .int 3)] := hl
  refine lv_iload_n hx hb dX12_bound_0 rfl (lv_at hl 0 rfl) ?_
  refine lv_iload_n hx hb dX12_bound_1 rfl (lv_at hl 1 rfl) ?_
  refine lv_icmp_ge (tgt := 10) hx hb dX12_bound_2 (by decide) (fun hc => ?_) (fun hc => ?_)
  · exact absurd ((fa_le _ _).mp hc) (by rw [show (0 : Int32).toInt = 0 from by decide]; omega)
  refine lv_bipush (v := (-4)) hx hb dX12_bound_5 (by decide) ?_
  refine lv_goto (tgt := 21) hx hb dX12_bound_7 (by decide) ?_
  have hP9 := hP.sub (ws' := []) [] rfl
  have hD9 := hD.sub (ws' := []) [] (by decide) rfl
  exact W.iret (v := (-4)) hx hb hr (fun t ht hW => ⟨⟨(-4), (fun k => [].getD k 0), rfl, rfl, by rw [ht]; exact hP9, hD9⟩, hS.F ht⟩) hS.2.2 dX12_bound_21
set_option maxHeartbeats 4000000 in
set_option maxRecDepth 100000 in
theorem kX12_stretched (l : Launch) (dC : Nat → ClassId) (dI : Nat → Nat → Nat) (cI cQ : ClassId) (h0 h1 h2 h3 h4 h5 h6 h7 h8 h9 h10 h11 h12 h13 h14 h15 h16 h17 h18 : Nat) (p0 : Int32) (hp0l : -2147483648 ≤ p0.toInt) (hp0h : p0.toInt ≤ -1) (sz : Nat) : Met l yX12_stretched vsX12_stretched ({ frames := 1, cells := 0, slots := 0, locals := 22 }) (va_Pc [.ref h0, .int p0] (zB dC dI cI cQ [(h0, .inr (12, [.ref h1, .ref h2, .ref h3, .ref h4, .ref h5, .ref h6, .ref h7, .ref h8, .ref h9, .int 0, .int 0, .int 10, .int 0, .int 0, .int (-9), .int 0, .ref h10, .ref h11, .ref h12, .ref h13, .int 0, .int 0, .int 0, .ref h14, .int 0, .int 0, .int 0, .int (-9), .int 0, .ref h15, .int 0, .int 0, .int 0, .ref h16, .ref h17, .ref h18, .int 0, .int 0])), (h1, .inl (cI, 7, .inl (fun _ => 0)))] sz)) (zQi dC dI (va_A [(h0, .inr (12, [.ref h1, .ref h2, .ref h3, .ref h4, .ref h5, .ref h6, .ref h7, .ref h8, .ref h9, .int 0, .int 0, .int 10, .int 0, .int 0, .int (-9), .int 0, .ref h10, .ref h11, .ref h12, .ref h13, .int 0, .int 0, .int 0, .ref h14, .int 0, .int 0, .int 0, .int (-9), .int 0, .ref h15, .int 0, .int 0, .int 0, .ref h16, .ref h17, .ref h18, .int 0, .int 0])), (h1, .inl (cI, 7, .inl (fun _ => 0)))] sz) (fun ad => []) (-4)) 0 0 (va_A [(h0, .inr (12, [.ref h1, .ref h2, .ref h3, .ref h4, .ref h5, .ref h6, .ref h7, .ref h8, .ref h9, .int 0, .int 0, .int 10, .int 0, .int 0, .int (-9), .int 0, .ref h10, .ref h11, .ref h12, .ref h13, .int 0, .int 0, .int 0, .ref h14, .int 0, .int 0, .int 0, .int (-9), .int 0, .ref h15, .int 0, .int 0, .int 0, .ref h16, .ref h17, .ref h18, .int 0, .int 0])), (h1, .inl (cI, 7, .inl (fun _ => 0)))] sz) := by
  refine Met.ofW (cc := cX12_stretched) (maxL := 4) (ret := (some .int)) (by decide) rfl ?_
  intro p e s m args below meth c s₁ B hml hv
  obtain ⟨rfl, hsz, hP, hZ, hD0⟩ := hv
  obtain ⟨hK, hAO, hN⟩ := id hZ
  have hx := B.exec
  have hb := B.bytes
  have hr := B.returns
  have hts := atoms_spec (ws := vsX12_stretched) B.pre
  have hown : s.vm.findClass RX12 = some m.cls := findClass_of_methodNamed B.named
  have hlocks := B.notSynchronized
  subst hsz
  have hD := hD0.self (sz := s.heap.size)
  generalize hAe : va_A [(h0, .inr (12, [.ref h1, .ref h2, .ref h3, .ref h4, .ref h5, .ref h6, .ref h7, .ref h8, .ref h9, .int 0, .int 0, .int 10, .int 0, .int 0, .int (-9), .int 0, .ref h10, .ref h11, .ref h12, .ref h13, .int 0, .int 0, .int 0, .ref h14, .int 0, .int 0, .int 0, .int (-9), .int 0, .ref h15, .int 0, .int 0, .int 0, .ref h16, .ref h17, .ref h18, .int 0, .int 0])), (h1, .inl (cI, 7, .inl (fun _ => 0)))] s.heap.size = A at hD ⊢
  have hA : ∀ q : Nat, s.heap.size ≤ q → A q := fun q h => by rw [← hAe]; exact Or.inr h
  have hS : va_S A s.heap s.heap [] := va_S.rf
  have hP : va_P (dC, dI) vwCl [(h0, .inr (12, [.ref h1, .ref h2, .ref h3, .ref h4, .ref h5, .ref h6, .ref h7, .ref h8, .ref h9, .int 0, .int 0, .int 10, .int 0, .int 0, .int (-9), .int 0, .ref h10, .ref h11, .ref h12, .ref h13, .int 0, .int 0, .int 0, .ref h14, .int 0, .int 0, .int 0, .int (-9), .int 0, .ref h15, .int 0, .int 0, .int 0, .ref h16, .ref h17, .ref h18, .int 0, .int 0])), (h1, .inl (cI, 7, .inl (fun _ => 0)))] s.heap := hP
  have hl := lv_entry ([.ref h0, .int p0]) (n := 4) (Nat.le_of_ble_eq_true rfl)
  rw [lg_entry_eq]
  generalize (lg_sl ([.ref h0, .int p0]) ++ List.replicate (4 - (lg_sl ([.ref h0, .int p0])).length) Slot.unset).toArray = ls at hl ⊢
  have hl : lv_has ls 4 [(0, .ref h0), (1, .int p0)] := hl
  refine lv_iload_n hx hb dX12_stretched_0 rfl (lv_at hl 1 rfl) ?_
  refine lv_iconst (v := 0) hx hb dX12_stretched_1 (by decide) ?_
  refine lv_iconst (v := 3) hx hb dX12_stretched_2 (by decide) ?_
  refine z_calli (wc := []) (wr := [(h0, .inr (12, [.ref h1, .ref h2, .ref h3, .ref h4, .ref h5, .ref h6, .ref h7, .ref h8, .ref h9, .int 0, .int 0, .int 10, .int 0, .int 0, .int (-9), .int 0, .ref h10, .ref h11, .ref h12, .ref h13, .int 0, .int 0, .int 0, .ref h14, .int 0, .int 0, .int 0, .int (-9), .int 0, .ref h15, .int 0, .int 0, .int 0, .ref h16, .ref h17, .ref h18, .int 0, .int 0])), (h1, .inl (cI, 7, .inl (fun _ => 0)))]) (w1 := (fun _ => [])) (va_runS (As := [.int p0, .int 0, .int 3]) (rest := []) ⟨hx, hb, hml, hown, hts⟩ (kX12_bound_6 l dC dI cI cQ p0 hp0l hp0h s.heap.size) (va_cwS 3 hts gv_X12_stretched_X12_bound_82 rfl rfl rfl (by decide +kernel) ⟨Nat.le_of_ble_eq_true rfl, Nat.le_of_ble_eq_true rfl⟩) ⟨z_blind, z_pre hZ hP hD [] rfl (by decide)⟩ rfl rfl hl.1 rfl (lv_room (Nat.le_of_ble_eq_true rfl)) dX12_stretched_3 ⟨Nat.le_of_ble_eq_true rfl, Nat.le_of_ble_eq_true rfl⟩) hP hD hS hA [] [0, 1] rfl rfl (by decide) (by decide) (fun _ H locs hP hD hS => ?_)
  have hP : va_P (dC, dI) vwCl [(h0, .inr (12, [.ref h1, .ref h2, .ref h3, .ref h4, .ref h5, .ref h6, .ref h7, .ref h8, .ref h9, .int 0, .int 0, .int 10, .int 0, .int 0, .int (-9), .int 0, .ref h10, .ref h11, .ref h12, .ref h13, .int 0, .int 0, .int 0, .ref h14, .int 0, .int 0, .int 0, .int (-9), .int 0, .ref h15, .int 0, .int 0, .int 0, .ref h16, .ref h17, .ref h18, .int 0, .int 0])), (h1, .inl (cI, 7, .inl (fun _ => 0)))] H := hP
  have hD : va_D A [(h0, .inr (12, [.ref h1, .ref h2, .ref h3, .ref h4, .ref h5, .ref h6, .ref h7, .ref h8, .ref h9, .int 0, .int 0, .int 10, .int 0, .int 0, .int (-9), .int 0, .ref h10, .ref h11, .ref h12, .ref h13, .int 0, .int 0, .int 0, .ref h14, .int 0, .int 0, .int 0, .int (-9), .int 0, .ref h15, .int 0, .int 0, .int 0, .ref h16, .ref h17, .ref h18, .int 0, .int 0])), (h1, .inl (cI, 7, .inl (fun _ => 0)))] := hD
  refine lv_istore_n (lv' := [(2, .int (-4)), (0, .ref h0), (1, .int p0)]) hx hb dX12_stretched_6 rfl hl (by decide) rfl (fun ls hl => ?_)
  refine lv_iload_n hx hb dX12_stretched_7 rfl (lv_at hl 0 rfl) ?_
  refine lv_if_ne (tgt := 21) hx hb dX12_stretched_8 (by decide) (fun hc => ?_) (fun hc => ?_)
  rotate_left; exact absurd hc (by decide)
  refine lv_iload_n hx hb dX12_stretched_21 rfl (lv_at hl 0 rfl) ?_
  refine lv_if_eq (tgt := 31) hx hb dX12_stretched_22 (by decide) (fun hc => ?_) (fun hc => ?_)
  · exact absurd hc (by decide)
  refine lv_aload_n hx hb dX12_stretched_25 rfl (lv_at hl 1 rfl) ?_
  refine lv_iload_n hx hb dX12_stretched_26 rfl (lv_at hl 0 rfl) ?_
  refine z_calli (wc := [(h0, .inr (12, [.ref h1, .ref h2, .ref h3, .ref h4, .ref h5, .ref h6, .ref h7, .ref h8, .ref h9, .int 0, .int 0, .int 10, .int 0, .int 0, .int (-9), .int 0, .ref h10, .ref h11, .ref h12, .ref h13, .int 0, .int 0, .int 0, .ref h14, .int 0, .int 0, .int 0, .int (-9), .int 0, .ref h15, .int 0, .int 0, .int 0, .ref h16, .ref h17, .ref h18, .int 0, .int 0])), (h1, .inl (cI, 7, .inl (fun _ => 0)))]) (wr := []) (w1 := (fun _ => [(h0, .inr (12, [.ref h1, .ref h2, .ref h3, .ref h4, .ref h5, .ref h6, .ref h7, .ref h8, .ref h9, .int 0, .int 0, .int 10, .int 0, .int 0, .int (-9), .int 0, .ref h10, .ref h11, .ref h12, .ref h13, .int 0, .int 0, .int 0, .ref h14, .int 0, .int 0, .int 0, .int (-9), .int 0, .ref h15, .int 0, .int 0, .int 0, .ref h16, .ref h17, .ref h18, .int 0, .int 0])), (h1, .inl (cI, 7, .inl (upd (fun _ => 0) 4 1)))])) (va_runV (As := [.int (-4)]) (rest := []) ⟨hx, hb, hml, hown, hts⟩ (kX12_no l dC dI cI cQ h0 h1 h2 h3 h4 h5 h6 h7 h8 h9 h10 h11 h12 h13 h14 h15 h16 h17 h18 H.size) (cwV 1 hts gv_X12_stretched_X12_no_89 rfl rfl rfl (by decide +kernel) ⟨Nat.le_of_ble_eq_true rfl, Nat.le_of_ble_eq_true rfl⟩) ⟨z_blind, va_recv hK hP (ci := 12) (q0 := 0) rfl rfl, z_pre hZ hP hD [0, 1] rfl (by decide)⟩ rfl rfl hl.1 rfl (lv_room (Nat.le_of_ble_eq_true rfl)) dX12_stretched_27 ⟨Nat.le_of_ble_eq_true rfl, Nat.le_of_ble_eq_true rfl⟩) hP hD hS hA [0, 1] [] rfl rfl (by decide) (by decide) (fun _ H locs hP hD hS => ?_)
  have hP : va_P (dC, dI) vwCl [(h0, .inr (12, [.ref h1, .ref h2, .ref h3, .ref h4, .ref h5, .ref h6, .ref h7, .ref h8, .ref h9, .int 0, .int 0, .int 10, .int 0, .int 0, .int (-9), .int 0, .ref h10, .ref h11, .ref h12, .ref h13, .int 0, .int 0, .int 0, .ref h14, .int 0, .int 0, .int 0, .int (-9), .int 0, .ref h15, .int 0, .int 0, .int 0, .ref h16, .ref h17, .ref h18, .int 0, .int 0])), (h1, .inl (cI, 7, .inl (upd (fun _ => 0) 4 1)))] H := hP
  have hD : va_D A [(h0, .inr (12, [.ref h1, .ref h2, .ref h3, .ref h4, .ref h5, .ref h6, .ref h7, .ref h8, .ref h9, .int 0, .int 0, .int 10, .int 0, .int 0, .int (-9), .int 0, .ref h10, .ref h11, .ref h12, .ref h13, .int 0, .int 0, .int 0, .ref h14, .int 0, .int 0, .int 0, .int (-9), .int 0, .ref h15, .int 0, .int 0, .int 0, .ref h16, .ref h17, .ref h18, .int 0, .int 0])), (h1, .inl (cI, 7, .inl (upd (fun _ => 0) 4 1)))] := hD
  have hP9 := hP.sub (ws' := []) [] rfl
  have hD9 := hD.sub (ws' := []) [] (by decide) rfl
  exact W.iret (v := (-4)) hx hb hr (fun t ht hW => ⟨⟨(-4), (fun k => [].getD k 0), rfl, rfl, by rw [ht]; exact hP9, hD9⟩, hS.F ht⟩) hS.2.2 dX12_stretched_30
set_option maxHeartbeats 4000000 in
set_option maxRecDepth 100000 in
theorem kX12_bound_7 (l : Launch) (dC : Nat → ClassId) (dI : Nat → Nat → Nat) (cI cQ : ClassId) (p0 : Int32) (hp0l : 0 ≤ p0.toInt) (hp0h : p0.toInt ≤ 3) (sz : Nat) : Met l yX12_bound vsX12_bound ({ frames := 0, cells := 0, slots := 0, locals := 0 }) (va_Pc [.int p0, .int 0, .int 3] (zB dC dI cI cQ [] sz)) (zQi dC dI (va_A [] sz) (fun ad => []) 0) 0 0 (va_A [] sz) := by
  refine Met.ofW (cc := cX12_bound) (maxL := 3) (ret := (some .int)) (by decide) rfl ?_
  intro p e s m args below meth c s₁ B hml hv
  obtain ⟨rfl, hsz, hP, hZ, hD0⟩ := hv
  obtain ⟨hK, hAO, hN⟩ := id hZ
  have hx := B.exec
  have hb := B.bytes
  have hr := B.returns
  have hts := atoms_spec (ws := vsX12_bound) B.pre
  have hown : s.vm.findClass RX12 = some m.cls := findClass_of_methodNamed B.named
  have hlocks := B.notSynchronized
  subst hsz
  have hD := hD0.self (sz := s.heap.size)
  generalize hAe : va_A [] s.heap.size = A at hD ⊢
  have hA : ∀ q : Nat, s.heap.size ≤ q → A q := fun q h => by rw [← hAe]; exact Or.inr h
  have hS : va_S A s.heap s.heap [] := va_S.rf
  have hP : va_P (dC, dI) vwCl [] s.heap := hP
  have hl := lv_entry ([.int p0, .int 0, .int 3]) (n := 3) (Nat.le_of_ble_eq_true rfl)
  rw [lg_entry_eq]
  generalize (lg_sl ([.int p0, .int 0, .int 3]) ++ List.replicate (3 - (lg_sl ([.int p0, .int 0, .int 3])).length) Slot.unset).toArray = ls at hl ⊢
  have hl : lv_has ls 3 [(0, .int p0), (1, .int 0), (2, .int 3)] := hl
  refine lv_iload_n hx hb dX12_bound_0 rfl (lv_at hl 0 rfl) ?_
  refine lv_iload_n hx hb dX12_bound_1 rfl (lv_at hl 1 rfl) ?_
  refine lv_icmp_ge (tgt := 10) hx hb dX12_bound_2 (by decide) (fun hc => ?_) (fun hc => ?_)
  rotate_left; exact absurd ((fa_le _ _).mpr (by rw [show (0 : Int32).toInt = 0 from by decide]; omega)) hc
  refine lv_iload_n hx hb dX12_bound_10 rfl (lv_at hl 0 rfl) ?_
  refine lv_iload_n hx hb dX12_bound_11 rfl (lv_at hl 2 rfl) ?_
  refine lv_icmp_le (tgt := 20) hx hb dX12_bound_12 (by decide) (fun hc => ?_) (fun hc => ?_)
  rotate_left; exact absurd ((fa_le _ _).mpr (by rw [show (3 : Int32).toInt = 3 from by decide]; omega)) hc
  refine lv_iconst (v := 0) hx hb dX12_bound_20 (by decide) ?_
  have hP9 := hP.sub (ws' := []) [] rfl
  have hD9 := hD.sub (ws' := []) [] (by decide) rfl
  exact W.iret (v := 0) hx hb hr (fun t ht hW => ⟨⟨0, (fun k => [].getD k 0), rfl, rfl, by rw [ht]; exact hP9, hD9⟩, hS.F ht⟩) hS.2.2 dX12_bound_21
set_option maxHeartbeats 4000000 in
set_option maxRecDepth 100000 in
theorem kX12_stretched_1 (l : Launch) (dC : Nat → ClassId) (dI : Nat → Nat → Nat) (cI cQ : ClassId) (h0 h1 h2 h3 h4 h5 h6 h7 h8 h9 h10 h11 h12 h13 h14 h15 h16 h17 h18 : Nat) (p0 : Int32) (hp0l : 0 ≤ p0.toInt) (hp0h : p0.toInt ≤ 3) (sz : Nat) : Met l yX12_stretched vsX12_stretched ({ frames := 1, cells := 0, slots := 0, locals := 22 }) (va_Pc [.ref h0, .int p0] (zB dC dI cI cQ [(h0, .inr (12, [.ref h1, .ref h2, .ref h3, .ref h4, .ref h5, .ref h6, .ref h7, .ref h8, .ref h9, .int 0, .int 0, .int 10, .int 0, .int 0, .int (-9), .int 0, .ref h10, .ref h11, .ref h12, .ref h13, .int 0, .int 0, .int 0, .ref h14, .int 0, .int 0, .int 0, .int (-9), .int 0, .ref h15, .int 0, .int 0, .int 0, .ref h16, .ref h17, .ref h18, .int 0, .int 0])), (h1, .inl (cI, 7, .inl (fun _ => 0)))] sz)) (zQi dC dI (va_A [(h0, .inr (12, [.ref h1, .ref h2, .ref h3, .ref h4, .ref h5, .ref h6, .ref h7, .ref h8, .ref h9, .int 0, .int 0, .int 10, .int 0, .int 0, .int (-9), .int 0, .ref h10, .ref h11, .ref h12, .ref h13, .int 0, .int 0, .int 0, .ref h14, .int 0, .int 0, .int 0, .int (-9), .int 0, .ref h15, .int 0, .int 0, .int 0, .ref h16, .ref h17, .ref h18, .int 0, .int 0])), (h1, .inl (cI, 7, .inl (fun _ => 0)))] sz) (fun ad => []) (-3)) 0 0 (va_A [(h0, .inr (12, [.ref h1, .ref h2, .ref h3, .ref h4, .ref h5, .ref h6, .ref h7, .ref h8, .ref h9, .int 0, .int 0, .int 10, .int 0, .int 0, .int (-9), .int 0, .ref h10, .ref h11, .ref h12, .ref h13, .int 0, .int 0, .int 0, .ref h14, .int 0, .int 0, .int 0, .int (-9), .int 0, .ref h15, .int 0, .int 0, .int 0, .ref h16, .ref h17, .ref h18, .int 0, .int 0])), (h1, .inl (cI, 7, .inl (fun _ => 0)))] sz) := by
  refine Met.ofW (cc := cX12_stretched) (maxL := 4) (ret := (some .int)) (by decide) rfl ?_
  intro p e s m args below meth c s₁ B hml hv
  obtain ⟨rfl, hsz, hP, hZ, hD0⟩ := hv
  obtain ⟨hK, hAO, hN⟩ := id hZ
  have hx := B.exec
  have hb := B.bytes
  have hr := B.returns
  have hts := atoms_spec (ws := vsX12_stretched) B.pre
  have hown : s.vm.findClass RX12 = some m.cls := findClass_of_methodNamed B.named
  have hlocks := B.notSynchronized
  subst hsz
  have hD := hD0.self (sz := s.heap.size)
  generalize hAe : va_A [(h0, .inr (12, [.ref h1, .ref h2, .ref h3, .ref h4, .ref h5, .ref h6, .ref h7, .ref h8, .ref h9, .int 0, .int 0, .int 10, .int 0, .int 0, .int (-9), .int 0, .ref h10, .ref h11, .ref h12, .ref h13, .int 0, .int 0, .int 0, .ref h14, .int 0, .int 0, .int 0, .int (-9), .int 0, .ref h15, .int 0, .int 0, .int 0, .ref h16, .ref h17, .ref h18, .int 0, .int 0])), (h1, .inl (cI, 7, .inl (fun _ => 0)))] s.heap.size = A at hD ⊢
  have hA : ∀ q : Nat, s.heap.size ≤ q → A q := fun q h => by rw [← hAe]; exact Or.inr h
  have hS : va_S A s.heap s.heap [] := va_S.rf
  have hP : va_P (dC, dI) vwCl [(h0, .inr (12, [.ref h1, .ref h2, .ref h3, .ref h4, .ref h5, .ref h6, .ref h7, .ref h8, .ref h9, .int 0, .int 0, .int 10, .int 0, .int 0, .int (-9), .int 0, .ref h10, .ref h11, .ref h12, .ref h13, .int 0, .int 0, .int 0, .ref h14, .int 0, .int 0, .int 0, .int (-9), .int 0, .ref h15, .int 0, .int 0, .int 0, .ref h16, .ref h17, .ref h18, .int 0, .int 0])), (h1, .inl (cI, 7, .inl (fun _ => 0)))] s.heap := hP
  have hl := lv_entry ([.ref h0, .int p0]) (n := 4) (Nat.le_of_ble_eq_true rfl)
  rw [lg_entry_eq]
  generalize (lg_sl ([.ref h0, .int p0]) ++ List.replicate (4 - (lg_sl ([.ref h0, .int p0])).length) Slot.unset).toArray = ls at hl ⊢
  have hl : lv_has ls 4 [(0, .ref h0), (1, .int p0)] := hl
  refine lv_iload_n hx hb dX12_stretched_0 rfl (lv_at hl 1 rfl) ?_
  refine lv_iconst (v := 0) hx hb dX12_stretched_1 (by decide) ?_
  refine lv_iconst (v := 3) hx hb dX12_stretched_2 (by decide) ?_
  refine z_calli (wc := []) (wr := [(h0, .inr (12, [.ref h1, .ref h2, .ref h3, .ref h4, .ref h5, .ref h6, .ref h7, .ref h8, .ref h9, .int 0, .int 0, .int 10, .int 0, .int 0, .int (-9), .int 0, .ref h10, .ref h11, .ref h12, .ref h13, .int 0, .int 0, .int 0, .ref h14, .int 0, .int 0, .int 0, .int (-9), .int 0, .ref h15, .int 0, .int 0, .int 0, .ref h16, .ref h17, .ref h18, .int 0, .int 0])), (h1, .inl (cI, 7, .inl (fun _ => 0)))]) (w1 := (fun _ => [])) (va_runS (As := [.int p0, .int 0, .int 3]) (rest := []) ⟨hx, hb, hml, hown, hts⟩ (kX12_bound_7 l dC dI cI cQ p0 hp0l hp0h s.heap.size) (va_cwS 3 hts gv_X12_stretched_X12_bound_82 rfl rfl rfl (by decide +kernel) ⟨Nat.le_of_ble_eq_true rfl, Nat.le_of_ble_eq_true rfl⟩) ⟨z_blind, z_pre hZ hP hD [] rfl (by decide)⟩ rfl rfl hl.1 rfl (lv_room (Nat.le_of_ble_eq_true rfl)) dX12_stretched_3 ⟨Nat.le_of_ble_eq_true rfl, Nat.le_of_ble_eq_true rfl⟩) hP hD hS hA [] [0, 1] rfl rfl (by decide) (by decide) (fun _ H locs hP hD hS => ?_)
  have hP : va_P (dC, dI) vwCl [(h0, .inr (12, [.ref h1, .ref h2, .ref h3, .ref h4, .ref h5, .ref h6, .ref h7, .ref h8, .ref h9, .int 0, .int 0, .int 10, .int 0, .int 0, .int (-9), .int 0, .ref h10, .ref h11, .ref h12, .ref h13, .int 0, .int 0, .int 0, .ref h14, .int 0, .int 0, .int 0, .int (-9), .int 0, .ref h15, .int 0, .int 0, .int 0, .ref h16, .ref h17, .ref h18, .int 0, .int 0])), (h1, .inl (cI, 7, .inl (fun _ => 0)))] H := hP
  have hD : va_D A [(h0, .inr (12, [.ref h1, .ref h2, .ref h3, .ref h4, .ref h5, .ref h6, .ref h7, .ref h8, .ref h9, .int 0, .int 0, .int 10, .int 0, .int 0, .int (-9), .int 0, .ref h10, .ref h11, .ref h12, .ref h13, .int 0, .int 0, .int 0, .ref h14, .int 0, .int 0, .int 0, .int (-9), .int 0, .ref h15, .int 0, .int 0, .int 0, .ref h16, .ref h17, .ref h18, .int 0, .int 0])), (h1, .inl (cI, 7, .inl (fun _ => 0)))] := hD
  refine lv_istore_n (lv' := [(2, .int 0), (0, .ref h0), (1, .int p0)]) hx hb dX12_stretched_6 rfl hl (by decide) rfl (fun ls hl => ?_)
  refine lv_iload_n hx hb dX12_stretched_7 rfl (lv_at hl 0 rfl) ?_
  refine lv_if_ne (tgt := 21) hx hb dX12_stretched_8 (by decide) (fun hc => ?_) (fun hc => ?_)
  · exact absurd hc (by decide)
  refine lv_aload_n hx hb dX12_stretched_11 rfl (lv_at hl 1 rfl) ?_
  refine va_get (D := (dC, dI)) (ci := 12) (v := .int 0) (C := RX12) (T := TX12) (N := 38) hx hb hts in_X12_stretched_X12 hown hK hP 0 rfl rfl 10 (by decide) (hts (.fieldLink RX12 79 "EachOnHisCueModel" "lines" "I") (by decide +kernel)) (fun _ h9 => h9) rfl dX12_stretched_12 ?_
  refine lv_if_ne (tgt := 21) hx hb dX12_stretched_15 (by decide) (fun hc => ?_) (fun hc => ?_)
  · exact absurd hc (by decide)
  refine lv_bipush (v := (-3)) hx hb dX12_stretched_18 (by decide) ?_
  refine lv_istore_n (lv' := [(2, .int (-3)), (0, .ref h0), (1, .int p0)]) hx hb dX12_stretched_20 rfl hl (by decide) rfl (fun ls hl => ?_)
  refine lv_iload_n hx hb dX12_stretched_21 rfl (lv_at hl 0 rfl) ?_
  refine lv_if_eq (tgt := 31) hx hb dX12_stretched_22 (by decide) (fun hc => ?_) (fun hc => ?_)
  · exact absurd hc (by decide)
  refine lv_aload_n hx hb dX12_stretched_25 rfl (lv_at hl 1 rfl) ?_
  refine lv_iload_n hx hb dX12_stretched_26 rfl (lv_at hl 0 rfl) ?_
  refine z_calli (wc := [(h0, .inr (12, [.ref h1, .ref h2, .ref h3, .ref h4, .ref h5, .ref h6, .ref h7, .ref h8, .ref h9, .int 0, .int 0, .int 10, .int 0, .int 0, .int (-9), .int 0, .ref h10, .ref h11, .ref h12, .ref h13, .int 0, .int 0, .int 0, .ref h14, .int 0, .int 0, .int 0, .int (-9), .int 0, .ref h15, .int 0, .int 0, .int 0, .ref h16, .ref h17, .ref h18, .int 0, .int 0])), (h1, .inl (cI, 7, .inl (fun _ => 0)))]) (wr := []) (w1 := (fun _ => [(h0, .inr (12, [.ref h1, .ref h2, .ref h3, .ref h4, .ref h5, .ref h6, .ref h7, .ref h8, .ref h9, .int 0, .int 0, .int 10, .int 0, .int 0, .int (-9), .int 0, .ref h10, .ref h11, .ref h12, .ref h13, .int 0, .int 0, .int 0, .ref h14, .int 0, .int 0, .int 0, .int (-9), .int 0, .ref h15, .int 0, .int 0, .int 0, .ref h16, .ref h17, .ref h18, .int 0, .int 0])), (h1, .inl (cI, 7, .inl (upd (fun _ => 0) 3 1)))])) (va_runV (As := [.int (-3)]) (rest := []) ⟨hx, hb, hml, hown, hts⟩ (kX12_no_4 l dC dI cI cQ h0 h1 h2 h3 h4 h5 h6 h7 h8 h9 h10 h11 h12 h13 h14 h15 h16 h17 h18 H.size) (cwV 1 hts gv_X12_stretched_X12_no_89 rfl rfl rfl (by decide +kernel) ⟨Nat.le_of_ble_eq_true rfl, Nat.le_of_ble_eq_true rfl⟩) ⟨z_blind, va_recv hK hP (ci := 12) (q0 := 0) rfl rfl, z_pre hZ hP hD [0, 1] rfl (by decide)⟩ rfl rfl hl.1 rfl (lv_room (Nat.le_of_ble_eq_true rfl)) dX12_stretched_27 ⟨Nat.le_of_ble_eq_true rfl, Nat.le_of_ble_eq_true rfl⟩) hP hD hS hA [0, 1] [] rfl rfl (by decide) (by decide) (fun _ H locs hP hD hS => ?_)
  have hP : va_P (dC, dI) vwCl [(h0, .inr (12, [.ref h1, .ref h2, .ref h3, .ref h4, .ref h5, .ref h6, .ref h7, .ref h8, .ref h9, .int 0, .int 0, .int 10, .int 0, .int 0, .int (-9), .int 0, .ref h10, .ref h11, .ref h12, .ref h13, .int 0, .int 0, .int 0, .ref h14, .int 0, .int 0, .int 0, .int (-9), .int 0, .ref h15, .int 0, .int 0, .int 0, .ref h16, .ref h17, .ref h18, .int 0, .int 0])), (h1, .inl (cI, 7, .inl (upd (fun _ => 0) 3 1)))] H := hP
  have hD : va_D A [(h0, .inr (12, [.ref h1, .ref h2, .ref h3, .ref h4, .ref h5, .ref h6, .ref h7, .ref h8, .ref h9, .int 0, .int 0, .int 10, .int 0, .int 0, .int (-9), .int 0, .ref h10, .ref h11, .ref h12, .ref h13, .int 0, .int 0, .int 0, .ref h14, .int 0, .int 0, .int 0, .int (-9), .int 0, .ref h15, .int 0, .int 0, .int 0, .ref h16, .ref h17, .ref h18, .int 0, .int 0])), (h1, .inl (cI, 7, .inl (upd (fun _ => 0) 3 1)))] := hD
  have hP9 := hP.sub (ws' := []) [] rfl
  have hD9 := hD.sub (ws' := []) [] (by decide) rfl
  exact W.iret (v := (-3)) hx hb hr (fun t ht hW => ⟨⟨(-3), (fun k => [].getD k 0), rfl, rfl, by rw [ht]; exact hP9, hD9⟩, hS.F ht⟩) hS.2.2 dX12_stretched_30
set_option maxHeartbeats 4000000 in
set_option maxRecDepth 100000 in
theorem kX12_bound_8 (l : Launch) (dC : Nat → ClassId) (dI : Nat → Nat → Nat) (cI cQ : ClassId) (p0 : Int32) (hp0l : 4 ≤ p0.toInt) (hp0h : p0.toInt ≤ 2147483647) (sz : Nat) : Met l yX12_bound vsX12_bound ({ frames := 0, cells := 0, slots := 0, locals := 0 }) (va_Pc [.int p0, .int 0, .int 3] (zB dC dI cI cQ [] sz)) (zQi dC dI (va_A [] sz) (fun ad => []) (-6)) 0 0 (va_A [] sz) := by
  refine Met.ofW (cc := cX12_bound) (maxL := 3) (ret := (some .int)) (by decide) rfl ?_
  intro p e s m args below meth c s₁ B hml hv
  obtain ⟨rfl, hsz, hP, hZ, hD0⟩ := hv
  obtain ⟨hK, hAO, hN⟩ := id hZ
  have hx := B.exec
  have hb := B.bytes
  have hr := B.returns
  have hts := atoms_spec (ws := vsX12_bound) B.pre
  have hown : s.vm.findClass RX12 = some m.cls := findClass_of_methodNamed B.named
  have hlocks := B.notSynchronized
  subst hsz
  have hD := hD0.self (sz := s.heap.size)
  generalize hAe : va_A [] s.heap.size = A at hD ⊢
  have hA : ∀ q : Nat, s.heap.size ≤ q → A q := fun q h => by rw [← hAe]; exact Or.inr h
  have hS : va_S A s.heap s.heap [] := va_S.rf
  have hP : va_P (dC, dI) vwCl [] s.heap := hP
  have hl := lv_entry ([.int p0, .int 0, .int 3]) (n := 3) (Nat.le_of_ble_eq_true rfl)
  rw [lg_entry_eq]
  generalize (lg_sl ([.int p0, .int 0, .int 3]) ++ List.replicate (3 - (lg_sl ([.int p0, .int 0, .int 3])).length) Slot.unset).toArray = ls at hl ⊢
  have hl : lv_has ls 3 [(0, .int p0), (1, .int 0), (2, .int 3)] := hl
  refine lv_iload_n hx hb dX12_bound_0 rfl (lv_at hl 0 rfl) ?_
  refine lv_iload_n hx hb dX12_bound_1 rfl (lv_at hl 1 rfl) ?_
  refine lv_icmp_ge (tgt := 10) hx hb dX12_bound_2 (by decide) (fun hc => ?_) (fun hc => ?_)
  rotate_left; exact absurd ((fa_le _ _).mpr (by rw [show (0 : Int32).toInt = 0 from by decide]; omega)) hc
  refine lv_iload_n hx hb dX12_bound_10 rfl (lv_at hl 0 rfl) ?_
  refine lv_iload_n hx hb dX12_bound_11 rfl (lv_at hl 2 rfl) ?_
  refine lv_icmp_le (tgt := 20) hx hb dX12_bound_12 (by decide) (fun hc => ?_) (fun hc => ?_)
  · exact absurd ((fa_le _ _).mp hc) (by rw [show (3 : Int32).toInt = 3 from by decide]; omega)
  refine lv_bipush (v := (-6)) hx hb dX12_bound_15 (by decide) ?_
  refine lv_goto (tgt := 21) hx hb dX12_bound_17 (by decide) ?_
  have hP9 := hP.sub (ws' := []) [] rfl
  have hD9 := hD.sub (ws' := []) [] (by decide) rfl
  exact W.iret (v := (-6)) hx hb hr (fun t ht hW => ⟨⟨(-6), (fun k => [].getD k 0), rfl, rfl, by rw [ht]; exact hP9, hD9⟩, hS.F ht⟩) hS.2.2 dX12_bound_21
set_option maxHeartbeats 4000000 in
set_option maxRecDepth 100000 in
theorem kX12_stretched_2 (l : Launch) (dC : Nat → ClassId) (dI : Nat → Nat → Nat) (cI cQ : ClassId) (h0 h1 h2 h3 h4 h5 h6 h7 h8 h9 h10 h11 h12 h13 h14 h15 h16 h17 h18 : Nat) (p0 : Int32) (hp0l : 4 ≤ p0.toInt) (hp0h : p0.toInt ≤ 2147483647) (sz : Nat) : Met l yX12_stretched vsX12_stretched ({ frames := 1, cells := 0, slots := 0, locals := 22 }) (va_Pc [.ref h0, .int p0] (zB dC dI cI cQ [(h0, .inr (12, [.ref h1, .ref h2, .ref h3, .ref h4, .ref h5, .ref h6, .ref h7, .ref h8, .ref h9, .int 0, .int 0, .int 10, .int 0, .int 0, .int (-9), .int 0, .ref h10, .ref h11, .ref h12, .ref h13, .int 0, .int 0, .int 0, .ref h14, .int 0, .int 0, .int 0, .int (-9), .int 0, .ref h15, .int 0, .int 0, .int 0, .ref h16, .ref h17, .ref h18, .int 0, .int 0])), (h1, .inl (cI, 7, .inl (fun _ => 0)))] sz)) (zQi dC dI (va_A [(h0, .inr (12, [.ref h1, .ref h2, .ref h3, .ref h4, .ref h5, .ref h6, .ref h7, .ref h8, .ref h9, .int 0, .int 0, .int 10, .int 0, .int 0, .int (-9), .int 0, .ref h10, .ref h11, .ref h12, .ref h13, .int 0, .int 0, .int 0, .ref h14, .int 0, .int 0, .int 0, .int (-9), .int 0, .ref h15, .int 0, .int 0, .int 0, .ref h16, .ref h17, .ref h18, .int 0, .int 0])), (h1, .inl (cI, 7, .inl (fun _ => 0)))] sz) (fun ad => []) (-6)) 0 0 (va_A [(h0, .inr (12, [.ref h1, .ref h2, .ref h3, .ref h4, .ref h5, .ref h6, .ref h7, .ref h8, .ref h9, .int 0, .int 0, .int 10, .int 0, .int 0, .int (-9), .int 0, .ref h10, .ref h11, .ref h12, .ref h13, .int 0, .int 0, .int 0, .ref h14, .int 0, .int 0, .int 0, .int (-9), .int 0, .ref h15, .int 0, .int 0, .int 0, .ref h16, .ref h17, .ref h18, .int 0, .int 0])), (h1, .inl (cI, 7, .inl (fun _ => 0)))] sz) := by
  refine Met.ofW (cc := cX12_stretched) (maxL := 4) (ret := (some .int)) (by decide) rfl ?_
  intro p e s m args below meth c s₁ B hml hv
  obtain ⟨rfl, hsz, hP, hZ, hD0⟩ := hv
  obtain ⟨hK, hAO, hN⟩ := id hZ
  have hx := B.exec
  have hb := B.bytes
  have hr := B.returns
  have hts := atoms_spec (ws := vsX12_stretched) B.pre
  have hown : s.vm.findClass RX12 = some m.cls := findClass_of_methodNamed B.named
  have hlocks := B.notSynchronized
  subst hsz
  have hD := hD0.self (sz := s.heap.size)
  generalize hAe : va_A [(h0, .inr (12, [.ref h1, .ref h2, .ref h3, .ref h4, .ref h5, .ref h6, .ref h7, .ref h8, .ref h9, .int 0, .int 0, .int 10, .int 0, .int 0, .int (-9), .int 0, .ref h10, .ref h11, .ref h12, .ref h13, .int 0, .int 0, .int 0, .ref h14, .int 0, .int 0, .int 0, .int (-9), .int 0, .ref h15, .int 0, .int 0, .int 0, .ref h16, .ref h17, .ref h18, .int 0, .int 0])), (h1, .inl (cI, 7, .inl (fun _ => 0)))] s.heap.size = A at hD ⊢
  have hA : ∀ q : Nat, s.heap.size ≤ q → A q := fun q h => by rw [← hAe]; exact Or.inr h
  have hS : va_S A s.heap s.heap [] := va_S.rf
  have hP : va_P (dC, dI) vwCl [(h0, .inr (12, [.ref h1, .ref h2, .ref h3, .ref h4, .ref h5, .ref h6, .ref h7, .ref h8, .ref h9, .int 0, .int 0, .int 10, .int 0, .int 0, .int (-9), .int 0, .ref h10, .ref h11, .ref h12, .ref h13, .int 0, .int 0, .int 0, .ref h14, .int 0, .int 0, .int 0, .int (-9), .int 0, .ref h15, .int 0, .int 0, .int 0, .ref h16, .ref h17, .ref h18, .int 0, .int 0])), (h1, .inl (cI, 7, .inl (fun _ => 0)))] s.heap := hP
  have hl := lv_entry ([.ref h0, .int p0]) (n := 4) (Nat.le_of_ble_eq_true rfl)
  rw [lg_entry_eq]
  generalize (lg_sl ([.ref h0, .int p0]) ++ List.replicate (4 - (lg_sl ([.ref h0, .int p0])).length) Slot.unset).toArray = ls at hl ⊢
  have hl : lv_has ls 4 [(0, .ref h0), (1, .int p0)] := hl
  refine lv_iload_n hx hb dX12_stretched_0 rfl (lv_at hl 1 rfl) ?_
  refine lv_iconst (v := 0) hx hb dX12_stretched_1 (by decide) ?_
  refine lv_iconst (v := 3) hx hb dX12_stretched_2 (by decide) ?_
  refine z_calli (wc := []) (wr := [(h0, .inr (12, [.ref h1, .ref h2, .ref h3, .ref h4, .ref h5, .ref h6, .ref h7, .ref h8, .ref h9, .int 0, .int 0, .int 10, .int 0, .int 0, .int (-9), .int 0, .ref h10, .ref h11, .ref h12, .ref h13, .int 0, .int 0, .int 0, .ref h14, .int 0, .int 0, .int 0, .int (-9), .int 0, .ref h15, .int 0, .int 0, .int 0, .ref h16, .ref h17, .ref h18, .int 0, .int 0])), (h1, .inl (cI, 7, .inl (fun _ => 0)))]) (w1 := (fun _ => [])) (va_runS (As := [.int p0, .int 0, .int 3]) (rest := []) ⟨hx, hb, hml, hown, hts⟩ (kX12_bound_8 l dC dI cI cQ p0 hp0l hp0h s.heap.size) (va_cwS 3 hts gv_X12_stretched_X12_bound_82 rfl rfl rfl (by decide +kernel) ⟨Nat.le_of_ble_eq_true rfl, Nat.le_of_ble_eq_true rfl⟩) ⟨z_blind, z_pre hZ hP hD [] rfl (by decide)⟩ rfl rfl hl.1 rfl (lv_room (Nat.le_of_ble_eq_true rfl)) dX12_stretched_3 ⟨Nat.le_of_ble_eq_true rfl, Nat.le_of_ble_eq_true rfl⟩) hP hD hS hA [] [0, 1] rfl rfl (by decide) (by decide) (fun _ H locs hP hD hS => ?_)
  have hP : va_P (dC, dI) vwCl [(h0, .inr (12, [.ref h1, .ref h2, .ref h3, .ref h4, .ref h5, .ref h6, .ref h7, .ref h8, .ref h9, .int 0, .int 0, .int 10, .int 0, .int 0, .int (-9), .int 0, .ref h10, .ref h11, .ref h12, .ref h13, .int 0, .int 0, .int 0, .ref h14, .int 0, .int 0, .int 0, .int (-9), .int 0, .ref h15, .int 0, .int 0, .int 0, .ref h16, .ref h17, .ref h18, .int 0, .int 0])), (h1, .inl (cI, 7, .inl (fun _ => 0)))] H := hP
  have hD : va_D A [(h0, .inr (12, [.ref h1, .ref h2, .ref h3, .ref h4, .ref h5, .ref h6, .ref h7, .ref h8, .ref h9, .int 0, .int 0, .int 10, .int 0, .int 0, .int (-9), .int 0, .ref h10, .ref h11, .ref h12, .ref h13, .int 0, .int 0, .int 0, .ref h14, .int 0, .int 0, .int 0, .int (-9), .int 0, .ref h15, .int 0, .int 0, .int 0, .ref h16, .ref h17, .ref h18, .int 0, .int 0])), (h1, .inl (cI, 7, .inl (fun _ => 0)))] := hD
  refine lv_istore_n (lv' := [(2, .int (-6)), (0, .ref h0), (1, .int p0)]) hx hb dX12_stretched_6 rfl hl (by decide) rfl (fun ls hl => ?_)
  refine lv_iload_n hx hb dX12_stretched_7 rfl (lv_at hl 0 rfl) ?_
  refine lv_if_ne (tgt := 21) hx hb dX12_stretched_8 (by decide) (fun hc => ?_) (fun hc => ?_)
  rotate_left; exact absurd hc (by decide)
  refine lv_iload_n hx hb dX12_stretched_21 rfl (lv_at hl 0 rfl) ?_
  refine lv_if_eq (tgt := 31) hx hb dX12_stretched_22 (by decide) (fun hc => ?_) (fun hc => ?_)
  · exact absurd hc (by decide)
  refine lv_aload_n hx hb dX12_stretched_25 rfl (lv_at hl 1 rfl) ?_
  refine lv_iload_n hx hb dX12_stretched_26 rfl (lv_at hl 0 rfl) ?_
  refine z_calli (wc := [(h0, .inr (12, [.ref h1, .ref h2, .ref h3, .ref h4, .ref h5, .ref h6, .ref h7, .ref h8, .ref h9, .int 0, .int 0, .int 10, .int 0, .int 0, .int (-9), .int 0, .ref h10, .ref h11, .ref h12, .ref h13, .int 0, .int 0, .int 0, .ref h14, .int 0, .int 0, .int 0, .int (-9), .int 0, .ref h15, .int 0, .int 0, .int 0, .ref h16, .ref h17, .ref h18, .int 0, .int 0])), (h1, .inl (cI, 7, .inl (fun _ => 0)))]) (wr := []) (w1 := (fun _ => [(h0, .inr (12, [.ref h1, .ref h2, .ref h3, .ref h4, .ref h5, .ref h6, .ref h7, .ref h8, .ref h9, .int 0, .int 0, .int 10, .int 0, .int 0, .int (-9), .int 0, .ref h10, .ref h11, .ref h12, .ref h13, .int 0, .int 0, .int 0, .ref h14, .int 0, .int 0, .int 0, .int (-9), .int 0, .ref h15, .int 0, .int 0, .int 0, .ref h16, .ref h17, .ref h18, .int 0, .int 0])), (h1, .inl (cI, 7, .inl (upd (fun _ => 0) 6 1)))])) (va_runV (As := [.int (-6)]) (rest := []) ⟨hx, hb, hml, hown, hts⟩ (kX12_no_1 l dC dI cI cQ h0 h1 h2 h3 h4 h5 h6 h7 h8 h9 h10 h11 h12 h13 h14 h15 h16 h17 h18 H.size) (cwV 1 hts gv_X12_stretched_X12_no_89 rfl rfl rfl (by decide +kernel) ⟨Nat.le_of_ble_eq_true rfl, Nat.le_of_ble_eq_true rfl⟩) ⟨z_blind, va_recv hK hP (ci := 12) (q0 := 0) rfl rfl, z_pre hZ hP hD [0, 1] rfl (by decide)⟩ rfl rfl hl.1 rfl (lv_room (Nat.le_of_ble_eq_true rfl)) dX12_stretched_27 ⟨Nat.le_of_ble_eq_true rfl, Nat.le_of_ble_eq_true rfl⟩) hP hD hS hA [0, 1] [] rfl rfl (by decide) (by decide) (fun _ H locs hP hD hS => ?_)
  have hP : va_P (dC, dI) vwCl [(h0, .inr (12, [.ref h1, .ref h2, .ref h3, .ref h4, .ref h5, .ref h6, .ref h7, .ref h8, .ref h9, .int 0, .int 0, .int 10, .int 0, .int 0, .int (-9), .int 0, .ref h10, .ref h11, .ref h12, .ref h13, .int 0, .int 0, .int 0, .ref h14, .int 0, .int 0, .int 0, .int (-9), .int 0, .ref h15, .int 0, .int 0, .int 0, .ref h16, .ref h17, .ref h18, .int 0, .int 0])), (h1, .inl (cI, 7, .inl (upd (fun _ => 0) 6 1)))] H := hP
  have hD : va_D A [(h0, .inr (12, [.ref h1, .ref h2, .ref h3, .ref h4, .ref h5, .ref h6, .ref h7, .ref h8, .ref h9, .int 0, .int 0, .int 10, .int 0, .int 0, .int (-9), .int 0, .ref h10, .ref h11, .ref h12, .ref h13, .int 0, .int 0, .int 0, .ref h14, .int 0, .int 0, .int 0, .int (-9), .int 0, .ref h15, .int 0, .int 0, .int 0, .ref h16, .ref h17, .ref h18, .int 0, .int 0])), (h1, .inl (cI, 7, .inl (upd (fun _ => 0) 6 1)))] := hD
  have hP9 := hP.sub (ws' := []) [] rfl
  have hD9 := hD.sub (ws' := []) [] (by decide) rfl
  exact W.iret (v := (-6)) hx hb hr (fun t ht hW => ⟨⟨(-6), (fun k => [].getD k 0), rfl, rfl, by rw [ht]; exact hP9, hD9⟩, hS.F ht⟩) hS.2.2 dX12_stretched_30
set_option maxHeartbeats 4000000 in
set_option maxRecDepth 100000 in
theorem kX12_parts (l : Launch) (dC : Nat → ClassId) (dI : Nat → Nat → Nat) (cI cQ : ClassId) (h0 h1 h2 h3 h4 h5 h6 h7 h8 h9 h10 h11 h12 h13 h14 h15 h16 h17 h18 : Nat) (sz : Nat) : Met l yX12_parts vsX12_parts ({ frames := 0, cells := 0, slots := 0, locals := 0 }) (va_Pc [.ref h0] (zB dC dI cI cQ [(h0, .inr (12, [.ref h1, .ref h2, .ref h3, .ref h4, .ref h5, .ref h6, .ref h7, .ref h8, .ref h9, .int 0, .int 0, .int 10, .int 0, .int 0, .int (-9), .int 0, .ref h10, .ref h11, .ref h12, .ref h13, .int 0, .int 0, .int 0, .ref h14, .int 0, .int 0, .int 0, .int (-9), .int 0, .ref h15, .int 0, .int 0, .int 0, .ref h16, .ref h17, .ref h18, .int 0, .int 0]))] sz)) (zQi dC dI (va_A [(h0, .inr (12, [.ref h1, .ref h2, .ref h3, .ref h4, .ref h5, .ref h6, .ref h7, .ref h8, .ref h9, .int 0, .int 0, .int 10, .int 0, .int 0, .int (-9), .int 0, .ref h10, .ref h11, .ref h12, .ref h13, .int 0, .int 0, .int 0, .ref h14, .int 0, .int 0, .int 0, .int (-9), .int 0, .ref h15, .int 0, .int 0, .int 0, .ref h16, .ref h17, .ref h18, .int 0, .int 0]))] sz) (fun ad => []) 0) 0 0 (va_A [(h0, .inr (12, [.ref h1, .ref h2, .ref h3, .ref h4, .ref h5, .ref h6, .ref h7, .ref h8, .ref h9, .int 0, .int 0, .int 10, .int 0, .int 0, .int (-9), .int 0, .ref h10, .ref h11, .ref h12, .ref h13, .int 0, .int 0, .int 0, .ref h14, .int 0, .int 0, .int 0, .int (-9), .int 0, .ref h15, .int 0, .int 0, .int 0, .ref h16, .ref h17, .ref h18, .int 0, .int 0]))] sz) := by
  refine Met.ofW (cc := cX12_parts) (maxL := 5) (ret := (some .int)) (by decide) rfl ?_
  intro p e s m args below meth c s₁ B hml hv
  obtain ⟨rfl, hsz, hP, hZ, hD0⟩ := hv
  obtain ⟨hK, hAO, hN⟩ := id hZ
  have hx := B.exec
  have hb := B.bytes
  have hr := B.returns
  have hts := atoms_spec (ws := vsX12_parts) B.pre
  have hown : s.vm.findClass RX12 = some m.cls := findClass_of_methodNamed B.named
  have hlocks := B.notSynchronized
  subst hsz
  have hD := hD0.self (sz := s.heap.size)
  generalize hAe : va_A [(h0, .inr (12, [.ref h1, .ref h2, .ref h3, .ref h4, .ref h5, .ref h6, .ref h7, .ref h8, .ref h9, .int 0, .int 0, .int 10, .int 0, .int 0, .int (-9), .int 0, .ref h10, .ref h11, .ref h12, .ref h13, .int 0, .int 0, .int 0, .ref h14, .int 0, .int 0, .int 0, .int (-9), .int 0, .ref h15, .int 0, .int 0, .int 0, .ref h16, .ref h17, .ref h18, .int 0, .int 0]))] s.heap.size = A at hD ⊢
  have hA : ∀ q : Nat, s.heap.size ≤ q → A q := fun q h => by rw [← hAe]; exact Or.inr h
  have hS : va_S A s.heap s.heap [] := va_S.rf
  have hP : va_P (dC, dI) vwCl [(h0, .inr (12, [.ref h1, .ref h2, .ref h3, .ref h4, .ref h5, .ref h6, .ref h7, .ref h8, .ref h9, .int 0, .int 0, .int 10, .int 0, .int 0, .int (-9), .int 0, .ref h10, .ref h11, .ref h12, .ref h13, .int 0, .int 0, .int 0, .ref h14, .int 0, .int 0, .int 0, .int (-9), .int 0, .ref h15, .int 0, .int 0, .int 0, .ref h16, .ref h17, .ref h18, .int 0, .int 0]))] s.heap := hP
  have hl := lv_entry ([.ref h0]) (n := 5) (Nat.le_of_ble_eq_true rfl)
  rw [lg_entry_eq]
  generalize (lg_sl ([.ref h0]) ++ List.replicate (5 - (lg_sl ([.ref h0])).length) Slot.unset).toArray = ls at hl ⊢
  have hl : lv_has ls 5 [(0, .ref h0)] := hl
  refine lv_iconst (v := 0) hx hb dX12_parts_0 (by decide) ?_
  refine lv_istore_n (lv' := [(1, .int 0), (0, .ref h0)]) hx hb dX12_parts_1 rfl hl (by decide) rfl (fun ls hl => ?_)
  refine lv_iconst (v := 0) hx hb dX12_parts_2 (by decide) ?_
  refine lv_istore_n (lv' := [(2, .int 0), (1, .int 0), (0, .ref h0)]) hx hb dX12_parts_3 rfl hl (by decide) rfl (fun ls hl => ?_)
  refine lv_iload_n hx hb dX12_parts_4 rfl (lv_at hl 0 rfl) ?_
  refine lv_aload_n hx hb dX12_parts_5 rfl (lv_at hl 2 rfl) ?_
  refine va_get (D := (dC, dI)) (ci := 12) (v := .int 0) (C := RX12) (T := TX12) (N := 38) hx hb hts in_X12_parts_X12 hown hK hP 0 rfl rfl 10 (by decide) (hts (.fieldLink RX12 79 "EachOnHisCueModel" "lines" "I") (by decide +kernel)) (fun _ h9 => h9) rfl dX12_parts_6 ?_
  refine lv_icmp_ge (tgt := 67) hx hb dX12_parts_9 (by decide) (fun hc => ?_) (fun hc => ?_)
  rotate_left; exact absurd hc (by decide)
  refine lv_iload_n hx hb dX12_parts_67 rfl (lv_at hl 1 rfl) ?_
  have hP9 := hP.sub (ws' := []) [] rfl
  have hD9 := hD.sub (ws' := []) [] (by decide) rfl
  exact W.iret (v := 0) hx hb hr (fun t ht hW => ⟨⟨0, (fun k => [].getD k 0), rfl, rfl, by rw [ht]; exact hP9, hD9⟩, hS.F ht⟩) hS.2.2 dX12_parts_68
set_option maxHeartbeats 4000000 in
set_option maxRecDepth 100000 in
theorem kX12_notBooks (l : Launch) (dC : Nat → ClassId) (dI : Nat → Nat → Nat) (cI cQ : ClassId) (h0 h1 h2 h3 h4 h5 h6 h7 h8 h9 h10 h11 h12 h13 h14 h15 h16 h17 h18 : Nat) (sz : Nat) : Met l yX12_notBooks vsX12_notBooks ({ frames := 0, cells := 0, slots := 0, locals := 0 }) (va_Pc [.ref h0] (zB dC dI cI cQ [(h0, .inr (12, [.ref h1, .ref h2, .ref h3, .ref h4, .ref h5, .ref h6, .ref h7, .ref h8, .ref h9, .int 0, .int 0, .int 10, .int 0, .int 0, .int (-9), .int 0, .ref h10, .ref h11, .ref h12, .ref h13, .int 0, .int 0, .int 0, .ref h14, .int 0, .int 0, .int 0, .int (-9), .int 0, .ref h15, .int 0, .int 0, .int 0, .ref h16, .ref h17, .ref h18, .int 0, .int 0]))] sz)) (zQi dC dI (va_A [(h0, .inr (12, [.ref h1, .ref h2, .ref h3, .ref h4, .ref h5, .ref h6, .ref h7, .ref h8, .ref h9, .int 0, .int 0, .int 10, .int 0, .int 0, .int (-9), .int 0, .ref h10, .ref h11, .ref h12, .ref h13, .int 0, .int 0, .int 0, .ref h14, .int 0, .int 0, .int 0, .int (-9), .int 0, .ref h15, .int 0, .int 0, .int 0, .ref h16, .ref h17, .ref h18, .int 0, .int 0]))] sz) (fun ad => [(h0, .inr (12, [.ref h1, .ref h2, .ref h3, .ref h4, .ref h5, .ref h6, .ref h7, .ref h8, .ref h9, .int 0, .int 0, .int 10, .int 0, .int 0, .int (-9), .int 0, .ref h10, .ref h11, .ref h12, .ref h13, .int 0, .int 0, .int 0, .ref h14, .int 0, .int 0, .int 0, .int (-9), .int 0, .ref h15, .int 0, .int 0, .int 0, .ref h16, .ref h17, .ref h18, .int 0, .int 0]))]) (-3)) 0 0 (va_A [(h0, .inr (12, [.ref h1, .ref h2, .ref h3, .ref h4, .ref h5, .ref h6, .ref h7, .ref h8, .ref h9, .int 0, .int 0, .int 10, .int 0, .int 0, .int (-9), .int 0, .ref h10, .ref h11, .ref h12, .ref h13, .int 0, .int 0, .int 0, .ref h14, .int 0, .int 0, .int 0, .int (-9), .int 0, .ref h15, .int 0, .int 0, .int 0, .ref h16, .ref h17, .ref h18, .int 0, .int 0]))] sz) := by
  refine Met.ofW (cc := cX12_notBooks) (maxL := 1) (ret := (some .int)) (by decide) rfl ?_
  intro p e s m args below meth c s₁ B hml hv
  obtain ⟨rfl, hsz, hP, hZ, hD0⟩ := hv
  obtain ⟨hK, hAO, hN⟩ := id hZ
  have hx := B.exec
  have hb := B.bytes
  have hr := B.returns
  have hts := atoms_spec (ws := vsX12_notBooks) B.pre
  have hown : s.vm.findClass RX12 = some m.cls := findClass_of_methodNamed B.named
  have hlocks := B.notSynchronized
  subst hsz
  have hD := hD0.self (sz := s.heap.size)
  generalize hAe : va_A [(h0, .inr (12, [.ref h1, .ref h2, .ref h3, .ref h4, .ref h5, .ref h6, .ref h7, .ref h8, .ref h9, .int 0, .int 0, .int 10, .int 0, .int 0, .int (-9), .int 0, .ref h10, .ref h11, .ref h12, .ref h13, .int 0, .int 0, .int 0, .ref h14, .int 0, .int 0, .int 0, .int (-9), .int 0, .ref h15, .int 0, .int 0, .int 0, .ref h16, .ref h17, .ref h18, .int 0, .int 0]))] s.heap.size = A at hD ⊢
  have hA : ∀ q : Nat, s.heap.size ≤ q → A q := fun q h => by rw [← hAe]; exact Or.inr h
  have hS : va_S A s.heap s.heap [] := va_S.rf
  have hP : va_P (dC, dI) vwCl [(h0, .inr (12, [.ref h1, .ref h2, .ref h3, .ref h4, .ref h5, .ref h6, .ref h7, .ref h8, .ref h9, .int 0, .int 0, .int 10, .int 0, .int 0, .int (-9), .int 0, .ref h10, .ref h11, .ref h12, .ref h13, .int 0, .int 0, .int 0, .ref h14, .int 0, .int 0, .int 0, .int (-9), .int 0, .ref h15, .int 0, .int 0, .int 0, .ref h16, .ref h17, .ref h18, .int 0, .int 0]))] s.heap := hP
  have hl := lv_entry ([.ref h0]) (n := 1) (Nat.le_of_ble_eq_true rfl)
  rw [lg_entry_eq]
  generalize (lg_sl ([.ref h0]) ++ List.replicate (1 - (lg_sl ([.ref h0])).length) Slot.unset).toArray = ls at hl ⊢
  have hl : lv_has ls 1 [(0, .ref h0)] := hl
  refine lv_aload_n hx hb dX12_notBooks_0 rfl (lv_at hl 0 rfl) ?_
  refine va_get (D := (dC, dI)) (ci := 12) (v := .int 0) (C := RX12) (T := TX12) (N := 38) hx hb hts in_X12_notBooks_X12 hown hK hP 0 rfl rfl 10 (by decide) (hts (.fieldLink RX12 79 "EachOnHisCueModel" "lines" "I") (by decide +kernel)) (fun _ h9 => h9) rfl dX12_notBooks_1 ?_
  refine lv_if_ne (tgt := 12) hx hb dX12_notBooks_4 (by decide) (fun hc => ?_) (fun hc => ?_)
  · exact absurd hc (by decide)
  refine lv_bipush (v := (-3)) hx hb dX12_notBooks_7 (by decide) ?_
  refine lv_goto (tgt := 27) hx hb dX12_notBooks_9 (by decide) ?_
  have hP9 := hP.sub (ws' := [(h0, .inr (12, [.ref h1, .ref h2, .ref h3, .ref h4, .ref h5, .ref h6, .ref h7, .ref h8, .ref h9, .int 0, .int 0, .int 10, .int 0, .int 0, .int (-9), .int 0, .ref h10, .ref h11, .ref h12, .ref h13, .int 0, .int 0, .int 0, .ref h14, .int 0, .int 0, .int 0, .int (-9), .int 0, .ref h15, .int 0, .int 0, .int 0, .ref h16, .ref h17, .ref h18, .int 0, .int 0]))]) [0] rfl
  have hD9 := hD.sub (ws' := [(h0, .inr (12, [.ref h1, .ref h2, .ref h3, .ref h4, .ref h5, .ref h6, .ref h7, .ref h8, .ref h9, .int 0, .int 0, .int 10, .int 0, .int 0, .int (-9), .int 0, .ref h10, .ref h11, .ref h12, .ref h13, .int 0, .int 0, .int 0, .ref h14, .int 0, .int 0, .int 0, .int (-9), .int 0, .ref h15, .int 0, .int 0, .int 0, .ref h16, .ref h17, .ref h18, .int 0, .int 0]))]) [0] (by decide) rfl
  exact W.iret (v := (-3)) hx hb hr (fun t ht hW => ⟨⟨(-3), (fun k => [].getD k 0), rfl, rfl, by rw [ht]; exact hP9, hD9⟩, hS.F ht⟩) hS.2.2 dX12_notBooks_27
set_option maxHeartbeats 4000000 in
set_option maxRecDepth 100000 in
theorem kX12_no_6 (l : Launch) (dC : Nat → ClassId) (dI : Nat → Nat → Nat) (cI cQ : ClassId) (h0 h1 h2 h3 h4 h5 h6 h7 h8 h9 h10 h11 h12 h13 h14 h15 h16 h17 h18 : Nat) (sz : Nat) : Met l yX12_no vsX12_no ({ frames := 0, cells := 0, slots := 0, locals := 0 }) (va_Pc [.ref h0, .int (-3)] (zB dC dI cI cQ [(h1, .inl (cI, 7, .inl (fun _ => 0))), (h0, .inr (12, [.ref h1, .ref h2, .ref h3, .ref h4, .ref h5, .ref h6, .ref h7, .ref h8, .ref h9, .int 0, .int 0, .int 10, .int 0, .int 0, .int (-9), .int 0, .ref h10, .ref h11, .ref h12, .ref h13, .int 0, .int 0, .int 0, .ref h14, .int 0, .int 0, .int 0, .int (-9), .int 0, .ref h15, .int 0, .int 0, .int 0, .ref h16, .ref h17, .ref h18, .int 0, .int 0]))] sz)) (zQi dC dI (va_A [(h1, .inl (cI, 7, .inl (fun _ => 0))), (h0, .inr (12, [.ref h1, .ref h2, .ref h3, .ref h4, .ref h5, .ref h6, .ref h7, .ref h8, .ref h9, .int 0, .int 0, .int 10, .int 0, .int 0, .int (-9), .int 0, .ref h10, .ref h11, .ref h12, .ref h13, .int 0, .int 0, .int 0, .ref h14, .int 0, .int 0, .int 0, .int (-9), .int 0, .ref h15, .int 0, .int 0, .int 0, .ref h16, .ref h17, .ref h18, .int 0, .int 0]))] sz) (fun ad => [(h1, .inl (cI, 7, .inl (upd (fun _ => 0) 3 1))), (h0, .inr (12, [.ref h1, .ref h2, .ref h3, .ref h4, .ref h5, .ref h6, .ref h7, .ref h8, .ref h9, .int 0, .int 0, .int 10, .int 0, .int 0, .int (-9), .int 0, .ref h10, .ref h11, .ref h12, .ref h13, .int 0, .int 0, .int 0, .ref h14, .int 0, .int 0, .int 0, .int (-9), .int 0, .ref h15, .int 0, .int 0, .int 0, .ref h16, .ref h17, .ref h18, .int 0, .int 0]))]) (-3)) 0 0 (va_A [(h1, .inl (cI, 7, .inl (fun _ => 0))), (h0, .inr (12, [.ref h1, .ref h2, .ref h3, .ref h4, .ref h5, .ref h6, .ref h7, .ref h8, .ref h9, .int 0, .int 0, .int 10, .int 0, .int 0, .int (-9), .int 0, .ref h10, .ref h11, .ref h12, .ref h13, .int 0, .int 0, .int 0, .ref h14, .int 0, .int 0, .int 0, .int (-9), .int 0, .ref h15, .int 0, .int 0, .int 0, .ref h16, .ref h17, .ref h18, .int 0, .int 0]))] sz) := by
  refine Met.ofW (cc := cX12_no) (maxL := 2) (ret := (some .int)) (by decide) rfl ?_
  intro p e s m args below meth c s₁ B hml hv
  obtain ⟨rfl, hsz, hP, hZ, hD0⟩ := hv
  obtain ⟨hK, hAO, hN⟩ := id hZ
  have hx := B.exec
  have hb := B.bytes
  have hr := B.returns
  have hts := atoms_spec (ws := vsX12_no) B.pre
  have hown : s.vm.findClass RX12 = some m.cls := findClass_of_methodNamed B.named
  have hlocks := B.notSynchronized
  subst hsz
  have hD := hD0.self (sz := s.heap.size)
  generalize hAe : va_A [(h1, .inl (cI, 7, .inl (fun _ => 0))), (h0, .inr (12, [.ref h1, .ref h2, .ref h3, .ref h4, .ref h5, .ref h6, .ref h7, .ref h8, .ref h9, .int 0, .int 0, .int 10, .int 0, .int 0, .int (-9), .int 0, .ref h10, .ref h11, .ref h12, .ref h13, .int 0, .int 0, .int 0, .ref h14, .int 0, .int 0, .int 0, .int (-9), .int 0, .ref h15, .int 0, .int 0, .int 0, .ref h16, .ref h17, .ref h18, .int 0, .int 0]))] s.heap.size = A at hD ⊢
  have hA : ∀ q : Nat, s.heap.size ≤ q → A q := fun q h => by rw [← hAe]; exact Or.inr h
  have hS : va_S A s.heap s.heap [] := va_S.rf
  have hP : va_P (dC, dI) vwCl [(h1, .inl (cI, 7, .inl (fun _ => 0))), (h0, .inr (12, [.ref h1, .ref h2, .ref h3, .ref h4, .ref h5, .ref h6, .ref h7, .ref h8, .ref h9, .int 0, .int 0, .int 10, .int 0, .int 0, .int (-9), .int 0, .ref h10, .ref h11, .ref h12, .ref h13, .int 0, .int 0, .int 0, .ref h14, .int 0, .int 0, .int 0, .int (-9), .int 0, .ref h15, .int 0, .int 0, .int 0, .ref h16, .ref h17, .ref h18, .int 0, .int 0]))] s.heap := hP
  have hl := lv_entry ([.ref h0, .int (-3)]) (n := 2) (Nat.le_of_ble_eq_true rfl)
  rw [lg_entry_eq]
  generalize (lg_sl ([.ref h0, .int (-3)]) ++ List.replicate (2 - (lg_sl ([.ref h0, .int (-3)])).length) Slot.unset).toArray = ls at hl ⊢
  have hl : lv_has ls 2 [(0, .ref h0), (1, .int (-3))] := hl
  refine lv_aload_n hx hb dX12_no_0 rfl (lv_at hl 0 rfl) ?_
  refine va_get (D := (dC, dI)) (ci := 12) (v := .ref h1) (C := RX12) (T := TX12) (N := 38) hx hb hts in_X12_no_X12 hown hK hP 1 rfl rfl 0 (by decide) (hts (.fieldLink RX12 7 "EachOnHisCueModel" "refused" "[I") (by decide +kernel)) (fun _ h9 => h9) rfl dX12_no_1 ?_
  refine lv_iload_n hx hb dX12_no_4 rfl (lv_at hl 1 rfl) ?_
  refine lv_ineg hx hb dX12_no_5 ?_
  refine lv_topi (fun y1 ey1 => ?_)
  obtain rfl : y1 = 3 := ey1.trans (by decide)
  refine lv_dup2_11 hx hb dX12_no_6 rfl rfl ?_
  refine va_iald hx hb hK hP 0 0 rfl rfl (by unfold vp_in; decide) dX12_no_7 ?_
  refine lv_topi (fun y2 ey2 => ?_)
  obtain rfl : y2 = 0 := ey2.trans (by first | rfl | decide)
  refine lv_iconst (v := 1) hx hb dX12_no_8 (by decide) ?_
  refine lv_iadd hx hb dX12_no_9 ?_
  refine lv_topi (fun y3 ey3 => ?_)
  obtain rfl : y3 = 1 := ey3.trans (by decide)
  refine va_iast hx hb hK hP hD hS 0 0 rfl rfl (by unfold vp_in; decide) dX12_no_10 (fun H locs hP hD hS => ?_)
  have hP : va_P (dC, dI) vwCl [(h1, .inl (cI, 7, .inl (upd (fun _ => 0) 3 1))), (h0, .inr (12, [.ref h1, .ref h2, .ref h3, .ref h4, .ref h5, .ref h6, .ref h7, .ref h8, .ref h9, .int 0, .int 0, .int 10, .int 0, .int 0, .int (-9), .int 0, .ref h10, .ref h11, .ref h12, .ref h13, .int 0, .int 0, .int 0, .ref h14, .int 0, .int 0, .int 0, .int (-9), .int 0, .ref h15, .int 0, .int 0, .int 0, .ref h16, .ref h17, .ref h18, .int 0, .int 0]))] H := hP
  have hD : va_D A [(h1, .inl (cI, 7, .inl (upd (fun _ => 0) 3 1))), (h0, .inr (12, [.ref h1, .ref h2, .ref h3, .ref h4, .ref h5, .ref h6, .ref h7, .ref h8, .ref h9, .int 0, .int 0, .int 10, .int 0, .int 0, .int (-9), .int 0, .ref h10, .ref h11, .ref h12, .ref h13, .int 0, .int 0, .int 0, .ref h14, .int 0, .int 0, .int 0, .int (-9), .int 0, .ref h15, .int 0, .int 0, .int 0, .ref h16, .ref h17, .ref h18, .int 0, .int 0]))] := hD
  refine lv_iload_n hx hb dX12_no_11 rfl (lv_at hl 1 rfl) ?_
  have hP9 := hP.sub (ws' := [(h1, .inl (cI, 7, .inl (upd (fun _ => 0) 3 1))), (h0, .inr (12, [.ref h1, .ref h2, .ref h3, .ref h4, .ref h5, .ref h6, .ref h7, .ref h8, .ref h9, .int 0, .int 0, .int 10, .int 0, .int 0, .int (-9), .int 0, .ref h10, .ref h11, .ref h12, .ref h13, .int 0, .int 0, .int 0, .ref h14, .int 0, .int 0, .int 0, .int (-9), .int 0, .ref h15, .int 0, .int 0, .int 0, .ref h16, .ref h17, .ref h18, .int 0, .int 0]))]) [0, 1] rfl
  have hD9 := hD.sub (ws' := [(h1, .inl (cI, 7, .inl (upd (fun _ => 0) 3 1))), (h0, .inr (12, [.ref h1, .ref h2, .ref h3, .ref h4, .ref h5, .ref h6, .ref h7, .ref h8, .ref h9, .int 0, .int 0, .int 10, .int 0, .int 0, .int (-9), .int 0, .ref h10, .ref h11, .ref h12, .ref h13, .int 0, .int 0, .int 0, .ref h14, .int 0, .int 0, .int 0, .int (-9), .int 0, .ref h15, .int 0, .int 0, .int 0, .ref h16, .ref h17, .ref h18, .int 0, .int 0]))]) [0, 1] (by decide) rfl
  exact W.iret (v := (-3)) hx hb hr (fun t ht hW => ⟨⟨(-3), (fun k => [].getD k 0), rfl, rfl, by rw [ht]; exact hP9, hD9⟩, hS.F ht⟩) hS.2.2 dX12_no_12
set_option maxHeartbeats 4000000 in
set_option maxRecDepth 100000 in
theorem kX12_books (l : Launch) (dC : Nat → ClassId) (dI : Nat → Nat → Nat) (cI cQ : ClassId) (h0 h1 h2 h3 h4 h5 h6 h7 h8 h9 h10 h11 h12 h13 h14 h15 h16 h17 h18 : Nat) (sz : Nat) : Met l yX12_books vsX12_books ({ frames := 1, cells := 0, slots := 0, locals := 21 }) (va_Pc [.ref h0] (zB dC dI cI cQ [(h0, .inr (12, [.ref h1, .ref h2, .ref h3, .ref h4, .ref h5, .ref h6, .ref h7, .ref h8, .ref h9, .int 0, .int 0, .int 10, .int 0, .int 0, .int (-9), .int 0, .ref h10, .ref h11, .ref h12, .ref h13, .int 0, .int 0, .int 0, .ref h14, .int 0, .int 0, .int 0, .int (-9), .int 0, .ref h15, .int 0, .int 0, .int 0, .ref h16, .ref h17, .ref h18, .int 0, .int 0])), (h1, .inl (cI, 7, .inl (fun _ => 0)))] sz)) (zQi dC dI (va_A [(h0, .inr (12, [.ref h1, .ref h2, .ref h3, .ref h4, .ref h5, .ref h6, .ref h7, .ref h8, .ref h9, .int 0, .int 0, .int 10, .int 0, .int 0, .int (-9), .int 0, .ref h10, .ref h11, .ref h12, .ref h13, .int 0, .int 0, .int 0, .ref h14, .int 0, .int 0, .int 0, .int (-9), .int 0, .ref h15, .int 0, .int 0, .int 0, .ref h16, .ref h17, .ref h18, .int 0, .int 0])), (h1, .inl (cI, 7, .inl (fun _ => 0)))] sz) (fun ad => []) (-3)) 0 0 (va_A [(h0, .inr (12, [.ref h1, .ref h2, .ref h3, .ref h4, .ref h5, .ref h6, .ref h7, .ref h8, .ref h9, .int 0, .int 0, .int 10, .int 0, .int 0, .int (-9), .int 0, .ref h10, .ref h11, .ref h12, .ref h13, .int 0, .int 0, .int 0, .ref h14, .int 0, .int 0, .int 0, .int (-9), .int 0, .ref h15, .int 0, .int 0, .int 0, .ref h16, .ref h17, .ref h18, .int 0, .int 0])), (h1, .inl (cI, 7, .inl (fun _ => 0)))] sz) := by
  refine Met.ofW (cc := cX12_books) (maxL := 2) (ret := (some .int)) (by decide) rfl ?_
  intro p e s m args below meth c s₁ B hml hv
  obtain ⟨rfl, hsz, hP, hZ, hD0⟩ := hv
  obtain ⟨hK, hAO, hN⟩ := id hZ
  have hx := B.exec
  have hb := B.bytes
  have hr := B.returns
  have hts := atoms_spec (ws := vsX12_books) B.pre
  have hown : s.vm.findClass RX12 = some m.cls := findClass_of_methodNamed B.named
  have hlocks := B.notSynchronized
  subst hsz
  have hD := hD0.self (sz := s.heap.size)
  generalize hAe : va_A [(h0, .inr (12, [.ref h1, .ref h2, .ref h3, .ref h4, .ref h5, .ref h6, .ref h7, .ref h8, .ref h9, .int 0, .int 0, .int 10, .int 0, .int 0, .int (-9), .int 0, .ref h10, .ref h11, .ref h12, .ref h13, .int 0, .int 0, .int 0, .ref h14, .int 0, .int 0, .int 0, .int (-9), .int 0, .ref h15, .int 0, .int 0, .int 0, .ref h16, .ref h17, .ref h18, .int 0, .int 0])), (h1, .inl (cI, 7, .inl (fun _ => 0)))] s.heap.size = A at hD ⊢
  have hA : ∀ q : Nat, s.heap.size ≤ q → A q := fun q h => by rw [← hAe]; exact Or.inr h
  have hS : va_S A s.heap s.heap [] := va_S.rf
  have hP : va_P (dC, dI) vwCl [(h0, .inr (12, [.ref h1, .ref h2, .ref h3, .ref h4, .ref h5, .ref h6, .ref h7, .ref h8, .ref h9, .int 0, .int 0, .int 10, .int 0, .int 0, .int (-9), .int 0, .ref h10, .ref h11, .ref h12, .ref h13, .int 0, .int 0, .int 0, .ref h14, .int 0, .int 0, .int 0, .int (-9), .int 0, .ref h15, .int 0, .int 0, .int 0, .ref h16, .ref h17, .ref h18, .int 0, .int 0])), (h1, .inl (cI, 7, .inl (fun _ => 0)))] s.heap := hP
  have hl := lv_entry ([.ref h0]) (n := 2) (Nat.le_of_ble_eq_true rfl)
  rw [lg_entry_eq]
  generalize (lg_sl ([.ref h0]) ++ List.replicate (2 - (lg_sl ([.ref h0])).length) Slot.unset).toArray = ls at hl ⊢
  have hl : lv_has ls 2 [(0, .ref h0)] := hl
  refine lv_aload_n hx hb dX12_books_0 rfl (lv_at hl 0 rfl) ?_
  refine z_calli (wc := [(h0, .inr (12, [.ref h1, .ref h2, .ref h3, .ref h4, .ref h5, .ref h6, .ref h7, .ref h8, .ref h9, .int 0, .int 0, .int 10, .int 0, .int 0, .int (-9), .int 0, .ref h10, .ref h11, .ref h12, .ref h13, .int 0, .int 0, .int 0, .ref h14, .int 0, .int 0, .int 0, .int (-9), .int 0, .ref h15, .int 0, .int 0, .int 0, .ref h16, .ref h17, .ref h18, .int 0, .int 0]))]) (wr := [(h1, .inl (cI, 7, .inl (fun _ => 0)))]) (w1 := (fun _ => [(h0, .inr (12, [.ref h1, .ref h2, .ref h3, .ref h4, .ref h5, .ref h6, .ref h7, .ref h8, .ref h9, .int 0, .int 0, .int 10, .int 0, .int 0, .int (-9), .int 0, .ref h10, .ref h11, .ref h12, .ref h13, .int 0, .int 0, .int 0, .ref h14, .int 0, .int 0, .int 0, .int (-9), .int 0, .ref h15, .int 0, .int 0, .int 0, .ref h16, .ref h17, .ref h18, .int 0, .int 0]))])) (va_runV (As := []) (rest := []) ⟨hx, hb, hml, hown, hts⟩ (kX12_notBooks l dC dI cI cQ h0 h1 h2 h3 h4 h5 h6 h7 h8 h9 h10 h11 h12 h13 h14 h15 h16 h17 h18 s.heap.size) (cwV 0 hts gv_X12_books_X12_notBooks_270 rfl rfl rfl (by decide +kernel) ⟨Nat.le_of_ble_eq_true rfl, Nat.le_of_ble_eq_true rfl⟩) ⟨z_blind, va_recv hK hP (ci := 12) (q0 := 0) rfl rfl, z_pre hZ hP hD [0] rfl (by decide)⟩ rfl rfl hl.1 rfl (lv_room (Nat.le_of_ble_eq_true rfl)) dX12_books_1 ⟨Nat.le_of_ble_eq_true rfl, Nat.le_of_ble_eq_true rfl⟩) hP hD hS hA [0] [1] rfl rfl (by decide) (by decide) (fun _ H locs hP hD hS => ?_)
  have hP : va_P (dC, dI) vwCl [(h1, .inl (cI, 7, .inl (fun _ => 0))), (h0, .inr (12, [.ref h1, .ref h2, .ref h3, .ref h4, .ref h5, .ref h6, .ref h7, .ref h8, .ref h9, .int 0, .int 0, .int 10, .int 0, .int 0, .int (-9), .int 0, .ref h10, .ref h11, .ref h12, .ref h13, .int 0, .int 0, .int 0, .ref h14, .int 0, .int 0, .int 0, .int (-9), .int 0, .ref h15, .int 0, .int 0, .int 0, .ref h16, .ref h17, .ref h18, .int 0, .int 0]))] H := hP
  have hD : va_D A [(h1, .inl (cI, 7, .inl (fun _ => 0))), (h0, .inr (12, [.ref h1, .ref h2, .ref h3, .ref h4, .ref h5, .ref h6, .ref h7, .ref h8, .ref h9, .int 0, .int 0, .int 10, .int 0, .int 0, .int (-9), .int 0, .ref h10, .ref h11, .ref h12, .ref h13, .int 0, .int 0, .int 0, .ref h14, .int 0, .int 0, .int 0, .int (-9), .int 0, .ref h15, .int 0, .int 0, .int 0, .ref h16, .ref h17, .ref h18, .int 0, .int 0]))] := hD
  refine lv_istore_n (lv' := [(1, .int (-3)), (0, .ref h0)]) hx hb dX12_books_4 rfl hl (by decide) rfl (fun ls hl => ?_)
  refine lv_iload_n hx hb dX12_books_5 rfl (lv_at hl 0 rfl) ?_
  refine lv_if_eq (tgt := 17) hx hb dX12_books_6 (by decide) (fun hc => ?_) (fun hc => ?_)
  · exact absurd hc (by decide)
  refine lv_aload_n hx hb dX12_books_9 rfl (lv_at hl 1 rfl) ?_
  refine lv_iload_n hx hb dX12_books_10 rfl (lv_at hl 0 rfl) ?_
  refine z_calli (wc := [(h1, .inl (cI, 7, .inl (fun _ => 0))), (h0, .inr (12, [.ref h1, .ref h2, .ref h3, .ref h4, .ref h5, .ref h6, .ref h7, .ref h8, .ref h9, .int 0, .int 0, .int 10, .int 0, .int 0, .int (-9), .int 0, .ref h10, .ref h11, .ref h12, .ref h13, .int 0, .int 0, .int 0, .ref h14, .int 0, .int 0, .int 0, .int (-9), .int 0, .ref h15, .int 0, .int 0, .int 0, .ref h16, .ref h17, .ref h18, .int 0, .int 0]))]) (wr := []) (w1 := (fun _ => [(h1, .inl (cI, 7, .inl (upd (fun _ => 0) 3 1))), (h0, .inr (12, [.ref h1, .ref h2, .ref h3, .ref h4, .ref h5, .ref h6, .ref h7, .ref h8, .ref h9, .int 0, .int 0, .int 10, .int 0, .int 0, .int (-9), .int 0, .ref h10, .ref h11, .ref h12, .ref h13, .int 0, .int 0, .int 0, .ref h14, .int 0, .int 0, .int 0, .int (-9), .int 0, .ref h15, .int 0, .int 0, .int 0, .ref h16, .ref h17, .ref h18, .int 0, .int 0]))])) (va_runV (As := [.int (-3)]) (rest := []) ⟨hx, hb, hml, hown, hts⟩ (kX12_no_6 l dC dI cI cQ h0 h1 h2 h3 h4 h5 h6 h7 h8 h9 h10 h11 h12 h13 h14 h15 h16 h17 h18 H.size) (cwV 1 hts gv_X12_books_X12_no_89 rfl rfl rfl (by decide +kernel) ⟨Nat.le_of_ble_eq_true rfl, Nat.le_of_ble_eq_true rfl⟩) ⟨z_blind, va_recv hK hP (ci := 12) (q0 := 1) rfl rfl, z_pre hZ hP hD [0, 1] rfl (by decide)⟩ rfl rfl hl.1 rfl (lv_room (Nat.le_of_ble_eq_true rfl)) dX12_books_11 ⟨Nat.le_of_ble_eq_true rfl, Nat.le_of_ble_eq_true rfl⟩) hP hD hS hA [0, 1] [] rfl rfl (by decide) (by decide) (fun _ H locs hP hD hS => ?_)
  have hP : va_P (dC, dI) vwCl [(h1, .inl (cI, 7, .inl (upd (fun _ => 0) 3 1))), (h0, .inr (12, [.ref h1, .ref h2, .ref h3, .ref h4, .ref h5, .ref h6, .ref h7, .ref h8, .ref h9, .int 0, .int 0, .int 10, .int 0, .int 0, .int (-9), .int 0, .ref h10, .ref h11, .ref h12, .ref h13, .int 0, .int 0, .int 0, .ref h14, .int 0, .int 0, .int 0, .int (-9), .int 0, .ref h15, .int 0, .int 0, .int 0, .ref h16, .ref h17, .ref h18, .int 0, .int 0]))] H := hP
  have hD : va_D A [(h1, .inl (cI, 7, .inl (upd (fun _ => 0) 3 1))), (h0, .inr (12, [.ref h1, .ref h2, .ref h3, .ref h4, .ref h5, .ref h6, .ref h7, .ref h8, .ref h9, .int 0, .int 0, .int 10, .int 0, .int 0, .int (-9), .int 0, .ref h10, .ref h11, .ref h12, .ref h13, .int 0, .int 0, .int 0, .ref h14, .int 0, .int 0, .int 0, .int (-9), .int 0, .ref h15, .int 0, .int 0, .int 0, .ref h16, .ref h17, .ref h18, .int 0, .int 0]))] := hD
  refine lv_goto (tgt := 23) hx hb dX12_books_14 (by decide) ?_
  have hP9 := hP.sub (ws' := []) [] rfl
  have hD9 := hD.sub (ws' := []) [] (by decide) rfl
  exact W.iret (v := (-3)) hx hb hr (fun t ht hW => ⟨⟨(-3), (fun k => [].getD k 0), rfl, rfl, by rw [ht]; exact hP9, hD9⟩, hS.F ht⟩) hS.2.2 dX12_books_23
set_option maxHeartbeats 4000000 in
set_option maxRecDepth 100000 in
theorem kX12_book (l : Launch) (dC : Nat → ClassId) (dI : Nat → Nat → Nat) (cI cQ : ClassId) (h0 h1 h2 h3 h4 h5 h6 h7 h8 h9 h10 h11 h12 h13 h14 h15 h16 h17 h18 : Nat) (p0 : Int32) (hp0l : -2147483648 ≤ p0.toInt) (hp0h : p0.toInt ≤ -1) (p1 : Int32) (hp1l : -2147483648 ≤ p1.toInt) (hp1h : p1.toInt ≤ 2147483647) (sz : Nat) : Met l yX12_book vsX12_book ({ frames := 1, cells := 0, slots := 0, locals := 21 }) (va_Pc [.ref h0, .int p0, .int p1] (zB dC dI cI cQ [(h0, .inr (12, [.ref h1, .ref h2, .ref h3, .ref h4, .ref h5, .ref h6, .ref h7, .ref h8, .ref h9, .int 0, .int 0, .int 10, .int 0, .int 0, .int (-9), .int 0, .ref h10, .ref h11, .ref h12, .ref h13, .int 0, .int 0, .int 0, .ref h14, .int 0, .int 0, .int 0, .int (-9), .int 0, .ref h15, .int 0, .int 0, .int 0, .ref h16, .ref h17, .ref h18, .int 0, .int 0])), (h1, .inl (cI, 7, .inl (fun _ => 0)))] sz)) (zQi dC dI (va_A [(h0, .inr (12, [.ref h1, .ref h2, .ref h3, .ref h4, .ref h5, .ref h6, .ref h7, .ref h8, .ref h9, .int 0, .int 0, .int 10, .int 0, .int 0, .int (-9), .int 0, .ref h10, .ref h11, .ref h12, .ref h13, .int 0, .int 0, .int 0, .ref h14, .int 0, .int 0, .int 0, .int (-9), .int 0, .ref h15, .int 0, .int 0, .int 0, .ref h16, .ref h17, .ref h18, .int 0, .int 0])), (h1, .inl (cI, 7, .inl (fun _ => 0)))] sz) (fun ad => []) (-4)) 0 0 (va_A [(h0, .inr (12, [.ref h1, .ref h2, .ref h3, .ref h4, .ref h5, .ref h6, .ref h7, .ref h8, .ref h9, .int 0, .int 0, .int 10, .int 0, .int 0, .int (-9), .int 0, .ref h10, .ref h11, .ref h12, .ref h13, .int 0, .int 0, .int 0, .ref h14, .int 0, .int 0, .int 0, .int (-9), .int 0, .ref h15, .int 0, .int 0, .int 0, .ref h16, .ref h17, .ref h18, .int 0, .int 0])), (h1, .inl (cI, 7, .inl (fun _ => 0)))] sz) := by
  refine Met.ofW (cc := cX12_book) (maxL := 4) (ret := (some .int)) (by decide) rfl ?_
  intro p e s m args below meth c s₁ B hml hv
  obtain ⟨rfl, hsz, hP, hZ, hD0⟩ := hv
  obtain ⟨hK, hAO, hN⟩ := id hZ
  have hx := B.exec
  have hb := B.bytes
  have hr := B.returns
  have hts := atoms_spec (ws := vsX12_book) B.pre
  have hown : s.vm.findClass RX12 = some m.cls := findClass_of_methodNamed B.named
  have hlocks := B.notSynchronized
  subst hsz
  have hD := hD0.self (sz := s.heap.size)
  generalize hAe : va_A [(h0, .inr (12, [.ref h1, .ref h2, .ref h3, .ref h4, .ref h5, .ref h6, .ref h7, .ref h8, .ref h9, .int 0, .int 0, .int 10, .int 0, .int 0, .int (-9), .int 0, .ref h10, .ref h11, .ref h12, .ref h13, .int 0, .int 0, .int 0, .ref h14, .int 0, .int 0, .int 0, .int (-9), .int 0, .ref h15, .int 0, .int 0, .int 0, .ref h16, .ref h17, .ref h18, .int 0, .int 0])), (h1, .inl (cI, 7, .inl (fun _ => 0)))] s.heap.size = A at hD ⊢
  have hA : ∀ q : Nat, s.heap.size ≤ q → A q := fun q h => by rw [← hAe]; exact Or.inr h
  have hS : va_S A s.heap s.heap [] := va_S.rf
  have hP : va_P (dC, dI) vwCl [(h0, .inr (12, [.ref h1, .ref h2, .ref h3, .ref h4, .ref h5, .ref h6, .ref h7, .ref h8, .ref h9, .int 0, .int 0, .int 10, .int 0, .int 0, .int (-9), .int 0, .ref h10, .ref h11, .ref h12, .ref h13, .int 0, .int 0, .int 0, .ref h14, .int 0, .int 0, .int 0, .int (-9), .int 0, .ref h15, .int 0, .int 0, .int 0, .ref h16, .ref h17, .ref h18, .int 0, .int 0])), (h1, .inl (cI, 7, .inl (fun _ => 0)))] s.heap := hP
  have hl := lv_entry ([.ref h0, .int p0, .int p1]) (n := 4) (Nat.le_of_ble_eq_true rfl)
  rw [lg_entry_eq]
  generalize (lg_sl ([.ref h0, .int p0, .int p1]) ++ List.replicate (4 - (lg_sl ([.ref h0, .int p0, .int p1])).length) Slot.unset).toArray = ls at hl ⊢
  have hl : lv_has ls 4 [(0, .ref h0), (1, .int p0), (2, .int p1)] := hl
  refine lv_iload_n hx hb dX12_book_0 rfl (lv_at hl 1 rfl) ?_
  refine lv_if_lt (tgt := 8) hx hb dX12_book_1 (by decide) (fun hc => ?_) (fun hc => ?_)
  rotate_left; exact absurd ((fa_lt _ _).mpr (by rw [show (0 : Int32).toInt = 0 from by decide]; omega)) hc
  refine lv_bipush (v := (-4)) hx hb dX12_book_8 (by decide) ?_
  refine lv_goto (tgt := 17) hx hb dX12_book_10 (by decide) ?_
  refine lv_istore_n (lv' := [(3, .int (-4)), (0, .ref h0), (1, .int p0), (2, .int p1)]) hx hb dX12_book_17 rfl hl (by decide) rfl (fun ls hl => ?_)
  refine lv_iload_n hx hb dX12_book_18 rfl (lv_at hl 0 rfl) ?_
  refine lv_if_eq (tgt := 28) hx hb dX12_book_19 (by decide) (fun hc => ?_) (fun hc => ?_)
  · exact absurd hc (by decide)
  refine lv_aload_n hx hb dX12_book_22 rfl (lv_at hl 1 rfl) ?_
  refine lv_iload_n hx hb dX12_book_23 rfl (lv_at hl 0 rfl) ?_
  refine z_calli (wc := [(h0, .inr (12, [.ref h1, .ref h2, .ref h3, .ref h4, .ref h5, .ref h6, .ref h7, .ref h8, .ref h9, .int 0, .int 0, .int 10, .int 0, .int 0, .int (-9), .int 0, .ref h10, .ref h11, .ref h12, .ref h13, .int 0, .int 0, .int 0, .ref h14, .int 0, .int 0, .int 0, .int (-9), .int 0, .ref h15, .int 0, .int 0, .int 0, .ref h16, .ref h17, .ref h18, .int 0, .int 0])), (h1, .inl (cI, 7, .inl (fun _ => 0)))]) (wr := []) (w1 := (fun _ => [(h0, .inr (12, [.ref h1, .ref h2, .ref h3, .ref h4, .ref h5, .ref h6, .ref h7, .ref h8, .ref h9, .int 0, .int 0, .int 10, .int 0, .int 0, .int (-9), .int 0, .ref h10, .ref h11, .ref h12, .ref h13, .int 0, .int 0, .int 0, .ref h14, .int 0, .int 0, .int 0, .int (-9), .int 0, .ref h15, .int 0, .int 0, .int 0, .ref h16, .ref h17, .ref h18, .int 0, .int 0])), (h1, .inl (cI, 7, .inl (upd (fun _ => 0) 4 1)))])) (va_runV (As := [.int (-4)]) (rest := []) ⟨hx, hb, hml, hown, hts⟩ (kX12_no l dC dI cI cQ h0 h1 h2 h3 h4 h5 h6 h7 h8 h9 h10 h11 h12 h13 h14 h15 h16 h17 h18 s.heap.size) (cwV 1 hts gv_X12_book_X12_no_89 rfl rfl rfl (by decide +kernel) ⟨Nat.le_of_ble_eq_true rfl, Nat.le_of_ble_eq_true rfl⟩) ⟨z_blind, va_recv hK hP (ci := 12) (q0 := 0) rfl rfl, z_pre hZ hP hD [0, 1] rfl (by decide)⟩ rfl rfl hl.1 rfl (lv_room (Nat.le_of_ble_eq_true rfl)) dX12_book_24 ⟨Nat.le_of_ble_eq_true rfl, Nat.le_of_ble_eq_true rfl⟩) hP hD hS hA [0, 1] [] rfl rfl (by decide) (by decide) (fun _ H locs hP hD hS => ?_)
  have hP : va_P (dC, dI) vwCl [(h0, .inr (12, [.ref h1, .ref h2, .ref h3, .ref h4, .ref h5, .ref h6, .ref h7, .ref h8, .ref h9, .int 0, .int 0, .int 10, .int 0, .int 0, .int (-9), .int 0, .ref h10, .ref h11, .ref h12, .ref h13, .int 0, .int 0, .int 0, .ref h14, .int 0, .int 0, .int 0, .int (-9), .int 0, .ref h15, .int 0, .int 0, .int 0, .ref h16, .ref h17, .ref h18, .int 0, .int 0])), (h1, .inl (cI, 7, .inl (upd (fun _ => 0) 4 1)))] H := hP
  have hD : va_D A [(h0, .inr (12, [.ref h1, .ref h2, .ref h3, .ref h4, .ref h5, .ref h6, .ref h7, .ref h8, .ref h9, .int 0, .int 0, .int 10, .int 0, .int 0, .int (-9), .int 0, .ref h10, .ref h11, .ref h12, .ref h13, .int 0, .int 0, .int 0, .ref h14, .int 0, .int 0, .int 0, .int (-9), .int 0, .ref h15, .int 0, .int 0, .int 0, .ref h16, .ref h17, .ref h18, .int 0, .int 0])), (h1, .inl (cI, 7, .inl (upd (fun _ => 0) 4 1)))] := hD
  have hP9 := hP.sub (ws' := []) [] rfl
  have hD9 := hD.sub (ws' := []) [] (by decide) rfl
  exact W.iret (v := (-4)) hx hb hr (fun t ht hW => ⟨⟨(-4), (fun k => [].getD k 0), rfl, rfl, by rw [ht]; exact hP9, hD9⟩, hS.F ht⟩) hS.2.2 dX12_book_27
