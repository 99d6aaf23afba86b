set_option maxHeartbeats 4000000 in
set_option maxRecDepth 100000 in
theorem kX12_say (l : Launch) (dC : Nat → ClassId) (dI : Nat → Nat → Nat) (cI cQ : ClassId) (h0 h1 h2 h3 h4 h5 h6 h7 h8 h9 h10 h11 h12 h13 h14 h15 h16 h17 h18 : Nat) (sz : Nat) : Met l yX12_say vsX12_say ({ frames := 1, cells := 0, slots := 0, locals := 21 }) (va_Pc [.ref h0] (zB dC dI cI cQ [(h0, .inr (12, [.ref h1, .ref h2, .ref h3, .ref h4, .ref h5, .ref h6, .ref h7, .ref h8, .ref h9, .int 0, .int 0, .int 10, .int 0, .int 0, .int (-9), .int 0, .ref h10, .ref h11, .ref h12, .ref h13, .int 0, .int 0, .int 0, .ref h14, .int 0, .int 0, .int 0, .int (-9), .int 0, .ref h15, .int 0, .int 0, .int 0, .ref h16, .ref h17, .ref h18, .int 0, .int 0])), (h1, .inl (cI, 7, .inl (fun _ => 0)))] sz)) (zQi dC dI (va_A [(h0, .inr (12, [.ref h1, .ref h2, .ref h3, .ref h4, .ref h5, .ref h6, .ref h7, .ref h8, .ref h9, .int 0, .int 0, .int 10, .int 0, .int 0, .int (-9), .int 0, .ref h10, .ref h11, .ref h12, .ref h13, .int 0, .int 0, .int 0, .ref h14, .int 0, .int 0, .int 0, .int (-9), .int 0, .ref h15, .int 0, .int 0, .int 0, .ref h16, .ref h17, .ref h18, .int 0, .int 0])), (h1, .inl (cI, 7, .inl (fun _ => 0)))] sz) (fun ad => []) (-3)) 0 0 (va_A [(h0, .inr (12, [.ref h1, .ref h2, .ref h3, .ref h4, .ref h5, .ref h6, .ref h7, .ref h8, .ref h9, .int 0, .int 0, .int 10, .int 0, .int 0, .int (-9), .int 0, .ref h10, .ref h11, .ref h12, .ref h13, .int 0, .int 0, .int 0, .ref h14, .int 0, .int 0, .int 0, .int (-9), .int 0, .ref h15, .int 0, .int 0, .int 0, .ref h16, .ref h17, .ref h18, .int 0, .int 0])), (h1, .inl (cI, 7, .inl (fun _ => 0)))] sz) := by
  refine Met.ofW (cc := cX12_say) (maxL := 2) (ret := (some .int)) (by decide) rfl ?_
  intro p e s m args below meth c s₁ B hml hv
  obtain ⟨rfl, hsz, hP, hZ, hD0⟩ := hv
  obtain ⟨hK, hAO, hN⟩ := id hZ
  have hx := B.exec
  have hb := B.bytes
  have hr := B.returns
  have hts := atoms_spec (ws := vsX12_say) B.pre
  have hown : s.vm.findClass RX12 = some m.cls := findClass_of_methodNamed B.named
  have hlocks := B.notSynchronized
  subst hsz
  have hD := hD0.self (sz := s.heap.size)
  generalize hAe : va_A [(h0, .inr (12, [.ref h1, .ref h2, .ref h3, .ref h4, .ref h5, .ref h6, .ref h7, .ref h8, .ref h9, .int 0, .int 0, .int 10, .int 0, .int 0, .int (-9), .int 0, .ref h10, .ref h11, .ref h12, .ref h13, .int 0, .int 0, .int 0, .ref h14, .int 0, .int 0, .int 0, .int (-9), .int 0, .ref h15, .int 0, .int 0, .int 0, .ref h16, .ref h17, .ref h18, .int 0, .int 0])), (h1, .inl (cI, 7, .inl (fun _ => 0)))] s.heap.size = A at hD ⊢
  have hA : ∀ q : Nat, s.heap.size ≤ q → A q := fun q h => by rw [← hAe]; exact Or.inr h
  have hS : va_S A s.heap s.heap [] := va_S.rf
  have hP : va_P (dC, dI) vwCl [(h0, .inr (12, [.ref h1, .ref h2, .ref h3, .ref h4, .ref h5, .ref h6, .ref h7, .ref h8, .ref h9, .int 0, .int 0, .int 10, .int 0, .int 0, .int (-9), .int 0, .ref h10, .ref h11, .ref h12, .ref h13, .int 0, .int 0, .int 0, .ref h14, .int 0, .int 0, .int 0, .int (-9), .int 0, .ref h15, .int 0, .int 0, .int 0, .ref h16, .ref h17, .ref h18, .int 0, .int 0])), (h1, .inl (cI, 7, .inl (fun _ => 0)))] s.heap := hP
  have hl := lv_entry ([.ref h0]) (n := 2) (Nat.le_of_ble_eq_true rfl)
  rw [lg_entry_eq]
  generalize (lg_sl ([.ref h0]) ++ List.replicate (2 - (lg_sl ([.ref h0])).length) Slot.unset).toArray = ls at hl ⊢
  have hl : lv_has ls 2 [(0, .ref h0)] := hl
  refine lv_aload_n hx hb dX12_say_0 rfl (lv_at hl 0 rfl) ?_
  refine va_get (D := (dC, dI)) (ci := 12) (v := .int 0) (C := RX12) (T := TX12) (N := 38) hx hb hts in_X12_say_X12 hown hK hP 0 rfl rfl 10 (by decide) (hts (.fieldLink RX12 79 "EachOnHisCueModel" "lines" "I") (by decide +kernel)) (fun _ h9 => h9) rfl dX12_say_1 ?_
  refine lv_if_ne (tgt := 14) hx hb dX12_say_4 (by decide) (fun hc => ?_) (fun hc => ?_)
  · exact absurd hc (by decide)
  refine lv_aload_n hx hb dX12_say_7 rfl (lv_at hl 0 rfl) ?_
  refine lv_bipush (v := (-3)) hx hb dX12_say_8 (by decide) ?_
  refine z_calli (wc := [(h0, .inr (12, [.ref h1, .ref h2, .ref h3, .ref h4, .ref h5, .ref h6, .ref h7, .ref h8, .ref h9, .int 0, .int 0, .int 10, .int 0, .int 0, .int (-9), .int 0, .ref h10, .ref h11, .ref h12, .ref h13, .int 0, .int 0, .int 0, .ref h14, .int 0, .int 0, .int 0, .int (-9), .int 0, .ref h15, .int 0, .int 0, .int 0, .ref h16, .ref h17, .ref h18, .int 0, .int 0])), (h1, .inl (cI, 7, .inl (fun _ => 0)))]) (wr := []) (w1 := (fun _ => [(h0, .inr (12, [.ref h1, .ref h2, .ref h3, .ref h4, .ref h5, .ref h6, .ref h7, .ref h8, .ref h9, .int 0, .int 0, .int 10, .int 0, .int 0, .int (-9), .int 0, .ref h10, .ref h11, .ref h12, .ref h13, .int 0, .int 0, .int 0, .ref h14, .int 0, .int 0, .int 0, .int (-9), .int 0, .ref h15, .int 0, .int 0, .int 0, .ref h16, .ref h17, .ref h18, .int 0, .int 0])), (h1, .inl (cI, 7, .inl (upd (fun _ => 0) 3 1)))])) (va_runV (As := [.int (-3)]) (rest := []) ⟨hx, hb, hml, hown, hts⟩ (kX12_no_4 l dC dI cI cQ h0 h1 h2 h3 h4 h5 h6 h7 h8 h9 h10 h11 h12 h13 h14 h15 h16 h17 h18 s.heap.size) (cwV 1 hts gv_X12_say_X12_no_89 rfl rfl rfl (by decide +kernel) ⟨Nat.le_of_ble_eq_true rfl, Nat.le_of_ble_eq_true rfl⟩) ⟨z_blind, va_recv hK hP (ci := 12) (q0 := 0) rfl rfl, z_pre hZ hP hD [0, 1] rfl (by decide)⟩ rfl rfl hl.1 rfl (lv_room (Nat.le_of_ble_eq_true rfl)) dX12_say_10 ⟨Nat.le_of_ble_eq_true rfl, Nat.le_of_ble_eq_true rfl⟩) hP hD hS hA [0, 1] [] rfl rfl (by decide) (by decide) (fun _ H locs hP hD hS => ?_)
  have hP : va_P (dC, dI) vwCl [(h0, .inr (12, [.ref h1, .ref h2, .ref h3, .ref h4, .ref h5, .ref h6, .ref h7, .ref h8, .ref h9, .int 0, .int 0, .int 10, .int 0, .int 0, .int (-9), .int 0, .ref h10, .ref h11, .ref h12, .ref h13, .int 0, .int 0, .int 0, .ref h14, .int 0, .int 0, .int 0, .int (-9), .int 0, .ref h15, .int 0, .int 0, .int 0, .ref h16, .ref h17, .ref h18, .int 0, .int 0])), (h1, .inl (cI, 7, .inl (upd (fun _ => 0) 3 1)))] H := hP
  have hD : va_D A [(h0, .inr (12, [.ref h1, .ref h2, .ref h3, .ref h4, .ref h5, .ref h6, .ref h7, .ref h8, .ref h9, .int 0, .int 0, .int 10, .int 0, .int 0, .int (-9), .int 0, .ref h10, .ref h11, .ref h12, .ref h13, .int 0, .int 0, .int 0, .ref h14, .int 0, .int 0, .int 0, .int (-9), .int 0, .ref h15, .int 0, .int 0, .int 0, .ref h16, .ref h17, .ref h18, .int 0, .int 0])), (h1, .inl (cI, 7, .inl (upd (fun _ => 0) 3 1)))] := hD
  have hP9 := hP.sub (ws' := []) [] rfl
  have hD9 := hD.sub (ws' := []) [] (by decide) rfl
  exact W.iret (v := (-3)) hx hb hr (fun t ht hW => ⟨⟨(-3), (fun k => [].getD k 0), rfl, rfl, by rw [ht]; exact hP9, hD9⟩, hS.F ht⟩) hS.2.2 dX12_say_13
set_option maxHeartbeats 4000000 in
set_option maxRecDepth 100000 in
theorem kX12_beginsAnew (l : Launch) (dC : Nat → ClassId) (dI : Nat → Nat → Nat) (cI cQ : ClassId) (h0 h1 h2 h3 h4 h5 h6 h7 h8 h9 h10 h11 h12 h13 h14 h15 h16 h17 h18 : Nat) (sz : Nat) : Met l yX12_beginsAnew vsX12_beginsAnew ({ frames := 0, cells := 0, slots := 0, locals := 0 }) (va_Pc [.ref h0] (zB dC dI cI cQ [(h0, .inr (12, [.ref h1, .ref h2, .ref h3, .ref h4, .ref h5, .ref h6, .ref h7, .ref h8, .ref h9, .int 0, .int 0, .int 10, .int 0, .int 0, .int (-9), .int 0, .ref h10, .ref h11, .ref h12, .ref h13, .int 0, .int 0, .int 0, .ref h14, .int 0, .int 0, .int 0, .int (-9), .int 0, .ref h15, .int 0, .int 0, .int 0, .ref h16, .ref h17, .ref h18, .int 0, .int 0]))] sz)) (zQv dC dI (va_A [(h0, .inr (12, [.ref h1, .ref h2, .ref h3, .ref h4, .ref h5, .ref h6, .ref h7, .ref h8, .ref h9, .int 0, .int 0, .int 10, .int 0, .int 0, .int (-9), .int 0, .ref h10, .ref h11, .ref h12, .ref h13, .int 0, .int 0, .int 0, .ref h14, .int 0, .int 0, .int 0, .int (-9), .int 0, .ref h15, .int 0, .int 0, .int 0, .ref h16, .ref h17, .ref h18, .int 0, .int 0]))] sz) (fun ad => [(h0, .inr (12, [.ref h1, .ref h2, .ref h3, .ref h4, .ref h5, .ref h6, .ref h7, .ref h8, .ref h9, .int 0, .int 0, .int 10, .int 0, .int 0, .int (-9), .int 0, .ref h10, .ref h11, .ref h12, .ref h13, .int 0, .int 0, .int 0, .ref h14, .int 0, .int 0, .int 0, .int (-9), .int 0, .ref h15, .int 0, .int 0, .int 0, .ref h16, .ref h17, .ref h18, .int 0, .int 0]))])) 0 0 (va_A [(h0, .inr (12, [.ref h1, .ref h2, .ref h3, .ref h4, .ref h5, .ref h6, .ref h7, .ref h8, .ref h9, .int 0, .int 0, .int 10, .int 0, .int 0, .int (-9), .int 0, .ref h10, .ref h11, .ref h12, .ref h13, .int 0, .int 0, .int 0, .ref h14, .int 0, .int 0, .int 0, .int (-9), .int 0, .ref h15, .int 0, .int 0, .int 0, .ref h16, .ref h17, .ref h18, .int 0, .int 0]))] sz) := by
  refine Met.ofW (cc := cX12_beginsAnew) (maxL := 1) (ret := none) (by decide) rfl ?_
  intro p e s m args below meth c s₁ B hml hv
  obtain ⟨rfl, hsz, hP, hZ, hD0⟩ := hv
  obtain ⟨hK, hAO, hN⟩ := id hZ
  have hx := B.exec
  have hb := B.bytes
  have hr := B.returns
  have hts := atoms_spec (ws := vsX12_beginsAnew) B.pre
  have hown : s.vm.findClass RX12 = some m.cls := findClass_of_methodNamed B.named
  have hlocks := B.notSynchronized
  subst hsz
  have hD := hD0.self (sz := s.heap.size)
  generalize hAe : va_A [(h0, .inr (12, [.ref h1, .ref h2, .ref h3, .ref h4, .ref h5, .ref h6, .ref h7, .ref h8, .ref h9, .int 0, .int 0, .int 10, .int 0, .int 0, .int (-9), .int 0, .ref h10, .ref h11, .ref h12, .ref h13, .int 0, .int 0, .int 0, .ref h14, .int 0, .int 0, .int 0, .int (-9), .int 0, .ref h15, .int 0, .int 0, .int 0, .ref h16, .ref h17, .ref h18, .int 0, .int 0]))] s.heap.size = A at hD ⊢
  have hA : ∀ q : Nat, s.heap.size ≤ q → A q := fun q h => by rw [← hAe]; exact Or.inr h
  have hS : va_S A s.heap s.heap [] := va_S.rf
  have hP : va_P (dC, dI) vwCl [(h0, .inr (12, [.ref h1, .ref h2, .ref h3, .ref h4, .ref h5, .ref h6, .ref h7, .ref h8, .ref h9, .int 0, .int 0, .int 10, .int 0, .int 0, .int (-9), .int 0, .ref h10, .ref h11, .ref h12, .ref h13, .int 0, .int 0, .int 0, .ref h14, .int 0, .int 0, .int 0, .int (-9), .int 0, .ref h15, .int 0, .int 0, .int 0, .ref h16, .ref h17, .ref h18, .int 0, .int 0]))] s.heap := hP
  have hl := lv_entry ([.ref h0]) (n := 1) (Nat.le_of_ble_eq_true rfl)
  rw [lg_entry_eq]
  generalize (lg_sl ([.ref h0]) ++ List.replicate (1 - (lg_sl ([.ref h0])).length) Slot.unset).toArray = ls at hl ⊢
  have hl : lv_has ls 1 [(0, .ref h0)] := hl
  refine lv_aload_n hx hb dX12_beginsAnew_0 rfl (lv_at hl 0 rfl) ?_
  refine lv_iconst (v := 0) hx hb dX12_beginsAnew_1 (by decide) ?_
  refine va_put (D := (dC, dI)) (ci := 12) (v := .int 0) (ty := .int) (C := RX12) (T := TX12) (N := 38) hx hb hts in_X12_beginsAnew_X12 tyX12 tyX12_ok nmX12 hown hK hP hD hS 0 rfl rfl 12 (by decide) (hts (.fieldLink RX12 151 "EachOnHisCueModel" "said" "I") (by decide +kernel)) (fun _ h9 => h9) rfl (by decide +kernel) rfl rfl (Nat.le_of_ble_eq_true rfl) dX12_beginsAnew_2 (fun H locs hP hD hS => ?_)
  have hP : va_P (dC, dI) vwCl [(h0, .inr (12, [.ref h1, .ref h2, .ref h3, .ref h4, .ref h5, .ref h6, .ref h7, .ref h8, .ref h9, .int 0, .int 0, .int 10, .int 0, .int 0, .int (-9), .int 0, .ref h10, .ref h11, .ref h12, .ref h13, .int 0, .int 0, .int 0, .ref h14, .int 0, .int 0, .int 0, .int (-9), .int 0, .ref h15, .int 0, .int 0, .int 0, .ref h16, .ref h17, .ref h18, .int 0, .int 0]))] H := hP
  have hD : va_D A [(h0, .inr (12, [.ref h1, .ref h2, .ref h3, .ref h4, .ref h5, .ref h6, .ref h7, .ref h8, .ref h9, .int 0, .int 0, .int 10, .int 0, .int 0, .int (-9), .int 0, .ref h10, .ref h11, .ref h12, .ref h13, .int 0, .int 0, .int 0, .ref h14, .int 0, .int 0, .int 0, .int (-9), .int 0, .ref h15, .int 0, .int 0, .int 0, .ref h16, .ref h17, .ref h18, .int 0, .int 0]))] := hD
  refine lv_aload_n hx hb dX12_beginsAnew_5 rfl (lv_at hl 0 rfl) ?_
  refine lv_iconst (v := 0) hx hb dX12_beginsAnew_6 (by decide) ?_
  refine va_put (D := (dC, dI)) (ci := 12) (v := .int 0) (ty := .int) (C := RX12) (T := TX12) (N := 38) hx hb hts in_X12_beginsAnew_X12 tyX12 tyX12_ok nmX12 hown hK hP hD hS 0 rfl rfl 13 (by decide) (hts (.fieldLink RX12 154 "EachOnHisCueModel" "dead" "I") (by decide +kernel)) (fun _ h9 => h9) rfl (by decide +kernel) rfl rfl (Nat.le_of_ble_eq_true rfl) dX12_beginsAnew_7 (fun H locs hP hD hS => ?_)
  have hP : va_P (dC, dI) vwCl [(h0, .inr (12, [.ref h1, .ref h2, .ref h3, .ref h4, .ref h5, .ref h6, .ref h7, .ref h8, .ref h9, .int 0, .int 0, .int 10, .int 0, .int 0, .int (-9), .int 0, .ref h10, .ref h11, .ref h12, .ref h13, .int 0, .int 0, .int 0, .ref h14, .int 0, .int 0, .int 0, .int (-9), .int 0, .ref h15, .int 0, .int 0, .int 0, .ref h16, .ref h17, .ref h18, .int 0, .int 0]))] H := hP
  have hD : va_D A [(h0, .inr (12, [.ref h1, .ref h2, .ref h3, .ref h4, .ref h5, .ref h6, .ref h7, .ref h8, .ref h9, .int 0, .int 0, .int 10, .int 0, .int 0, .int (-9), .int 0, .ref h10, .ref h11, .ref h12, .ref h13, .int 0, .int 0, .int 0, .ref h14, .int 0, .int 0, .int 0, .int (-9), .int 0, .ref h15, .int 0, .int 0, .int 0, .ref h16, .ref h17, .ref h18, .int 0, .int 0]))] := hD
  refine lv_aload_n hx hb dX12_beginsAnew_10 rfl (lv_at hl 0 rfl) ?_
  refine lv_bipush (v := (-9)) hx hb dX12_beginsAnew_11 (by decide) ?_
  refine va_put (D := (dC, dI)) (ci := 12) (v := .int (-9)) (ty := .int) (C := RX12) (T := TX12) (N := 38) hx hb hts in_X12_beginsAnew_X12 tyX12 tyX12_ok nmX12 hown hK hP hD hS 0 rfl rfl 14 (by decide) (hts (.fieldLink RX12 41 "EachOnHisCueModel" "latest" "I") (by decide +kernel)) (fun _ h9 => h9) rfl (by decide +kernel) rfl rfl (Nat.le_of_ble_eq_true rfl) dX12_beginsAnew_13 (fun H locs hP hD hS => ?_)
  have hP : va_P (dC, dI) vwCl [(h0, .inr (12, [.ref h1, .ref h2, .ref h3, .ref h4, .ref h5, .ref h6, .ref h7, .ref h8, .ref h9, .int 0, .int 0, .int 10, .int 0, .int 0, .int (-9), .int 0, .ref h10, .ref h11, .ref h12, .ref h13, .int 0, .int 0, .int 0, .ref h14, .int 0, .int 0, .int 0, .int (-9), .int 0, .ref h15, .int 0, .int 0, .int 0, .ref h16, .ref h17, .ref h18, .int 0, .int 0]))] H := hP
  have hD : va_D A [(h0, .inr (12, [.ref h1, .ref h2, .ref h3, .ref h4, .ref h5, .ref h6, .ref h7, .ref h8, .ref h9, .int 0, .int 0, .int 10, .int 0, .int 0, .int (-9), .int 0, .ref h10, .ref h11, .ref h12, .ref h13, .int 0, .int 0, .int 0, .ref h14, .int 0, .int 0, .int 0, .int (-9), .int 0, .ref h15, .int 0, .int 0, .int 0, .ref h16, .ref h17, .ref h18, .int 0, .int 0]))] := hD
  refine lv_aload_n hx hb dX12_beginsAnew_16 rfl (lv_at hl 0 rfl) ?_
  refine lv_iconst (v := 0) hx hb dX12_beginsAnew_17 (by decide) ?_
  refine va_put (D := (dC, dI)) (ci := 12) (v := .int 0) (ty := .int) (C := RX12) (T := TX12) (N := 38) hx hb hts in_X12_beginsAnew_X12 tyX12 tyX12_ok nmX12 hown hK hP hD hS 0 rfl rfl 15 (by decide) (hts (.fieldLink RX12 157 "EachOnHisCueModel" "saidMany" "I") (by decide +kernel)) (fun _ h9 => h9) rfl (by decide +kernel) rfl rfl (Nat.le_of_ble_eq_true rfl) dX12_beginsAnew_18 (fun H locs hP hD hS => ?_)
  have hP : va_P (dC, dI) vwCl [(h0, .inr (12, [.ref h1, .ref h2, .ref h3, .ref h4, .ref h5, .ref h6, .ref h7, .ref h8, .ref h9, .int 0, .int 0, .int 10, .int 0, .int 0, .int (-9), .int 0, .ref h10, .ref h11, .ref h12, .ref h13, .int 0, .int 0, .int 0, .ref h14, .int 0, .int 0, .int 0, .int (-9), .int 0, .ref h15, .int 0, .int 0, .int 0, .ref h16, .ref h17, .ref h18, .int 0, .int 0]))] H := hP
  have hD : va_D A [(h0, .inr (12, [.ref h1, .ref h2, .ref h3, .ref h4, .ref h5, .ref h6, .ref h7, .ref h8, .ref h9, .int 0, .int 0, .int 10, .int 0, .int 0, .int (-9), .int 0, .ref h10, .ref h11, .ref h12, .ref h13, .int 0, .int 0, .int 0, .ref h14, .int 0, .int 0, .int 0, .int (-9), .int 0, .ref h15, .int 0, .int 0, .int 0, .ref h16, .ref h17, .ref h18, .int 0, .int 0]))] := hD
  have hP9 := hP.sub (ws' := [(h0, .inr (12, [.ref h1, .ref h2, .ref h3, .ref h4, .ref h5, .ref h6, .ref h7, .ref h8, .ref h9, .int 0, .int 0, .int 10, .int 0, .int 0, .int (-9), .int 0, .ref h10, .ref h11, .ref h12, .ref h13, .int 0, .int 0, .int 0, .ref h14, .int 0, .int 0, .int 0, .int (-9), .int 0, .ref h15, .int 0, .int 0, .int 0, .ref h16, .ref h17, .ref h18, .int 0, .int 0]))]) [0] rfl
  have hD9 := hD.sub (ws' := [(h0, .inr (12, [.ref h1, .ref h2, .ref h3, .ref h4, .ref h5, .ref h6, .ref h7, .ref h8, .ref h9, .int 0, .int 0, .int 10, .int 0, .int 0, .int (-9), .int 0, .ref h10, .ref h11, .ref h12, .ref h13, .int 0, .int 0, .int 0, .ref h14, .int 0, .int 0, .int 0, .int (-9), .int 0, .ref h15, .int 0, .int 0, .int 0, .ref h16, .ref h17, .ref h18, .int 0, .int 0]))]) [0] (by decide) rfl
  exact W.vret hx hb hr (fun t ht hW => ⟨⟨(fun k => [].getD k 0), rfl, trivial, by rw [ht]; exact hP9, hD9⟩, hS.F ht⟩) hS.2.2 dX12_beginsAnew_21
set_option maxHeartbeats 4000000 in
set_option maxRecDepth 100000 in
theorem kX12_again (l : Launch) (dC : Nat → ClassId) (dI : Nat → Nat → Nat) (cI cQ : ClassId) (h0 h1 h2 h3 h4 h5 h6 h7 h8 h9 h10 h11 h12 h13 h14 h15 h16 h17 h18 : Nat) (sz : Nat) : Met l yX12_again vsX12_again ({ frames := 1, cells := 0, slots := 0, locals := 20 }) (va_Pc [.ref h0] (zB dC dI cI cQ [(h0, .inr (12, [.ref h1, .ref h2, .ref h3, .ref h4, .ref h5, .ref h6, .ref h7, .ref h8, .ref h9, .int 0, .int 0, .int 10, .int 0, .int 0, .int (-9), .int 0, .ref h10, .ref h11, .ref h12, .ref h13, .int 0, .int 0, .int 0, .ref h14, .int 0, .int 0, .int 0, .int (-9), .int 0, .ref h15, .int 0, .int 0, .int 0, .ref h16, .ref h17, .ref h18, .int 0, .int 0]))] sz)) (zQi dC dI (va_A [(h0, .inr (12, [.ref h1, .ref h2, .ref h3, .ref h4, .ref h5, .ref h6, .ref h7, .ref h8, .ref h9, .int 0, .int 0, .int 10, .int 0, .int 0, .int (-9), .int 0, .ref h10, .ref h11, .ref h12, .ref h13, .int 0, .int 0, .int 0, .ref h14, .int 0, .int 0, .int 0, .int (-9), .int 0, .ref h15, .int 0, .int 0, .int 0, .ref h16, .ref h17, .ref h18, .int 0, .int 0]))] sz) (fun ad => []) 0) 0 0 (va_A [(h0, .inr (12, [.ref h1, .ref h2, .ref h3, .ref h4, .ref h5, .ref h6, .ref h7, .ref h8, .ref h9, .int 0, .int 0, .int 10, .int 0, .int 0, .int (-9), .int 0, .ref h10, .ref h11, .ref h12, .ref h13, .int 0, .int 0, .int 0, .ref h14, .int 0, .int 0, .int 0, .int (-9), .int 0, .ref h15, .int 0, .int 0, .int 0, .ref h16, .ref h17, .ref h18, .int 0, .int 0]))] sz) := by
  refine Met.ofW (cc := cX12_again) (maxL := 2) (ret := (some .int)) (by decide) rfl ?_
  intro p e s m args below meth c s₁ B hml hv
  obtain ⟨rfl, hsz, hP, hZ, hD0⟩ := hv
  obtain ⟨hK, hAO, hN⟩ := id hZ
  have hx := B.exec
  have hb := B.bytes
  have hr := B.returns
  have hts := atoms_spec (ws := vsX12_again) B.pre
  have hown : s.vm.findClass RX12 = some m.cls := findClass_of_methodNamed B.named
  have hlocks := B.notSynchronized
  subst hsz
  have hD := hD0.self (sz := s.heap.size)
  generalize hAe : va_A [(h0, .inr (12, [.ref h1, .ref h2, .ref h3, .ref h4, .ref h5, .ref h6, .ref h7, .ref h8, .ref h9, .int 0, .int 0, .int 10, .int 0, .int 0, .int (-9), .int 0, .ref h10, .ref h11, .ref h12, .ref h13, .int 0, .int 0, .int 0, .ref h14, .int 0, .int 0, .int 0, .int (-9), .int 0, .ref h15, .int 0, .int 0, .int 0, .ref h16, .ref h17, .ref h18, .int 0, .int 0]))] s.heap.size = A at hD ⊢
  have hA : ∀ q : Nat, s.heap.size ≤ q → A q := fun q h => by rw [← hAe]; exact Or.inr h
  have hS : va_S A s.heap s.heap [] := va_S.rf
  have hP : va_P (dC, dI) vwCl [(h0, .inr (12, [.ref h1, .ref h2, .ref h3, .ref h4, .ref h5, .ref h6, .ref h7, .ref h8, .ref h9, .int 0, .int 0, .int 10, .int 0, .int 0, .int (-9), .int 0, .ref h10, .ref h11, .ref h12, .ref h13, .int 0, .int 0, .int 0, .ref h14, .int 0, .int 0, .int 0, .int (-9), .int 0, .ref h15, .int 0, .int 0, .int 0, .ref h16, .ref h17, .ref h18, .int 0, .int 0]))] s.heap := hP
  have hl := lv_entry ([.ref h0]) (n := 2) (Nat.le_of_ble_eq_true rfl)
  rw [lg_entry_eq]
  generalize (lg_sl ([.ref h0]) ++ List.replicate (2 - (lg_sl ([.ref h0])).length) Slot.unset).toArray = ls at hl ⊢
  have hl : lv_has ls 2 [(0, .ref h0)] := hl
  refine lv_aload_n hx hb dX12_again_0 rfl (lv_at hl 0 rfl) ?_
  refine va_get (D := (dC, dI)) (ci := 12) (v := .int 0) (C := RX12) (T := TX12) (N := 38) hx hb hts in_X12_again_X12 hown hK hP 0 rfl rfl 15 (by decide) (hts (.fieldLink RX12 157 "EachOnHisCueModel" "saidMany" "I") (by decide +kernel)) (fun _ h9 => h9) rfl dX12_again_1 ?_
  refine lv_istore_n (lv' := [(1, .int 0), (0, .ref h0)]) hx hb dX12_again_4 rfl hl (by decide) rfl (fun ls hl => ?_)
  refine lv_aload_n hx hb dX12_again_5 rfl (lv_at hl 1 rfl) ?_
  refine z_callv (wc := [(h0, .inr (12, [.ref h1, .ref h2, .ref h3, .ref h4, .ref h5, .ref h6, .ref h7, .ref h8, .ref h9, .int 0, .int 0, .int 10, .int 0, .int 0, .int (-9), .int 0, .ref h10, .ref h11, .ref h12, .ref h13, .int 0, .int 0, .int 0, .ref h14, .int 0, .int 0, .int 0, .int (-9), .int 0, .ref h15, .int 0, .int 0, .int 0, .ref h16, .ref h17, .ref h18, .int 0, .int 0]))]) (wr := []) (w1 := (fun _ => [(h0, .inr (12, [.ref h1, .ref h2, .ref h3, .ref h4, .ref h5, .ref h6, .ref h7, .ref h8, .ref h9, .int 0, .int 0, .int 10, .int 0, .int 0, .int (-9), .int 0, .ref h10, .ref h11, .ref h12, .ref h13, .int 0, .int 0, .int 0, .ref h14, .int 0, .int 0, .int 0, .int (-9), .int 0, .ref h15, .int 0, .int 0, .int 0, .ref h16, .ref h17, .ref h18, .int 0, .int 0]))])) (va_runV (As := []) (rest := []) ⟨hx, hb, hml, hown, hts⟩ (kX12_beginsAnew l dC dI cI cQ h0 h1 h2 h3 h4 h5 h6 h7 h8 h9 h10 h11 h12 h13 h14 h15 h16 h17 h18 s.heap.size) (cwV 0 hts gv_X12_again_X12_beginsAnew_134 rfl rfl rfl (by decide +kernel) ⟨Nat.le_of_ble_eq_true rfl, Nat.le_of_ble_eq_true rfl⟩) ⟨z_blind, va_recv hK hP (ci := 12) (q0 := 0) rfl rfl, z_pre hZ hP hD [0] rfl (by decide)⟩ rfl rfl hl.1 rfl (lv_room (Nat.le_of_ble_eq_true rfl)) dX12_again_6 ⟨Nat.le_of_ble_eq_true rfl, Nat.le_of_ble_eq_true rfl⟩) hP hD hS hA [0] [] rfl rfl (by decide) (by decide) (fun _ H locs hP hD hS => ?_)
  have hP : va_P (dC, dI) vwCl [(h0, .inr (12, [.ref h1, .ref h2, .ref h3, .ref h4, .ref h5, .ref h6, .ref h7, .ref h8, .ref h9, .int 0, .int 0, .int 10, .int 0, .int 0, .int (-9), .int 0, .ref h10, .ref h11, .ref h12, .ref h13, .int 0, .int 0, .int 0, .ref h14, .int 0, .int 0, .int 0, .int (-9), .int 0, .ref h15, .int 0, .int 0, .int 0, .ref h16, .ref h17, .ref h18, .int 0, .int 0]))] H := hP
  have hD : va_D A [(h0, .inr (12, [.ref h1, .ref h2, .ref h3, .ref h4, .ref h5, .ref h6, .ref h7, .ref h8, .ref h9, .int 0, .int 0, .int 10, .int 0, .int 0, .int (-9), .int 0, .ref h10, .ref h11, .ref h12, .ref h13, .int 0, .int 0, .int 0, .ref h14, .int 0, .int 0, .int 0, .int (-9), .int 0, .ref h15, .int 0, .int 0, .int 0, .ref h16, .ref h17, .ref h18, .int 0, .int 0]))] := hD
  refine lv_iload_n hx hb dX12_again_9 rfl (lv_at hl 0 rfl) ?_
  have hP9 := hP.sub (ws' := []) [] rfl
  have hD9 := hD.sub (ws' := []) [] (by decide) rfl
  exact W.iret (v := 0) hx hb hr (fun t ht hW => ⟨⟨0, (fun k => [].getD k 0), rfl, rfl, by rw [ht]; exact hP9, hD9⟩, hS.F ht⟩) hS.2.2 dX12_again_10
set_option maxHeartbeats 4000000 in
set_option maxRecDepth 100000 in
theorem kX12_night (l : Launch) (dC : Nat → ClassId) (dI : Nat → Nat → Nat) (cI cQ : ClassId) (h0 h1 h2 h3 h4 h5 h6 h7 h8 h9 h10 h11 h12 h13 h14 h15 h16 h17 h18 : Nat) (p0 : Int32) (hp0l : -2147483648 ≤ p0.toInt) (hp0h : p0.toInt ≤ -1) (sz : Nat) : Met l yX12_night vsX12_night ({ frames := 1, cells := 0, slots := 0, locals := 21 }) (va_Pc [.ref h0, .int p0] (zB dC dI cI cQ [(h0, .inr (12, [.ref h1, .ref h2, .ref h3, .ref h4, .ref h5, .ref h6, .ref h7, .ref h8, .ref h9, .int 0, .int 0, .int 10, .int 0, .int 0, .int (-9), .int 0, .ref h10, .ref h11, .ref h12, .ref h13, .int 0, .int 0, .int 0, .ref h14, .int 0, .int 0, .int 0, .int (-9), .int 0, .ref h15, .int 0, .int 0, .int 0, .ref h16, .ref h17, .ref h18, .int 0, .int 0])), (h1, .inl (cI, 7, .inl (fun _ => 0)))] sz)) (zQi dC dI (va_A [(h0, .inr (12, [.ref h1, .ref h2, .ref h3, .ref h4, .ref h5, .ref h6, .ref h7, .ref h8, .ref h9, .int 0, .int 0, .int 10, .int 0, .int 0, .int (-9), .int 0, .ref h10, .ref h11, .ref h12, .ref h13, .int 0, .int 0, .int 0, .ref h14, .int 0, .int 0, .int 0, .int (-9), .int 0, .ref h15, .int 0, .int 0, .int 0, .ref h16, .ref h17, .ref h18, .int 0, .int 0])), (h1, .inl (cI, 7, .inl (fun _ => 0)))] sz) (fun ad => []) (-4)) 0 0 (va_A [(h0, .inr (12, [.ref h1, .ref h2, .ref h3, .ref h4, .ref h5, .ref h6, .ref h7, .ref h8, .ref h9, .int 0, .int 0, .int 10, .int 0, .int 0, .int (-9), .int 0, .ref h10, .ref h11, .ref h12, .ref h13, .int 0, .int 0, .int 0, .ref h14, .int 0, .int 0, .int 0, .int (-9), .int 0, .ref h15, .int 0, .int 0, .int 0, .ref h16, .ref h17, .ref h18, .int 0, .int 0])), (h1, .inl (cI, 7, .inl (fun _ => 0)))] sz) := by
  refine Met.ofW (cc := cX12_night) (maxL := 2) (ret := (some .int)) (by decide) rfl ?_
  intro p e s m args below meth c s₁ B hml hv
  obtain ⟨rfl, hsz, hP, hZ, hD0⟩ := hv
  obtain ⟨hK, hAO, hN⟩ := id hZ
  have hx := B.exec
  have hb := B.bytes
  have hr := B.returns
  have hts := atoms_spec (ws := vsX12_night) B.pre
  have hown : s.vm.findClass RX12 = some m.cls := findClass_of_methodNamed B.named
  have hlocks := B.notSynchronized
  subst hsz
  have hD := hD0.self (sz := s.heap.size)
  generalize hAe : va_A [(h0, .inr (12, [.ref h1, .ref h2, .ref h3, .ref h4, .ref h5, .ref h6, .ref h7, .ref h8, .ref h9, .int 0, .int 0, .int 10, .int 0, .int 0, .int (-9), .int 0, .ref h10, .ref h11, .ref h12, .ref h13, .int 0, .int 0, .int 0, .ref h14, .int 0, .int 0, .int 0, .int (-9), .int 0, .ref h15, .int 0, .int 0, .int 0, .ref h16, .ref h17, .ref h18, .int 0, .int 0])), (h1, .inl (cI, 7, .inl (fun _ => 0)))] s.heap.size = A at hD ⊢
  have hA : ∀ q : Nat, s.heap.size ≤ q → A q := fun q h => by rw [← hAe]; exact Or.inr h
  have hS : va_S A s.heap s.heap [] := va_S.rf
  have hP : va_P (dC, dI) vwCl [(h0, .inr (12, [.ref h1, .ref h2, .ref h3, .ref h4, .ref h5, .ref h6, .ref h7, .ref h8, .ref h9, .int 0, .int 0, .int 10, .int 0, .int 0, .int (-9), .int 0, .ref h10, .ref h11, .ref h12, .ref h13, .int 0, .int 0, .int 0, .ref h14, .int 0, .int 0, .int 0, .int (-9), .int 0, .ref h15, .int 0, .int 0, .int 0, .ref h16, .ref h17, .ref h18, .int 0, .int 0])), (h1, .inl (cI, 7, .inl (fun _ => 0)))] s.heap := hP
  have hl := lv_entry ([.ref h0, .int p0]) (n := 2) (Nat.le_of_ble_eq_true rfl)
  rw [lg_entry_eq]
  generalize (lg_sl ([.ref h0, .int p0]) ++ List.replicate (2 - (lg_sl ([.ref h0, .int p0])).length) Slot.unset).toArray = ls at hl ⊢
  have hl : lv_has ls 2 [(0, .ref h0), (1, .int p0)] := hl
  refine lv_iload_n hx hb dX12_night_0 rfl (lv_at hl 1 rfl) ?_
  refine lv_if_ge (tgt := 11) hx hb dX12_night_1 (by decide) (fun hc => ?_) (fun hc => ?_)
  · exact absurd ((fa_le _ _).mp hc) (by rw [show (0 : Int32).toInt = 0 from by decide]; omega)
  refine lv_aload_n hx hb dX12_night_4 rfl (lv_at hl 0 rfl) ?_
  refine lv_bipush (v := (-4)) hx hb dX12_night_5 (by decide) ?_
  refine z_calli (wc := [(h0, .inr (12, [.ref h1, .ref h2, .ref h3, .ref h4, .ref h5, .ref h6, .ref h7, .ref h8, .ref h9, .int 0, .int 0, .int 10, .int 0, .int 0, .int (-9), .int 0, .ref h10, .ref h11, .ref h12, .ref h13, .int 0, .int 0, .int 0, .ref h14, .int 0, .int 0, .int 0, .int (-9), .int 0, .ref h15, .int 0, .int 0, .int 0, .ref h16, .ref h17, .ref h18, .int 0, .int 0])), (h1, .inl (cI, 7, .inl (fun _ => 0)))]) (wr := []) (w1 := (fun _ => [(h0, .inr (12, [.ref h1, .ref h2, .ref h3, .ref h4, .ref h5, .ref h6, .ref h7, .ref h8, .ref h9, .int 0, .int 0, .int 10, .int 0, .int 0, .int (-9), .int 0, .ref h10, .ref h11, .ref h12, .ref h13, .int 0, .int 0, .int 0, .ref h14, .int 0, .int 0, .int 0, .int (-9), .int 0, .ref h15, .int 0, .int 0, .int 0, .ref h16, .ref h17, .ref h18, .int 0, .int 0])), (h1, .inl (cI, 7, .inl (upd (fun _ => 0) 4 1)))])) (va_runV (As := [.int (-4)]) (rest := []) ⟨hx, hb, hml, hown, hts⟩ (kX12_no l dC dI cI cQ h0 h1 h2 h3 h4 h5 h6 h7 h8 h9 h10 h11 h12 h13 h14 h15 h16 h17 h18 s.heap.size) (cwV 1 hts gv_X12_night_X12_no_89 rfl rfl rfl (by decide +kernel) ⟨Nat.le_of_ble_eq_true rfl, Nat.le_of_ble_eq_true rfl⟩) ⟨z_blind, va_recv hK hP (ci := 12) (q0 := 0) rfl rfl, z_pre hZ hP hD [0, 1] rfl (by decide)⟩ rfl rfl hl.1 rfl (lv_room (Nat.le_of_ble_eq_true rfl)) dX12_night_7 ⟨Nat.le_of_ble_eq_true rfl, Nat.le_of_ble_eq_true rfl⟩) hP hD hS hA [0, 1] [] rfl rfl (by decide) (by decide) (fun _ H locs hP hD hS => ?_)
  have hP : va_P (dC, dI) vwCl [(h0, .inr (12, [.ref h1, .ref h2, .ref h3, .ref h4, .ref h5, .ref h6, .ref h7, .ref h8, .ref h9, .int 0, .int 0, .int 10, .int 0, .int 0, .int (-9), .int 0, .ref h10, .ref h11, .ref h12, .ref h13, .int 0, .int 0, .int 0, .ref h14, .int 0, .int 0, .int 0, .int (-9), .int 0, .ref h15, .int 0, .int 0, .int 0, .ref h16, .ref h17, .ref h18, .int 0, .int 0])), (h1, .inl (cI, 7, .inl (upd (fun _ => 0) 4 1)))] H := hP
  have hD : va_D A [(h0, .inr (12, [.ref h1, .ref h2, .ref h3, .ref h4, .ref h5, .ref h6, .ref h7, .ref h8, .ref h9, .int 0, .int 0, .int 10, .int 0, .int 0, .int (-9), .int 0, .ref h10, .ref h11, .ref h12, .ref h13, .int 0, .int 0, .int 0, .ref h14, .int 0, .int 0, .int 0, .int (-9), .int 0, .ref h15, .int 0, .int 0, .int 0, .ref h16, .ref h17, .ref h18, .int 0, .int 0])), (h1, .inl (cI, 7, .inl (upd (fun _ => 0) 4 1)))] := hD
  have hP9 := hP.sub (ws' := []) [] rfl
  have hD9 := hD.sub (ws' := []) [] (by decide) rfl
  exact W.iret (v := (-4)) hx hb hr (fun t ht hW => ⟨⟨(-4), (fun k => [].getD k 0), rfl, rfl, by rw [ht]; exact hP9, hD9⟩, hS.F ht⟩) hS.2.2 dX12_night_10
set_option maxHeartbeats 4000000 in
set_option maxRecDepth 100000 in
theorem kX12_night_1 (l : Launch) (dC : Nat → ClassId) (dI : Nat → Nat → Nat) (cI cQ : ClassId) (h0 h1 h2 h3 h4 h5 h6 h7 h8 h9 h10 h11 h12 h13 h14 h15 h16 h17 h18 : Nat) (p0 : Int32) (hp0l : 0 ≤ p0.toInt) (hp0h : p0.toInt ≤ 2147483647) (sz : Nat) : Met l yX12_night vsX12_night ({ frames := 1, cells := 0, slots := 0, locals := 21 }) (va_Pc [.ref h0, .int p0] (zB dC dI cI cQ [(h0, .inr (12, [.ref h1, .ref h2, .ref h3, .ref h4, .ref h5, .ref h6, .ref h7, .ref h8, .ref h9, .int 0, .int 0, .int 10, .int 0, .int 0, .int (-9), .int 0, .ref h10, .ref h11, .ref h12, .ref h13, .int 0, .int 0, .int 0, .ref h14, .int 0, .int 0, .int 0, .int (-9), .int 0, .ref h15, .int 0, .int 0, .int 0, .ref h16, .ref h17, .ref h18, .int 0, .int 0])), (h1, .inl (cI, 7, .inl (fun _ => 0)))] sz)) (zQi dC dI (va_A [(h0, .inr (12, [.ref h1, .ref h2, .ref h3, .ref h4, .ref h5, .ref h6, .ref h7, .ref h8, .ref h9, .int 0, .int 0, .int 10, .int 0, .int 0, .int (-9), .int 0, .ref h10, .ref h11, .ref h12, .ref h13, .int 0, .int 0, .int 0, .ref h14, .int 0, .int 0, .int 0, .int (-9), .int 0, .ref h15, .int 0, .int 0, .int 0, .ref h16, .ref h17, .ref h18, .int 0, .int 0])), (h1, .inl (cI, 7, .inl (fun _ => 0)))] sz) (fun ad => []) (-3)) 0 0 (va_A [(h0, .inr (12, [.ref h1, .ref h2, .ref h3, .ref h4, .ref h5, .ref h6, .ref h7, .ref h8, .ref h9, .int 0, .int 0, .int 10, .int 0, .int 0, .int (-9), .int 0, .ref h10, .ref h11, .ref h12, .ref h13, .int 0, .int 0, .int 0, .ref h14, .int 0, .int 0, .int 0, .int (-9), .int 0, .ref h15, .int 0, .int 0, .int 0, .ref h16, .ref h17, .ref h18, .int 0, .int 0])), (h1, .inl (cI, 7, .inl (fun _ => 0)))] sz) := by
  refine Met.ofW (cc := cX12_night) (maxL := 2) (ret := (some .int)) (by decide) rfl ?_
  intro p e s m args below meth c s₁ B hml hv
  obtain ⟨rfl, hsz, hP, hZ, hD0⟩ := hv
  obtain ⟨hK, hAO, hN⟩ := id hZ
  have hx := B.exec
  have hb := B.bytes
  have hr := B.returns
  have hts := atoms_spec (ws := vsX12_night) B.pre
  have hown : s.vm.findClass RX12 = some m.cls := findClass_of_methodNamed B.named
  have hlocks := B.notSynchronized
  subst hsz
  have hD := hD0.self (sz := s.heap.size)
  generalize hAe : va_A [(h0, .inr (12, [.ref h1, .ref h2, .ref h3, .ref h4, .ref h5, .ref h6, .ref h7, .ref h8, .ref h9, .int 0, .int 0, .int 10, .int 0, .int 0, .int (-9), .int 0, .ref h10, .ref h11, .ref h12, .ref h13, .int 0, .int 0, .int 0, .ref h14, .int 0, .int 0, .int 0, .int (-9), .int 0, .ref h15, .int 0, .int 0, .int 0, .ref h16, .ref h17, .ref h18, .int 0, .int 0])), (h1, .inl (cI, 7, .inl (fun _ => 0)))] s.heap.size = A at hD ⊢
  have hA : ∀ q : Nat, s.heap.size ≤ q → A q := fun q h => by rw [← hAe]; exact Or.inr h
  have hS : va_S A s.heap s.heap [] := va_S.rf
  have hP : va_P (dC, dI) vwCl [(h0, .inr (12, [.ref h1, .ref h2, .ref h3, .ref h4, .ref h5, .ref h6, .ref h7, .ref h8, .ref h9, .int 0, .int 0, .int 10, .int 0, .int 0, .int (-9), .int 0, .ref h10, .ref h11, .ref h12, .ref h13, .int 0, .int 0, .int 0, .ref h14, .int 0, .int 0, .int 0, .int (-9), .int 0, .ref h15, .int 0, .int 0, .int 0, .ref h16, .ref h17, .ref h18, .int 0, .int 0])), (h1, .inl (cI, 7, .inl (fun _ => 0)))] s.heap := hP
  have hl := lv_entry ([.ref h0, .int p0]) (n := 2) (Nat.le_of_ble_eq_true rfl)
  rw [lg_entry_eq]
  generalize (lg_sl ([.ref h0, .int p0]) ++ List.replicate (2 - (lg_sl ([.ref h0, .int p0])).length) Slot.unset).toArray = ls at hl ⊢
  have hl : lv_has ls 2 [(0, .ref h0), (1, .int p0)] := hl
  refine lv_iload_n hx hb dX12_night_0 rfl (lv_at hl 1 rfl) ?_
  refine lv_if_ge (tgt := 11) hx hb dX12_night_1 (by decide) (fun hc => ?_) (fun hc => ?_)
  rotate_left; exact absurd ((fa_le _ _).mpr (by rw [show (0 : Int32).toInt = 0 from by decide]; omega)) hc
  refine lv_aload_n hx hb dX12_night_11 rfl (lv_at hl 0 rfl) ?_
  refine va_get (D := (dC, dI)) (ci := 12) (v := .int 0) (C := RX12) (T := TX12) (N := 38) hx hb hts in_X12_night_X12 hown hK hP 0 rfl rfl 10 (by decide) (hts (.fieldLink RX12 79 "EachOnHisCueModel" "lines" "I") (by decide +kernel)) (fun _ h9 => h9) rfl dX12_night_12 ?_
  refine lv_if_ne (tgt := 25) hx hb dX12_night_15 (by decide) (fun hc => ?_) (fun hc => ?_)
  · exact absurd hc (by decide)
  refine lv_aload_n hx hb dX12_night_18 rfl (lv_at hl 0 rfl) ?_
  refine lv_bipush (v := (-3)) hx hb dX12_night_19 (by decide) ?_
  refine z_calli (wc := [(h0, .inr (12, [.ref h1, .ref h2, .ref h3, .ref h4, .ref h5, .ref h6, .ref h7, .ref h8, .ref h9, .int 0, .int 0, .int 10, .int 0, .int 0, .int (-9), .int 0, .ref h10, .ref h11, .ref h12, .ref h13, .int 0, .int 0, .int 0, .ref h14, .int 0, .int 0, .int 0, .int (-9), .int 0, .ref h15, .int 0, .int 0, .int 0, .ref h16, .ref h17, .ref h18, .int 0, .int 0])), (h1, .inl (cI, 7, .inl (fun _ => 0)))]) (wr := []) (w1 := (fun _ => [(h0, .inr (12, [.ref h1, .ref h2, .ref h3, .ref h4, .ref h5, .ref h6, .ref h7, .ref h8, .ref h9, .int 0, .int 0, .int 10, .int 0, .int 0, .int (-9), .int 0, .ref h10, .ref h11, .ref h12, .ref h13, .int 0, .int 0, .int 0, .ref h14, .int 0, .int 0, .int 0, .int (-9), .int 0, .ref h15, .int 0, .int 0, .int 0, .ref h16, .ref h17, .ref h18, .int 0, .int 0])), (h1, .inl (cI, 7, .inl (upd (fun _ => 0) 3 1)))])) (va_runV (As := [.int (-3)]) (rest := []) ⟨hx, hb, hml, hown, hts⟩ (kX12_no_4 l dC dI cI cQ h0 h1 h2 h3 h4 h5 h6 h7 h8 h9 h10 h11 h12 h13 h14 h15 h16 h17 h18 s.heap.size) (cwV 1 hts gv_X12_night_X12_no_89 rfl rfl rfl (by decide +kernel) ⟨Nat.le_of_ble_eq_true rfl, Nat.le_of_ble_eq_true rfl⟩) ⟨z_blind, va_recv hK hP (ci := 12) (q0 := 0) rfl rfl, z_pre hZ hP hD [0, 1] rfl (by decide)⟩ rfl rfl hl.1 rfl (lv_room (Nat.le_of_ble_eq_true rfl)) dX12_night_21 ⟨Nat.le_of_ble_eq_true rfl, Nat.le_of_ble_eq_true rfl⟩) hP hD hS hA [0, 1] [] rfl rfl (by decide) (by decide) (fun _ H locs hP hD hS => ?_)
  have hP : va_P (dC, dI) vwCl [(h0, .inr (12, [.ref h1, .ref h2, .ref h3, .ref h4, .ref h5, .ref h6, .ref h7, .ref h8, .ref h9, .int 0, .int 0, .int 10, .int 0, .int 0, .int (-9), .int 0, .ref h10, .ref h11, .ref h12, .ref h13, .int 0, .int 0, .int 0, .ref h14, .int 0, .int 0, .int 0, .int (-9), .int 0, .ref h15, .int 0, .int 0, .int 0, .ref h16, .ref h17, .ref h18, .int 0, .int 0])), (h1, .inl (cI, 7, .inl (upd (fun _ => 0) 3 1)))] H := hP
  have hD : va_D A [(h0, .inr (12, [.ref h1, .ref h2, .ref h3, .ref h4, .ref h5, .ref h6, .ref h7, .ref h8, .ref h9, .int 0, .int 0, .int 10, .int 0, .int 0, .int (-9), .int 0, .ref h10, .ref h11, .ref h12, .ref h13, .int 0, .int 0, .int 0, .ref h14, .int 0, .int 0, .int 0, .int (-9), .int 0, .ref h15, .int 0, .int 0, .int 0, .ref h16, .ref h17, .ref h18, .int 0, .int 0])), (h1, .inl (cI, 7, .inl (upd (fun _ => 0) 3 1)))] := hD
  have hP9 := hP.sub (ws' := []) [] rfl
  have hD9 := hD.sub (ws' := []) [] (by decide) rfl
  exact W.iret (v := (-3)) hx hb hr (fun t ht hW => ⟨⟨(-3), (fun k => [].getD k 0), rfl, rfl, by rw [ht]; exact hP9, hD9⟩, hS.F ht⟩) hS.2.2 dX12_night_24
set_option maxHeartbeats 4000000 in
set_option maxRecDepth 100000 in
theorem kX12_isIn (l : Launch) (dC : Nat → ClassId) (dI : Nat → Nat → Nat) (cI cQ : ClassId) (p0 : Int32) (hp0l : -2147483648 ≤ p0.toInt) (hp0h : p0.toInt ≤ -1) (sz : Nat) : Met l yX12_isIn vsX12_isIn ({ frames := 0, cells := 0, slots := 0, locals := 0 }) (va_Pc [.int p0, .int 0, .int 3] (zB dC dI cI cQ [] sz)) (zQi dC dI (va_A [] sz) (fun ad => []) 0) 0 0 (va_A [] sz) := by
  refine Met.ofW (cc := cX12_isIn) (maxL := 3) (ret := (some .boolean)) (by decide) rfl ?_
  intro p e s m args below meth c s₁ B hml hv
  obtain ⟨rfl, hsz, hP, hZ, hD0⟩ := hv
  obtain ⟨hK, hAO, hN⟩ := id hZ
  have hx := B.exec
  have hb := B.bytes
  have hr := B.returns
  have hts := atoms_spec (ws := vsX12_isIn) B.pre
  have hown : s.vm.findClass RX12 = some m.cls := findClass_of_methodNamed B.named
  have hlocks := B.notSynchronized
  subst hsz
  have hD := hD0.self (sz := s.heap.size)
  generalize hAe : va_A [] s.heap.size = A at hD ⊢
  have hA : ∀ q : Nat, s.heap.size ≤ q → A q := fun q h => by rw [← hAe]; exact Or.inr h
  have hS : va_S A s.heap s.heap [] := va_S.rf
  have hP : va_P (dC, dI) vwCl [] s.heap := hP
  have hl := lv_entry ([.int p0, .int 0, .int 3]) (n := 3) (Nat.le_of_ble_eq_true rfl)
  rw [lg_entry_eq]
  generalize (lg_sl ([.int p0, .int 0, .int 3]) ++ List.replicate (3 - (lg_sl ([.int p0, .int 0, .int 3])).length) Slot.unset).toArray = ls at hl ⊢
  have hl : lv_has ls 3 [(0, .int p0), (1, .int 0), (2, .int 3)] := hl
  refine lv_iload_n hx hb dX12_isIn_0 rfl (lv_at hl 0 rfl) ?_
  refine lv_iload_n hx hb dX12_isIn_1 rfl (lv_at hl 1 rfl) ?_
  refine lv_icmp_lt (tgt := 14) hx hb dX12_isIn_2 (by decide) (fun hc => ?_) (fun hc => ?_)
  rotate_left; exact absurd ((fa_lt _ _).mpr (by rw [show (0 : Int32).toInt = 0 from by decide]; omega)) hc
  refine lv_iconst (v := 0) hx hb dX12_isIn_14 (by decide) ?_
  have hP9 := hP.sub (ws' := []) [] rfl
  have hD9 := hD.sub (ws' := []) [] (by decide) rfl
  exact W.zret (v := 0) hx hb hr rfl (fun t ht hW => ⟨⟨0, (fun k => [].getD k 0), rfl, rfl, by rw [ht]; exact hP9, hD9⟩, hS.F ht⟩) hS.2.2 dX12_isIn_15
set_option maxHeartbeats 4000000 in
set_option maxRecDepth 100000 in
theorem kX12_no_5 (l : Launch) (dC : Nat → ClassId) (dI : Nat → Nat → Nat) (cI cQ : ClassId) (h0 h1 h2 h3 h4 h5 h6 h7 h8 h9 h10 h11 h12 h13 h14 h15 h16 h17 h18 : Nat) (sz : Nat) : Met l yX12_no vsX12_no ({ frames := 0, cells := 0, slots := 0, locals := 0 }) (va_Pc [.ref h0, .int (-2)] (zB dC dI cI cQ [(h0, .inr (12, [.ref h1, .ref h2, .ref h3, .ref h4, .ref h5, .ref h6, .ref h7, .ref h8, .ref h9, .int 0, .int 0, .int 10, .int 0, .int 0, .int (-9), .int 0, .ref h10, .ref h11, .ref h12, .ref h13, .int 0, .int 0, .int 0, .ref h14, .int 0, .int 0, .int 0, .int (-9), .int 0, .ref h15, .int 0, .int 0, .int 0, .ref h16, .ref h17, .ref h18, .int 0, .int 0])), (h1, .inl (cI, 7, .inl (fun _ => 0)))] sz)) (zQi dC dI (va_A [(h0, .inr (12, [.ref h1, .ref h2, .ref h3, .ref h4, .ref h5, .ref h6, .ref h7, .ref h8, .ref h9, .int 0, .int 0, .int 10, .int 0, .int 0, .int (-9), .int 0, .ref h10, .ref h11, .ref h12, .ref h13, .int 0, .int 0, .int 0, .ref h14, .int 0, .int 0, .int 0, .int (-9), .int 0, .ref h15, .int 0, .int 0, .int 0, .ref h16, .ref h17, .ref h18, .int 0, .int 0])), (h1, .inl (cI, 7, .inl (fun _ => 0)))] sz) (fun ad => [(h0, .inr (12, [.ref h1, .ref h2, .ref h3, .ref h4, .ref h5, .ref h6, .ref h7, .ref h8, .ref h9, .int 0, .int 0, .int 10, .int 0, .int 0, .int (-9), .int 0, .ref h10, .ref h11, .ref h12, .ref h13, .int 0, .int 0, .int 0, .ref h14, .int 0, .int 0, .int 0, .int (-9), .int 0, .ref h15, .int 0, .int 0, .int 0, .ref h16, .ref h17, .ref h18, .int 0, .int 0])), (h1, .inl (cI, 7, .inl (upd (fun _ => 0) 2 1)))]) (-2)) 0 0 (va_A [(h0, .inr (12, [.ref h1, .ref h2, .ref h3, .ref h4, .ref h5, .ref h6, .ref h7, .ref h8, .ref h9, .int 0, .int 0, .int 10, .int 0, .int 0, .int (-9), .int 0, .ref h10, .ref h11, .ref h12, .ref h13, .int 0, .int 0, .int 0, .ref h14, .int 0, .int 0, .int 0, .int (-9), .int 0, .ref h15, .int 0, .int 0, .int 0, .ref h16, .ref h17, .ref h18, .int 0, .int 0])), (h1, .inl (cI, 7, .inl (fun _ => 0)))] sz) := by
  refine Met.ofW (cc := cX12_no) (maxL := 2) (ret := (some .int)) (by decide) rfl ?_
  intro p e s m args below meth c s₁ B hml hv
  obtain ⟨rfl, hsz, hP, hZ, hD0⟩ := hv
  obtain ⟨hK, hAO, hN⟩ := id hZ
  have hx := B.exec
  have hb := B.bytes
  have hr := B.returns
  have hts := atoms_spec (ws := vsX12_no) B.pre
  have hown : s.vm.findClass RX12 = some m.cls := findClass_of_methodNamed B.named
  have hlocks := B.notSynchronized
  subst hsz
  have hD := hD0.self (sz := s.heap.size)
  generalize hAe : va_A [(h0, .inr (12, [.ref h1, .ref h2, .ref h3, .ref h4, .ref h5, .ref h6, .ref h7, .ref h8, .ref h9, .int 0, .int 0, .int 10, .int 0, .int 0, .int (-9), .int 0, .ref h10, .ref h11, .ref h12, .ref h13, .int 0, .int 0, .int 0, .ref h14, .int 0, .int 0, .int 0, .int (-9), .int 0, .ref h15, .int 0, .int 0, .int 0, .ref h16, .ref h17, .ref h18, .int 0, .int 0])), (h1, .inl (cI, 7, .inl (fun _ => 0)))] s.heap.size = A at hD ⊢
  have hA : ∀ q : Nat, s.heap.size ≤ q → A q := fun q h => by rw [← hAe]; exact Or.inr h
  have hS : va_S A s.heap s.heap [] := va_S.rf
  have hP : va_P (dC, dI) vwCl [(h0, .inr (12, [.ref h1, .ref h2, .ref h3, .ref h4, .ref h5, .ref h6, .ref h7, .ref h8, .ref h9, .int 0, .int 0, .int 10, .int 0, .int 0, .int (-9), .int 0, .ref h10, .ref h11, .ref h12, .ref h13, .int 0, .int 0, .int 0, .ref h14, .int 0, .int 0, .int 0, .int (-9), .int 0, .ref h15, .int 0, .int 0, .int 0, .ref h16, .ref h17, .ref h18, .int 0, .int 0])), (h1, .inl (cI, 7, .inl (fun _ => 0)))] s.heap := hP
  have hl := lv_entry ([.ref h0, .int (-2)]) (n := 2) (Nat.le_of_ble_eq_true rfl)
  rw [lg_entry_eq]
  generalize (lg_sl ([.ref h0, .int (-2)]) ++ List.replicate (2 - (lg_sl ([.ref h0, .int (-2)])).length) Slot.unset).toArray = ls at hl ⊢
  have hl : lv_has ls 2 [(0, .ref h0), (1, .int (-2))] := hl
  refine lv_aload_n hx hb dX12_no_0 rfl (lv_at hl 0 rfl) ?_
  refine va_get (D := (dC, dI)) (ci := 12) (v := .ref h1) (C := RX12) (T := TX12) (N := 38) hx hb hts in_X12_no_X12 hown hK hP 0 rfl rfl 0 (by decide) (hts (.fieldLink RX12 7 "EachOnHisCueModel" "refused" "[I") (by decide +kernel)) (fun _ h9 => h9) rfl dX12_no_1 ?_
  refine lv_iload_n hx hb dX12_no_4 rfl (lv_at hl 1 rfl) ?_
  refine lv_ineg hx hb dX12_no_5 ?_
  refine lv_topi (fun y1 ey1 => ?_)
  obtain rfl : y1 = 2 := ey1.trans (by decide)
  refine lv_dup2_11 hx hb dX12_no_6 rfl rfl ?_
  refine va_iald hx hb hK hP 1 0 rfl rfl (by unfold vp_in; decide) dX12_no_7 ?_
  refine lv_topi (fun y2 ey2 => ?_)
  obtain rfl : y2 = 0 := ey2.trans (by first | rfl | decide)
  refine lv_iconst (v := 1) hx hb dX12_no_8 (by decide) ?_
  refine lv_iadd hx hb dX12_no_9 ?_
  refine lv_topi (fun y3 ey3 => ?_)
  obtain rfl : y3 = 1 := ey3.trans (by decide)
  refine va_iast hx hb hK hP hD hS 1 0 rfl rfl (by unfold vp_in; decide) dX12_no_10 (fun H locs hP hD hS => ?_)
  have hP : va_P (dC, dI) vwCl [(h0, .inr (12, [.ref h1, .ref h2, .ref h3, .ref h4, .ref h5, .ref h6, .ref h7, .ref h8, .ref h9, .int 0, .int 0, .int 10, .int 0, .int 0, .int (-9), .int 0, .ref h10, .ref h11, .ref h12, .ref h13, .int 0, .int 0, .int 0, .ref h14, .int 0, .int 0, .int 0, .int (-9), .int 0, .ref h15, .int 0, .int 0, .int 0, .ref h16, .ref h17, .ref h18, .int 0, .int 0])), (h1, .inl (cI, 7, .inl (upd (fun _ => 0) 2 1)))] H := hP
  have hD : va_D A [(h0, .inr (12, [.ref h1, .ref h2, .ref h3, .ref h4, .ref h5, .ref h6, .ref h7, .ref h8, .ref h9, .int 0, .int 0, .int 10, .int 0, .int 0, .int (-9), .int 0, .ref h10, .ref h11, .ref h12, .ref h13, .int 0, .int 0, .int 0, .ref h14, .int 0, .int 0, .int 0, .int (-9), .int 0, .ref h15, .int 0, .int 0, .int 0, .ref h16, .ref h17, .ref h18, .int 0, .int 0])), (h1, .inl (cI, 7, .inl (upd (fun _ => 0) 2 1)))] := hD
  refine lv_iload_n hx hb dX12_no_11 rfl (lv_at hl 1 rfl) ?_
  have hP9 := hP.sub (ws' := [(h0, .inr (12, [.ref h1, .ref h2, .ref h3, .ref h4, .ref h5, .ref h6, .ref h7, .ref h8, .ref h9, .int 0, .int 0, .int 10, .int 0, .int 0, .int (-9), .int 0, .ref h10, .ref h11, .ref h12, .ref h13, .int 0, .int 0, .int 0, .ref h14, .int 0, .int 0, .int 0, .int (-9), .int 0, .ref h15, .int 0, .int 0, .int 0, .ref h16, .ref h17, .ref h18, .int 0, .int 0])), (h1, .inl (cI, 7, .inl (upd (fun _ => 0) 2 1)))]) [0, 1] rfl
  have hD9 := hD.sub (ws' := [(h0, .inr (12, [.ref h1, .ref h2, .ref h3, .ref h4, .ref h5, .ref h6, .ref h7, .ref h8, .ref h9, .int 0, .int 0, .int 10, .int 0, .int 0, .int (-9), .int 0, .ref h10, .ref h11, .ref h12, .ref h13, .int 0, .int 0, .int 0, .ref h14, .int 0, .int 0, .int 0, .int (-9), .int 0, .ref h15, .int 0, .int 0, .int 0, .ref h16, .ref h17, .ref h18, .int 0, .int 0])), (h1, .inl (cI, 7, .inl (upd (fun _ => 0) 2 1)))]) [0, 1] (by decide) rfl
  exact W.iret (v := (-2)) hx hb hr (fun t ht hW => ⟨⟨(-2), (fun k => [].getD k 0), rfl, rfl, by rw [ht]; exact hP9, hD9⟩, hS.F ht⟩) hS.2.2 dX12_no_12
set_option maxHeartbeats 4000000 in
set_option maxRecDepth 100000 in
theorem kX12_goes (l : Launch) (dC : Nat → ClassId) (dI : Nat → Nat → Nat) (cI cQ : ClassId) (h0 h1 h2 h3 h4 h5 h6 h7 h8 h9 h10 h11 h12 h13 h14 h15 h16 h17 h18 : Nat) (p0 : Int32) (hp0l : -2147483648 ≤ p0.toInt) (hp0h : p0.toInt ≤ -1) (sz : Nat) : Met l yX12_goes vsX12_goes ({ frames := 1, cells := 0, slots := 0, locals := 22 }) (va_Pc [.ref h0, .int p0] (zB dC dI cI cQ [(h0, .inr (12, [.ref h1, .ref h2, .ref h3, .ref h4, .ref h5, .ref h6, .ref h7, .ref h8, .ref h9, .int 0, .int 0, .int 10, .int 0, .int 0, .int (-9), .int 0, .ref h10, .ref h11, .ref h12, .ref h13, .int 0, .int 0, .int 0, .ref h14, .int 0, .int 0, .int 0, .int (-9), .int 0, .ref h15, .int 0, .int 0, .int 0, .ref h16, .ref h17, .ref h18, .int 0, .int 0])), (h1, .inl (cI, 7, .inl (fun _ => 0)))] sz)) (zQi dC dI (va_A [(h0, .inr (12, [.ref h1, .ref h2, .ref h3, .ref h4, .ref h5, .ref h6, .ref h7, .ref h8, .ref h9, .int 0, .int 0, .int 10, .int 0, .int 0, .int (-9), .int 0, .ref h10, .ref h11, .ref h12, .ref h13, .int 0, .int 0, .int 0, .ref h14, .int 0, .int 0, .int 0, .int (-9), .int 0, .ref h15, .int 0, .int 0, .int 0, .ref h16, .ref h17, .ref h18, .int 0, .int 0])), (h1, .inl (cI, 7, .inl (fun _ => 0)))] sz) (fun ad => []) (-2)) 0 0 (va_A [(h0, .inr (12, [.ref h1, .ref h2, .ref h3, .ref h4, .ref h5, .ref h6, .ref h7, .ref h8, .ref h9, .int 0, .int 0, .int 10, .int 0, .int 0, .int (-9), .int 0, .ref h10, .ref h11, .ref h12, .ref h13, .int 0, .int 0, .int 0, .ref h14, .int 0, .int 0, .int 0, .int (-9), .int 0, .ref h15, .int 0, .int 0, .int 0, .ref h16, .ref h17, .ref h18, .int 0, .int 0])), (h1, .inl (cI, 7, .inl (fun _ => 0)))] sz) := by
  refine Met.ofW (cc := cX12_goes) (maxL := 2) (ret := (some .int)) (by decide) rfl ?_
  intro p e s m args below meth c s₁ B hml hv
  obtain ⟨rfl, hsz, hP, hZ, hD0⟩ := hv
  obtain ⟨hK, hAO, hN⟩ := id hZ
  have hx := B.exec
  have hb := B.bytes
  have hr := B.returns
  have hts := atoms_spec (ws := vsX12_goes) B.pre
  have hown : s.vm.findClass RX12 = some m.cls := findClass_of_methodNamed B.named
  have hlocks := B.notSynchronized
  subst hsz
  have hD := hD0.self (sz := s.heap.size)
  generalize hAe : va_A [(h0, .inr (12, [.ref h1, .ref h2, .ref h3, .ref h4, .ref h5, .ref h6, .ref h7, .ref h8, .ref h9, .int 0, .int 0, .int 10, .int 0, .int 0, .int (-9), .int 0, .ref h10, .ref h11, .ref h12, .ref h13, .int 0, .int 0, .int 0, .ref h14, .int 0, .int 0, .int 0, .int (-9), .int 0, .ref h15, .int 0, .int 0, .int 0, .ref h16, .ref h17, .ref h18, .int 0, .int 0])), (h1, .inl (cI, 7, .inl (fun _ => 0)))] s.heap.size = A at hD ⊢
  have hA : ∀ q : Nat, s.heap.size ≤ q → A q := fun q h => by rw [← hAe]; exact Or.inr h
  have hS : va_S A s.heap s.heap [] := va_S.rf
  have hP : va_P (dC, dI) vwCl [(h0, .inr (12, [.ref h1, .ref h2, .ref h3, .ref h4, .ref h5, .ref h6, .ref h7, .ref h8, .ref h9, .int 0, .int 0, .int 10, .int 0, .int 0, .int (-9), .int 0, .ref h10, .ref h11, .ref h12, .ref h13, .int 0, .int 0, .int 0, .ref h14, .int 0, .int 0, .int 0, .int (-9), .int 0, .ref h15, .int 0, .int 0, .int 0, .ref h16, .ref h17, .ref h18, .int 0, .int 0])), (h1, .inl (cI, 7, .inl (fun _ => 0)))] s.heap := hP
  have hl := lv_entry ([.ref h0, .int p0]) (n := 2) (Nat.le_of_ble_eq_true rfl)
  rw [lg_entry_eq]
  generalize (lg_sl ([.ref h0, .int p0]) ++ List.replicate (2 - (lg_sl ([.ref h0, .int p0])).length) Slot.unset).toArray = ls at hl ⊢
  have hl : lv_has ls 2 [(0, .ref h0), (1, .int p0)] := hl
  refine lv_iload_n hx hb dX12_goes_0 rfl (lv_at hl 1 rfl) ?_
  refine lv_iconst (v := 0) hx hb dX12_goes_1 (by decide) ?_
  refine lv_iconst (v := 3) hx hb dX12_goes_2 (by decide) ?_
  refine z_calli (wc := []) (wr := [(h0, .inr (12, [.ref h1, .ref h2, .ref h3, .ref h4, .ref h5, .ref h6, .ref h7, .ref h8, .ref h9, .int 0, .int 0, .int 10, .int 0, .int 0, .int (-9), .int 0, .ref h10, .ref h11, .ref h12, .ref h13, .int 0, .int 0, .int 0, .ref h14, .int 0, .int 0, .int 0, .int (-9), .int 0, .ref h15, .int 0, .int 0, .int 0, .ref h16, .ref h17, .ref h18, .int 0, .int 0])), (h1, .inl (cI, 7, .inl (fun _ => 0)))]) (w1 := (fun _ => [])) (va_runS (As := [.int p0, .int 0, .int 3]) (rest := []) ⟨hx, hb, hml, hown, hts⟩ (kX12_isIn l dC dI cI cQ p0 hp0l hp0h s.heap.size) (va_cwS 3 hts gv_X12_goes_X12_isIn_100 rfl rfl rfl (by decide +kernel) ⟨Nat.le_of_ble_eq_true rfl, Nat.le_of_ble_eq_true rfl⟩) ⟨z_blind, z_pre hZ hP hD [] rfl (by decide)⟩ rfl rfl hl.1 rfl (lv_room (Nat.le_of_ble_eq_true rfl)) dX12_goes_3 ⟨Nat.le_of_ble_eq_true rfl, Nat.le_of_ble_eq_true rfl⟩) hP hD hS hA [] [0, 1] rfl rfl (by decide) (by decide) (fun _ H locs hP hD hS => ?_)
  have hP : va_P (dC, dI) vwCl [(h0, .inr (12, [.ref h1, .ref h2, .ref h3, .ref h4, .ref h5, .ref h6, .ref h7, .ref h8, .ref h9, .int 0, .int 0, .int 10, .int 0, .int 0, .int (-9), .int 0, .ref h10, .ref h11, .ref h12, .ref h13, .int 0, .int 0, .int 0, .ref h14, .int 0, .int 0, .int 0, .int (-9), .int 0, .ref h15, .int 0, .int 0, .int 0, .ref h16, .ref h17, .ref h18, .int 0, .int 0])), (h1, .inl (cI, 7, .inl (fun _ => 0)))] H := hP
  have hD : va_D A [(h0, .inr (12, [.ref h1, .ref h2, .ref h3, .ref h4, .ref h5, .ref h6, .ref h7, .ref h8, .ref h9, .int 0, .int 0, .int 10, .int 0, .int 0, .int (-9), .int 0, .ref h10, .ref h11, .ref h12, .ref h13, .int 0, .int 0, .int 0, .ref h14, .int 0, .int 0, .int 0, .int (-9), .int 0, .ref h15, .int 0, .int 0, .int 0, .ref h16, .ref h17, .ref h18, .int 0, .int 0])), (h1, .inl (cI, 7, .inl (fun _ => 0)))] := hD
  refine lv_if_ne (tgt := 16) hx hb dX12_goes_6 (by decide) (fun hc => ?_) (fun hc => ?_)
  · exact absurd hc (by decide)
  refine lv_aload_n hx hb dX12_goes_9 rfl (lv_at hl 0 rfl) ?_
  refine lv_bipush (v := (-2)) hx hb dX12_goes_10 (by decide) ?_
  refine z_calli (wc := [(h0, .inr (12, [.ref h1, .ref h2, .ref h3, .ref h4, .ref h5, .ref h6, .ref h7, .ref h8, .ref h9, .int 0, .int 0, .int 10, .int 0, .int 0, .int (-9), .int 0, .ref h10, .ref h11, .ref h12, .ref h13, .int 0, .int 0, .int 0, .ref h14, .int 0, .int 0, .int 0, .int (-9), .int 0, .ref h15, .int 0, .int 0, .int 0, .ref h16, .ref h17, .ref h18, .int 0, .int 0])), (h1, .inl (cI, 7, .inl (fun _ => 0)))]) (wr := []) (w1 := (fun _ => [(h0, .inr (12, [.ref h1, .ref h2, .ref h3, .ref h4, .ref h5, .ref h6, .ref h7, .ref h8, .ref h9, .int 0, .int 0, .int 10, .int 0, .int 0, .int (-9), .int 0, .ref h10, .ref h11, .ref h12, .ref h13, .int 0, .int 0, .int 0, .ref h14, .int 0, .int 0, .int 0, .int (-9), .int 0, .ref h15, .int 0, .int 0, .int 0, .ref h16, .ref h17, .ref h18, .int 0, .int 0])), (h1, .inl (cI, 7, .inl (upd (fun _ => 0) 2 1)))])) (va_runV (As := [.int (-2)]) (rest := []) ⟨hx, hb, hml, hown, hts⟩ (kX12_no_5 l dC dI cI cQ h0 h1 h2 h3 h4 h5 h6 h7 h8 h9 h10 h11 h12 h13 h14 h15 h16 h17 h18 H.size) (cwV 1 hts gv_X12_goes_X12_no_89 rfl rfl rfl (by decide +kernel) ⟨Nat.le_of_ble_eq_true rfl, Nat.le_of_ble_eq_true rfl⟩) ⟨z_blind, va_recv hK hP (ci := 12) (q0 := 0) rfl rfl, z_pre hZ hP hD [0, 1] rfl (by decide)⟩ rfl rfl hl.1 rfl (lv_room (Nat.le_of_ble_eq_true rfl)) dX12_goes_12 ⟨Nat.le_of_ble_eq_true rfl, Nat.le_of_ble_eq_true rfl⟩) hP hD hS hA [0, 1] [] rfl rfl (by decide) (by decide) (fun _ H locs hP hD hS => ?_)
  have hP : va_P (dC, dI) vwCl [(h0, .inr (12, [.ref h1, .ref h2, .ref h3, .ref h4, .ref h5, .ref h6, .ref h7, .ref h8, .ref h9, .int 0, .int 0, .int 10, .int 0, .int 0, .int (-9), .int 0, .ref h10, .ref h11, .ref h12, .ref h13, .int 0, .int 0, .int 0, .ref h14, .int 0, .int 0, .int 0, .int (-9), .int 0, .ref h15, .int 0, .int 0, .int 0, .ref h16, .ref h17, .ref h18, .int 0, .int 0])), (h1, .inl (cI, 7, .inl (upd (fun _ => 0) 2 1)))] H := hP
  have hD : va_D A [(h0, .inr (12, [.ref h1, .ref h2, .ref h3, .ref h4, .ref h5, .ref h6, .ref h7, .ref h8, .ref h9, .int 0, .int 0, .int 10, .int 0, .int 0, .int (-9), .int 0, .ref h10, .ref h11, .ref h12, .ref h13, .int 0, .int 0, .int 0, .ref h14, .int 0, .int 0, .int 0, .int (-9), .int 0, .ref h15, .int 0, .int 0, .int 0, .ref h16, .ref h17, .ref h18, .int 0, .int 0])), (h1, .inl (cI, 7, .inl (upd (fun _ => 0) 2 1)))] := hD
  have hP9 := hP.sub (ws' := []) [] rfl
  have hD9 := hD.sub (ws' := []) [] (by decide) rfl
  exact W.iret (v := (-2)) hx hb hr (fun t ht hW => ⟨⟨(-2), (fun k => [].getD k 0), rfl, rfl, by rw [ht]; exact hP9, hD9⟩, hS.F ht⟩) hS.2.2 dX12_goes_15
set_option maxHeartbeats 4000000 in
set_option maxRecDepth 100000 in
theorem kX12_isIn_1 (l : Launch) (dC : Nat → ClassId) (dI : Nat → Nat → Nat) (cI cQ : ClassId) (p0 : Int32) (hp0l : 0 ≤ p0.toInt) (hp0h : p0.toInt ≤ 3) (sz : Nat) : Met l yX12_isIn vsX12_isIn ({ frames := 0, cells := 0, slots := 0, locals := 0 }) (va_Pc [.int p0, .int 0, .int 3] (zB dC dI cI cQ [] sz)) (zQi dC dI (va_A [] sz) (fun ad => []) 1) 0 0 (va_A [] sz) := by
  refine Met.ofW (cc := cX12_isIn) (maxL := 3) (ret := (some .boolean)) (by decide) rfl ?_
  intro p e s m args below meth c s₁ B hml hv
  obtain ⟨rfl, hsz, hP, hZ, hD0⟩ := hv
  obtain ⟨hK, hAO, hN⟩ := id hZ
  have hx := B.exec
  have hb := B.bytes
  have hr := B.returns
  have hts := atoms_spec (ws := vsX12_isIn) B.pre
  have hown : s.vm.findClass RX12 = some m.cls := findClass_of_methodNamed B.named
  have hlocks := B.notSynchronized
  subst hsz
  have hD := hD0.self (sz := s.heap.size)
  generalize hAe : va_A [] s.heap.size = A at hD ⊢
  have hA : ∀ q : Nat, s.heap.size ≤ q → A q := fun q h => by rw [← hAe]; exact Or.inr h
  have hS : va_S A s.heap s.heap [] := va_S.rf
  have hP : va_P (dC, dI) vwCl [] s.heap := hP
  have hl := lv_entry ([.int p0, .int 0, .int 3]) (n := 3) (Nat.le_of_ble_eq_true rfl)
  rw [lg_entry_eq]
  generalize (lg_sl ([.int p0, .int 0, .int 3]) ++ List.replicate (3 - (lg_sl ([.int p0, .int 0, .int 3])).length) Slot.unset).toArray = ls at hl ⊢
  have hl : lv_has ls 3 [(0, .int p0), (1, .int 0), (2, .int 3)] := hl
  refine lv_iload_n hx hb dX12_isIn_0 rfl (lv_at hl 0 rfl) ?_
  refine lv_iload_n hx hb dX12_isIn_1 rfl (lv_at hl 1 rfl) ?_
  refine lv_icmp_lt (tgt := 14) hx hb dX12_isIn_2 (by decide) (fun hc => ?_) (fun hc => ?_)
  · exact absurd ((fa_lt _ _).mp hc) (by rw [show (0 : Int32).toInt = 0 from by decide]; omega)
  refine lv_iload_n hx hb dX12_isIn_5 rfl (lv_at hl 0 rfl) ?_
  refine lv_iload_n hx hb dX12_isIn_6 rfl (lv_at hl 2 rfl) ?_
  refine lv_icmp_gt (tgt := 14) hx hb dX12_isIn_7 (by decide) (fun hc => ?_) (fun hc => ?_)
  · exact absurd ((fa_lt _ _).mp hc) (by rw [show (3 : Int32).toInt = 3 from by decide]; omega)
  refine lv_iconst (v := 1) hx hb dX12_isIn_10 (by decide) ?_
  refine lv_goto (tgt := 15) hx hb dX12_isIn_11 (by decide) ?_
  have hP9 := hP.sub (ws' := []) [] rfl
  have hD9 := hD.sub (ws' := []) [] (by decide) rfl
  exact W.zret (v := 1) hx hb hr rfl (fun t ht hW => ⟨⟨1, (fun k => [].getD k 0), rfl, rfl, by rw [ht]; exact hP9, hD9⟩, hS.F ht⟩) hS.2.2 dX12_isIn_15
set_option maxHeartbeats 4000000 in
set_option maxRecDepth 100000 in
theorem kX12_goes_1 (l : Launch) (dC : Nat → ClassId) (dI : Nat → Nat → Nat) (cI cQ : ClassId) (h0 h1 h2 h3 h4 h5 h6 h7 h8 h9 h10 h11 h12 h13 h14 h15 h16 h17 h18 : Nat) (p0 : Int32) (hp0l : 0 ≤ p0.toInt) (hp0h : p0.toInt ≤ 3) (sz : Nat) : Met l yX12_goes vsX12_goes ({ frames := 1, cells := 0, slots := 0, locals := 22 }) (va_Pc [.ref h0, .int p0] (zB dC dI cI cQ [(h0, .inr (12, [.ref h1, .ref h2, .ref h3, .ref h4, .ref h5, .ref h6, .ref h7, .ref h8, .ref h9, .int 0, .int 0, .int 10, .int 0, .int 0, .int (-9), .int 0, .ref h10, .ref h11, .ref h12, .ref h13, .int 0, .int 0, .int 0, .ref h14, .int 0, .int 0, .int 0, .int (-9), .int 0, .ref h15, .int 0, .int 0, .int 0, .ref h16, .ref h17, .ref h18, .int 0, .int 0])), (h1, .inl (cI, 7, .inl (fun _ => 0)))] sz)) (zQi dC dI (va_A [(h0, .inr (12, [.ref h1, .ref h2, .ref h3, .ref h4, .ref h5, .ref h6, .ref h7, .ref h8, .ref h9, .int 0, .int 0, .int 10, .int 0, .int 0, .int (-9), .int 0, .ref h10, .ref h11, .ref h12, .ref h13, .int 0, .int 0, .int 0, .ref h14, .int 0, .int 0, .int 0, .int (-9), .int 0, .ref h15, .int 0, .int 0, .int 0, .ref h16, .ref h17, .ref h18, .int 0, .int 0])), (h1, .inl (cI, 7, .inl (fun _ => 0)))] sz) (fun ad => []) (-3)) 0 0 (va_A [(h0, .inr (12, [.ref h1, .ref h2, .ref h3, .ref h4, .ref h5, .ref h6, .ref h7, .ref h8, .ref h9, .int 0, .int 0, .int 10, .int 0, .int 0, .int (-9), .int 0, .ref h10, .ref h11, .ref h12, .ref h13, .int 0, .int 0, .int 0, .ref h14, .int 0, .int 0, .int 0, .int (-9), .int 0, .ref h15, .int 0, .int 0, .int 0, .ref h16, .ref h17, .ref h18, .int 0, .int 0])), (h1, .inl (cI, 7, .inl (fun _ => 0)))] sz) := by
  refine Met.ofW (cc := cX12_goes) (maxL := 2) (ret := (some .int)) (by decide) rfl ?_
  intro p e s m args below meth c s₁ B hml hv
  obtain ⟨rfl, hsz, hP, hZ, hD0⟩ := hv
  obtain ⟨hK, hAO, hN⟩ := id hZ
  have hx := B.exec
  have hb := B.bytes
  have hr := B.returns
  have hts := atoms_spec (ws := vsX12_goes) B.pre
  have hown : s.vm.findClass RX12 = some m.cls := findClass_of_methodNamed B.named
  have hlocks := B.notSynchronized
  subst hsz
  have hD := hD0.self (sz := s.heap.size)
  generalize hAe : va_A [(h0, .inr (12, [.ref h1, .ref h2, .ref h3, .ref h4, .ref h5, .ref h6, .ref h7, .ref h8, .ref h9, .int 0, .int 0, .int 10, .int 0, .int 0, .int (-9), .int 0, .ref h10, .ref h11, .ref h12, .ref h13, .int 0, .int 0, .int 0, .ref h14, .int 0, .int 0, .int 0, .int (-9), .int 0, .ref h15, .int 0, .int 0, .int 0, .ref h16, .ref h17, .ref h18, .int 0, .int 0])), (h1, .inl (cI, 7, .inl (fun _ => 0)))] s.heap.size = A at hD ⊢
  have hA : ∀ q : Nat, s.heap.size ≤ q → A q := fun q h => by rw [← hAe]; exact Or.inr h
  have hS : va_S A s.heap s.heap [] := va_S.rf
  have hP : va_P (dC, dI) vwCl [(h0, .inr (12, [.ref h1, .ref h2, .ref h3, .ref h4, .ref h5, .ref h6, .ref h7, .ref h8, .ref h9, .int 0, .int 0, .int 10, .int 0, .int 0, .int (-9), .int 0, .ref h10, .ref h11, .ref h12, .ref h13, .int 0, .int 0, .int 0, .ref h14, .int 0, .int 0, .int 0, .int (-9), .int 0, .ref h15, .int 0, .int 0, .int 0, .ref h16, .ref h17, .ref h18, .int 0, .int 0])), (h1, .inl (cI, 7, .inl (fun _ => 0)))] s.heap := hP
  have hl := lv_entry ([.ref h0, .int p0]) (n := 2) (Nat.le_of_ble_eq_true rfl)
  rw [lg_entry_eq]
  generalize (lg_sl ([.ref h0, .int p0]) ++ List.replicate (2 - (lg_sl ([.ref h0, .int p0])).length) Slot.unset).toArray = ls at hl ⊢
  have hl : lv_has ls 2 [(0, .ref h0), (1, .int p0)] := hl
  refine lv_iload_n hx hb dX12_goes_0 rfl (lv_at hl 1 rfl) ?_
  refine lv_iconst (v := 0) hx hb dX12_goes_1 (by decide) ?_
  refine lv_iconst (v := 3) hx hb dX12_goes_2 (by decide) ?_
  refine z_calli (wc := []) (wr := [(h0, .inr (12, [.ref h1, .ref h2, .ref h3, .ref h4, .ref h5, .ref h6, .ref h7, .ref h8, .ref h9, .int 0, .int 0, .int 10, .int 0, .int 0, .int (-9), .int 0, .ref h10, .ref h11, .ref h12, .ref h13, .int 0, .int 0, .int 0, .ref h14, .int 0, .int 0, .int 0, .int (-9), .int 0, .ref h15, .int 0, .int 0, .int 0, .ref h16, .ref h17, .ref h18, .int 0, .int 0])), (h1, .inl (cI, 7, .inl (fun _ => 0)))]) (w1 := (fun _ => [])) (va_runS (As := [.int p0, .int 0, .int 3]) (rest := []) ⟨hx, hb, hml, hown, hts⟩ (kX12_isIn_1 l dC dI cI cQ p0 hp0l hp0h s.heap.size) (va_cwS 3 hts gv_X12_goes_X12_isIn_100 rfl rfl rfl (by decide +kernel) ⟨Nat.le_of_ble_eq_true rfl, Nat.le_of_ble_eq_true rfl⟩) ⟨z_blind, z_pre hZ hP hD [] rfl (by decide)⟩ rfl rfl hl.1 rfl (lv_room (Nat.le_of_ble_eq_true rfl)) dX12_goes_3 ⟨Nat.le_of_ble_eq_true rfl, Nat.le_of_ble_eq_true rfl⟩) hP hD hS hA [] [0, 1] rfl rfl (by decide) (by decide) (fun _ H locs hP hD hS => ?_)
  have hP : va_P (dC, dI) vwCl [(h0, .inr (12, [.ref h1, .ref h2, .ref h3, .ref h4, .ref h5, .ref h6, .ref h7, .ref h8, .ref h9, .int 0, .int 0, .int 10, .int 0, .int 0, .int (-9), .int 0, .ref h10, .ref h11, .ref h12, .ref h13, .int 0, .int 0, .int 0, .ref h14, .int 0, .int 0, .int 0, .int (-9), .int 0, .ref h15, .int 0, .int 0, .int 0, .ref h16, .ref h17, .ref h18, .int 0, .int 0])), (h1, .inl (cI, 7, .inl (fun _ => 0)))] H := hP
  have hD : va_D A [(h0, .inr (12, [.ref h1, .ref h2, .ref h3, .ref h4, .ref h5, .ref h6, .ref h7, .ref h8, .ref h9, .int 0, .int 0, .int 10, .int 0, .int 0, .int (-9), .int 0, .ref h10, .ref h11, .ref h12, .ref h13, .int 0, .int 0, .int 0, .ref h14, .int 0, .int 0, .int 0, .int (-9), .int 0, .ref h15, .int 0, .int 0, .int 0, .ref h16, .ref h17, .ref h18, .int 0, .int 0])), (h1, .inl (cI, 7, .inl (fun _ => 0)))] := hD
  refine lv_if_ne (tgt := 16) hx hb dX12_goes_6 (by decide) (fun hc => ?_) (fun hc => ?_)
  rotate_left; exact absurd hc (by decide)
  refine lv_aload_n hx hb dX12_goes_16 rfl (lv_at hl 0 rfl) ?_
  refine va_get (D := (dC, dI)) (ci := 12) (v := .int 0) (C := RX12) (T := TX12) (N := 38) hx hb hts in_X12_goes_X12 hown hK hP 0 rfl rfl 10 (by decide) (hts (.fieldLink RX12 79 "EachOnHisCueModel" "lines" "I") (by decide +kernel)) (fun _ h9 => h9) rfl dX12_goes_17 ?_
  refine lv_if_ne (tgt := 30) hx hb dX12_goes_20 (by decide) (fun hc => ?_) (fun hc => ?_)
  · exact absurd hc (by decide)
  refine lv_aload_n hx hb dX12_goes_23 rfl (lv_at hl 0 rfl) ?_
  refine lv_bipush (v := (-3)) hx hb dX12_goes_24 (by decide) ?_
  refine z_calli (wc := [(h0, .inr (12, [.ref h1, .ref h2, .ref h3, .ref h4, .ref h5, .ref h6, .ref h7, .ref h8, .ref h9, .int 0, .int 0, .int 10, .int 0, .int 0, .int (-9), .int 0, .ref h10, .ref h11, .ref h12, .ref h13, .int 0, .int 0, .int 0, .ref h14, .int 0, .int 0, .int 0, .int (-9), .int 0, .ref h15, .int 0, .int 0, .int 0, .ref h16, .ref h17, .ref h18, .int 0, .int 0])), (h1, .inl (cI, 7, .inl (fun _ => 0)))]) (wr := []) (w1 := (fun _ => [(h0, .inr (12, [.ref h1, .ref h2, .ref h3, .ref h4, .ref h5, .ref h6, .ref h7, .ref h8, .ref h9, .int 0, .int 0, .int 10, .int 0, .int 0, .int (-9), .int 0, .ref h10, .ref h11, .ref h12, .ref h13, .int 0, .int 0, .int 0, .ref h14, .int 0, .int 0, .int 0, .int (-9), .int 0, .ref h15, .int 0, .int 0, .int 0, .ref h16, .ref h17, .ref h18, .int 0, .int 0])), (h1, .inl (cI, 7, .inl (upd (fun _ => 0) 3 1)))])) (va_runV (As := [.int (-3)]) (rest := []) ⟨hx, hb, hml, hown, hts⟩ (kX12_no_4 l dC dI cI cQ h0 h1 h2 h3 h4 h5 h6 h7 h8 h9 h10 h11 h12 h13 h14 h15 h16 h17 h18 H.size) (cwV 1 hts gv_X12_goes_X12_no_89 rfl rfl rfl (by decide +kernel) ⟨Nat.le_of_ble_eq_true rfl, Nat.le_of_ble_eq_true rfl⟩) ⟨z_blind, va_recv hK hP (ci := 12) (q0 := 0) rfl rfl, z_pre hZ hP hD [0, 1] rfl (by decide)⟩ rfl rfl hl.1 rfl (lv_room (Nat.le_of_ble_eq_true rfl)) dX12_goes_26 ⟨Nat.le_of_ble_eq_true rfl, Nat.le_of_ble_eq_true rfl⟩) hP hD hS hA [0, 1] [] rfl rfl (by decide) (by decide) (fun _ H locs hP hD hS => ?_)
  have hP : va_P (dC, dI) vwCl [(h0, .inr (12, [.ref h1, .ref h2, .ref h3, .ref h4, .ref h5, .ref h6, .ref h7, .ref h8, .ref h9, .int 0, .int 0, .int 10, .int 0, .int 0, .int (-9), .int 0, .ref h10, .ref h11, .ref h12, .ref h13, .int 0, .int 0, .int 0, .ref h14, .int 0, .int 0, .int 0, .int (-9), .int 0, .ref h15, .int 0, .int 0, .int 0, .ref h16, .ref h17, .ref h18, .int 0, .int 0])), (h1, .inl (cI, 7, .inl (upd (fun _ => 0) 3 1)))] H := hP
  have hD : va_D A [(h0, .inr (12, [.ref h1, .ref h2, .ref h3, .ref h4, .ref h5, .ref h6, .ref h7, .ref h8, .ref h9, .int 0, .int 0, .int 10, .int 0, .int 0, .int (-9), .int 0, .ref h10, .ref h11, .ref h12, .ref h13, .int 0, .int 0, .int 0, .ref h14, .int 0, .int 0, .int 0, .int (-9), .int 0, .ref h15, .int 0, .int 0, .int 0, .ref h16, .ref h17, .ref h18, .int 0, .int 0])), (h1, .inl (cI, 7, .inl (upd (fun _ => 0) 3 1)))] := hD
  have hP9 := hP.sub (ws' := []) [] rfl
  have hD9 := hD.sub (ws' := []) [] (by decide) rfl
  exact W.iret (v := (-3)) hx hb hr (fun t ht hW => ⟨⟨(-3), (fun k => [].getD k 0), rfl, rfl, by rw [ht]; exact hP9, hD9⟩, hS.F ht⟩) hS.2.2 dX12_goes_29
set_option maxHeartbeats 4000000 in
set_option maxRecDepth 100000 in
theorem kX12_isIn_2 (l : Launch) (dC : Nat → ClassId) (dI : Nat → Nat → Nat) (cI cQ : ClassId) (p0 : Int32) (hp0l : 4 ≤ p0.toInt) (hp0h : p0.toInt ≤ 2147483647) (sz : Nat) : Met l yX12_isIn vsX12_isIn ({ frames := 0, cells := 0, slots := 0, locals := 0 }) (va_Pc [.int p0, .int 0, .int 3] (zB dC dI cI cQ [] sz)) (zQi dC dI (va_A [] sz) (fun ad => []) 0) 0 0 (va_A [] sz) := by
  refine Met.ofW (cc := cX12_isIn) (maxL := 3) (ret := (some .boolean)) (by decide) rfl ?_
  intro p e s m args below meth c s₁ B hml hv
  obtain ⟨rfl, hsz, hP, hZ, hD0⟩ := hv
  obtain ⟨hK, hAO, hN⟩ := id hZ
  have hx := B.exec
  have hb := B.bytes
  have hr := B.returns
  have hts := atoms_spec (ws := vsX12_isIn) B.pre
  have hown : s.vm.findClass RX12 = some m.cls := findClass_of_methodNamed B.named
  have hlocks := B.notSynchronized
  subst hsz
  have hD := hD0.self (sz := s.heap.size)
  generalize hAe : va_A [] s.heap.size = A at hD ⊢
  have hA : ∀ q : Nat, s.heap.size ≤ q → A q := fun q h => by rw [← hAe]; exact Or.inr h
  have hS : va_S A s.heap s.heap [] := va_S.rf
  have hP : va_P (dC, dI) vwCl [] s.heap := hP
  have hl := lv_entry ([.int p0, .int 0, .int 3]) (n := 3) (Nat.le_of_ble_eq_true rfl)
  rw [lg_entry_eq]
  generalize (lg_sl ([.int p0, .int 0, .int 3]) ++ List.replicate (3 - (lg_sl ([.int p0, .int 0, .int 3])).length) Slot.unset).toArray = ls at hl ⊢
  have hl : lv_has ls 3 [(0, .int p0), (1, .int 0), (2, .int 3)] := hl
  refine lv_iload_n hx hb dX12_isIn_0 rfl (lv_at hl 0 rfl) ?_
  refine lv_iload_n hx hb dX12_isIn_1 rfl (lv_at hl 1 rfl) ?_
  refine lv_icmp_lt (tgt := 14) hx hb dX12_isIn_2 (by decide) (fun hc => ?_) (fun hc => ?_)
  · exact absurd ((fa_lt _ _).mp hc) (by rw [show (0 : Int32).toInt = 0 from by decide]; omega)
  refine lv_iload_n hx hb dX12_isIn_5 rfl (lv_at hl 0 rfl) ?_
  refine lv_iload_n hx hb dX12_isIn_6 rfl (lv_at hl 2 rfl) ?_
  refine lv_icmp_gt (tgt := 14) hx hb dX12_isIn_7 (by decide) (fun hc => ?_) (fun hc => ?_)
  rotate_left; exact absurd ((fa_lt _ _).mpr (by rw [show (3 : Int32).toInt = 3 from by decide]; omega)) hc
  refine lv_iconst (v := 0) hx hb dX12_isIn_14 (by decide) ?_
  have hP9 := hP.sub (ws' := []) [] rfl
  have hD9 := hD.sub (ws' := []) [] (by decide) rfl
  exact W.zret (v := 0) hx hb hr rfl (fun t ht hW => ⟨⟨0, (fun k => [].getD k 0), rfl, rfl, by rw [ht]; exact hP9, hD9⟩, hS.F ht⟩) hS.2.2 dX12_isIn_15
set_option maxHeartbeats 4000000 in
set_option maxRecDepth 100000 in
theorem kX12_goes_2 (l : Launch) (dC : Nat → ClassId) (dI : Nat → Nat → Nat) (cI cQ : ClassId) (h0 h1 h2 h3 h4 h5 h6 h7 h8 h9 h10 h11 h12 h13 h14 h15 h16 h17 h18 : Nat) (p0 : Int32) (hp0l : 4 ≤ p0.toInt) (hp0h : p0.toInt ≤ 2147483647) (sz : Nat) : Met l yX12_goes vsX12_goes ({ frames := 1, cells := 0, slots := 0, locals := 22 }) (va_Pc [.ref h0, .int p0] (zB dC dI cI cQ [(h0, .inr (12, [.ref h1, .ref h2, .ref h3, .ref h4, .ref h5, .ref h6, .ref h7, .ref h8, .ref h9, .int 0, .int 0, .int 10, .int 0, .int 0, .int (-9), .int 0, .ref h10, .ref h11, .ref h12, .ref h13, .int 0, .int 0, .int 0, .ref h14, .int 0, .int 0, .int 0, .int (-9), .int 0, .ref h15, .int 0, .int 0, .int 0, .ref h16, .ref h17, .ref h18, .int 0, .int 0])), (h1, .inl (cI, 7, .inl (fun _ => 0)))] sz)) (zQi dC dI (va_A [(h0, .inr (12, [.ref h1, .ref h2, .ref h3, .ref h4, .ref h5, .ref h6, .ref h7, .ref h8, .ref h9, .int 0, .int 0, .int 10, .int 0, .int 0, .int (-9), .int 0, .ref h10, .ref h11, .ref h12, .ref h13, .int 0, .int 0, .int 0, .ref h14, .int 0, .int 0, .int 0, .int (-9), .int 0, .ref h15, .int 0, .int 0, .int 0, .ref h16, .ref h17, .ref h18, .int 0, .int 0])), (h1, .inl (cI, 7, .inl (fun _ => 0)))] sz) (fun ad => []) (-2)) 0 0 (va_A [(h0, .inr (12, [.ref h1, .ref h2, .ref h3, .ref h4, .ref h5, .ref h6, .ref h7, .ref h8, .ref h9, .int 0, .int 0, .int 10, .int 0, .int 0, .int (-9), .int 0, .ref h10, .ref h11, .ref h12, .ref h13, .int 0, .int 0, .int 0, .ref h14, .int 0, .int 0, .int 0, .int (-9), .int 0, .ref h15, .int 0, .int 0, .int 0, .ref h16, .ref h17, .ref h18, .int 0, .int 0])), (h1, .inl (cI, 7, .inl (fun _ => 0)))] sz) := by
  refine Met.ofW (cc := cX12_goes) (maxL := 2) (ret := (some .int)) (by decide) rfl ?_
  intro p e s m args below meth c s₁ B hml hv
  obtain ⟨rfl, hsz, hP, hZ, hD0⟩ := hv
  obtain ⟨hK, hAO, hN⟩ := id hZ
  have hx := B.exec
  have hb := B.bytes
  have hr := B.returns
  have hts := atoms_spec (ws := vsX12_goes) B.pre
  have hown : s.vm.findClass RX12 = some m.cls := findClass_of_methodNamed B.named
  have hlocks := B.notSynchronized
  subst hsz
  have hD := hD0.self (sz := s.heap.size)
  generalize hAe : va_A [(h0, .inr (12, [.ref h1, .ref h2, .ref h3, .ref h4, .ref h5, .ref h6, .ref h7, .ref h8, .ref h9, .int 0, .int 0, .int 10, .int 0, .int 0, .int (-9), .int 0, .ref h10, .ref h11, .ref h12, .ref h13, .int 0, .int 0, .int 0, .ref h14, .int 0, .int 0, .int 0, .int (-9), .int 0, .ref h15, .int 0, .int 0, .int 0, .ref h16, .ref h17, .ref h18, .int 0, .int 0])), (h1, .inl (cI, 7, .inl (fun _ => 0)))] s.heap.size = A at hD ⊢
  have hA : ∀ q : Nat, s.heap.size ≤ q → A q := fun q h => by rw [← hAe]; exact Or.inr h
  have hS : va_S A s.heap s.heap [] := va_S.rf
  have hP : va_P (dC, dI) vwCl [(h0, .inr (12, [.ref h1, .ref h2, .ref h3, .ref h4, .ref h5, .ref h6, .ref h7, .ref h8, .ref h9, .int 0, .int 0, .int 10, .int 0, .int 0, .int (-9), .int 0, .ref h10, .ref h11, .ref h12, .ref h13, .int 0, .int 0, .int 0, .ref h14, .int 0, .int 0, .int 0, .int (-9), .int 0, .ref h15, .int 0, .int 0, .int 0, .ref h16, .ref h17, .ref h18, .int 0, .int 0])), (h1, .inl (cI, 7, .inl (fun _ => 0)))] s.heap := hP
  have hl := lv_entry ([.ref h0, .int p0]) (n := 2) (Nat.le_of_ble_eq_true rfl)
  rw [lg_entry_eq]
  generalize (lg_sl ([.ref h0, .int p0]) ++ List.replicate (2 - (lg_sl ([.ref h0, .int p0])).length) Slot.unset).toArray = ls at hl ⊢
  have hl : lv_has ls 2 [(0, .ref h0), (1, .int p0)] := hl
  refine lv_iload_n hx hb dX12_goes_0 rfl (lv_at hl 1 rfl) ?_
  refine lv_iconst (v := 0) hx hb dX12_goes_1 (by decide) ?_
  refine lv_iconst (v := 3) hx hb dX12_goes_2 (by decide) ?_
  refine z_calli (wc := []) (wr := [(h0, .inr (12, [.ref h1, .ref h2, .ref h3, .ref h4, .ref h5, .ref h6, .ref h7, .ref h8, .ref h9, .int 0, .int 0, .int 10, .int 0, .int 0, .int (-9), .int 0, .ref h10, .ref h11, .ref h12, .ref h13, .int 0, .int 0, .int 0, .ref h14, .int 0, .int 0, .int 0, .int (-9), .int 0, .ref h15, .int 0, .int 0, .int 0, .ref h16, .ref h17, .ref h18, .int 0, .int 0])), (h1, .inl (cI, 7, .inl (fun _ => 0)))]) (w1 := (fun _ => [])) (va_runS (As := [.int p0, .int 0, .int 3]) (rest := []) ⟨hx, hb, hml, hown, hts⟩ (kX12_isIn_2 l dC dI cI cQ p0 hp0l hp0h s.heap.size) (va_cwS 3 hts gv_X12_goes_X12_isIn_100 rfl rfl rfl (by decide +kernel) ⟨Nat.le_of_ble_eq_true rfl, Nat.le_of_ble_eq_true rfl⟩) ⟨z_blind, z_pre hZ hP hD [] rfl (by decide)⟩ rfl rfl hl.1 rfl (lv_room (Nat.le_of_ble_eq_true rfl)) dX12_goes_3 ⟨Nat.le_of_ble_eq_true rfl, Nat.le_of_ble_eq_true rfl⟩) hP hD hS hA [] [0, 1] rfl rfl (by decide) (by decide) (fun _ H locs hP hD hS => ?_)
  have hP : va_P (dC, dI) vwCl [(h0, .inr (12, [.ref h1, .ref h2, .ref h3, .ref h4, .ref h5, .ref h6, .ref h7, .ref h8, .ref h9, .int 0, .int 0, .int 10, .int 0, .int 0, .int (-9), .int 0, .ref h10, .ref h11, .ref h12, .ref h13, .int 0, .int 0, .int 0, .ref h14, .int 0, .int 0, .int 0, .int (-9), .int 0, .ref h15, .int 0, .int 0, .int 0, .ref h16, .ref h17, .ref h18, .int 0, .int 0])), (h1, .inl (cI, 7, .inl (fun _ => 0)))] H := hP
  have hD : va_D A [(h0, .inr (12, [.ref h1, .ref h2, .ref h3, .ref h4, .ref h5, .ref h6, .ref h7, .ref h8, .ref h9, .int 0, .int 0, .int 10, .int 0, .int 0, .int (-9), .int 0, .ref h10, .ref h11, .ref h12, .ref h13, .int 0, .int 0, .int 0, .ref h14, .int 0, .int 0, .int 0, .int (-9), .int 0, .ref h15, .int 0, .int 0, .int 0, .ref h16, .ref h17, .ref h18, .int 0, .int 0])), (h1, .inl (cI, 7, .inl (fun _ => 0)))] := hD
  refine lv_if_ne (tgt := 16) hx hb dX12_goes_6 (by decide) (fun hc => ?_) (fun hc => ?_)
  · exact absurd hc (by decide)
  refine lv_aload_n hx hb dX12_goes_9 rfl (lv_at hl 0 rfl) ?_
  refine lv_bipush (v := (-2)) hx hb dX12_goes_10 (by decide) ?_
  refine z_calli (wc := [(h0, .inr (12, [.ref h1, .ref h2, .ref h3, .ref h4, .ref h5, .ref h6, .ref h7, .ref h8, .ref h9, .int 0, .int 0, .int 10, .int 0, .int 0, .int (-9), .int 0, .ref h10, .ref h11, .ref h12, .ref h13, .int 0, .int 0, .int 0, .ref h14, .int 0, .int 0, .int 0, .int (-9), .int 0, .ref h15, .int 0, .int 0, .int 0, .ref h16, .ref h17, .ref h18, .int 0, .int 0])), (h1, .inl (cI, 7, .inl (fun _ => 0)))]) (wr := []) (w1 := (fun _ => [(h0, .inr (12, [.ref h1, .ref h2, .ref h3, .ref h4, .ref h5, .ref h6, .ref h7, .ref h8, .ref h9, .int 0, .int 0, .int 10, .int 0, .int 0, .int (-9), .int 0, .ref h10, .ref h11, .ref h12, .ref h13, .int 0, .int 0, .int 0, .ref h14, .int 0, .int 0, .int 0, .int (-9), .int 0, .ref h15, .int 0, .int 0, .int 0, .ref h16, .ref h17, .ref h18, .int 0, .int 0])), (h1, .inl (cI, 7, .inl (upd (fun _ => 0) 2 1)))])) (va_runV (As := [.int (-2)]) (rest := []) ⟨hx, hb, hml, hown, hts⟩ (kX12_no_5 l dC dI cI cQ h0 h1 h2 h3 h4 h5 h6 h7 h8 h9 h10 h11 h12 h13 h14 h15 h16 h17 h18 H.size) (cwV 1 hts gv_X12_goes_X12_no_89 rfl rfl rfl (by decide +kernel) ⟨Nat.le_of_ble_eq_true rfl, Nat.le_of_ble_eq_true rfl⟩) ⟨z_blind, va_recv hK hP (ci := 12) (q0 := 0) rfl rfl, z_pre hZ hP hD [0, 1] rfl (by decide)⟩ rfl rfl hl.1 rfl (lv_room (Nat.le_of_ble_eq_true rfl)) dX12_goes_12 ⟨Nat.le_of_ble_eq_true rfl, Nat.le_of_ble_eq_true rfl⟩) hP hD hS hA [0, 1] [] rfl rfl (by decide) (by decide) (fun _ H locs hP hD hS => ?_)
  have hP : va_P (dC, dI) vwCl [(h0, .inr (12, [.ref h1, .ref h2, .ref h3, .ref h4, .ref h5, .ref h6, .ref h7, .ref h8, .ref h9, .int 0, .int 0, .int 10, .int 0, .int 0, .int (-9), .int 0, .ref h10, .ref h11, .ref h12, .ref h13, .int 0, .int 0, .int 0, .ref h14, .int 0, .int 0, .int 0, .int (-9), .int 0, .ref h15, .int 0, .int 0, .int 0, .ref h16, .ref h17, .ref h18, .int 0, .int 0])), (h1, .inl (cI, 7, .inl (upd (fun _ => 0) 2 1)))] H := hP
  have hD : va_D A [(h0, .inr (12, [.ref h1, .ref h2, .ref h3, .ref h4, .ref h5, .ref h6, .ref h7, .ref h8, .ref h9, .int 0, .int 0, .int 10, .int 0, .int 0, .int (-9), .int 0, .ref h10, .ref h11, .ref h12, .ref h13, .int 0, .int 0, .int 0, .ref h14, .int 0, .int 0, .int 0, .int (-9), .int 0, .ref h15, .int 0, .int 0, .int 0, .ref h16, .ref h17, .ref h18, .int 0, .int 0])), (h1, .inl (cI, 7, .inl (upd (fun _ => 0) 2 1)))] := hD
  have hP9 := hP.sub (ws' := []) [] rfl
  have hD9 := hD.sub (ws' := []) [] (by decide) rfl
  exact W.iret (v := (-2)) hx hb hr (fun t ht hW => ⟨⟨(-2), (fun k => [].getD k 0), rfl, rfl, by rw [ht]; exact hP9, hD9⟩, hS.F ht⟩) hS.2.2 dX12_goes_15
set_option maxHeartbeats 4000000 in
set_option maxRecDepth 100000 in
theorem kX12_follow (l : Launch) (dC : Nat → ClassId) (dI : Nat → Nat → Nat) (cI cQ : ClassId) (h0 h1 h2 h3 h4 h5 h6 h7 h8 h9 h10 h11 h12 h13 h14 h15 h16 h17 h18 : Nat) (p0 : Int32) (hp0l : -2147483648 ≤ p0.toInt) (hp0h : p0.toInt ≤ -1) (sz : Nat) : Met l yX12_follow vsX12_follow ({ frames := 1, cells := 0, slots := 0, locals := 21 }) (va_Pc [.ref h0, .int p0] (zB dC dI cI cQ [(h0, .inr (12, [.ref h1, .ref h2, .ref h3, .ref h4, .ref h5, .ref h6, .ref h7, .ref h8, .ref h9, .int 0, .int 0, .int 10, .int 0, .int 0, .int (-9), .int 0, .ref h10, .ref h11, .ref h12, .ref h13, .int 0, .int 0, .int 0, .ref h14, .int 0, .int 0, .int 0, .int (-9), .int 0, .ref h15, .int 0, .int 0, .int 0, .ref h16, .ref h17, .ref h18, .int 0, .int 0])), (h1, .inl (cI, 7, .inl (fun _ => 0)))] sz)) (zQi dC dI (va_A [(h0, .inr (12, [.ref h1, .ref h2, .ref h3, .ref h4, .ref h5, .ref h6, .ref h7, .ref h8, .ref h9, .int 0, .int 0, .int 10, .int 0, .int 0, .int (-9), .int 0, .ref h10, .ref h11, .ref h12, .ref h13, .int 0, .int 0, .int 0, .ref h14, .int 0, .int 0, .int 0, .int (-9), .int 0, .ref h15, .int 0, .int 0, .int 0, .ref h16, .ref h17, .ref h18, .int 0, .int 0])), (h1, .inl (cI, 7, .inl (fun _ => 0)))] sz) (fun ad => []) (-1)) 0 0 (va_A [(h0, .inr (12, [.ref h1, .ref h2, .ref h3, .ref h4, .ref h5, .ref h6, .ref h7, .ref h8, .ref h9, .int 0, .int 0, .int 10, .int 0, .int 0, .int (-9), .int 0, .ref h10, .ref h11, .ref h12, .ref h13, .int 0, .int 0, .int 0, .ref h14, .int 0, .int 0, .int 0, .int (-9), .int 0, .ref h15, .int 0, .int 0, .int 0, .ref h16, .ref h17, .ref h18, .int 0, .int 0])), (h1, .inl (cI, 7, .inl (fun _ => 0)))] sz) := by
  refine Met.ofW (cc := cX12_follow) (maxL := 2) (ret := (some .int)) (by decide) rfl ?_
  intro p e s m args below meth c s₁ B hml hv
  obtain ⟨rfl, hsz, hP, hZ, hD0⟩ := hv
  obtain ⟨hK, hAO, hN⟩ := id hZ
  have hx := B.exec
  have hb := B.bytes
  have hr := B.returns
  have hts := atoms_spec (ws := vsX12_follow) B.pre
  have hown : s.vm.findClass RX12 = some m.cls := findClass_of_methodNamed B.named
  have hlocks := B.notSynchronized
  subst hsz
  have hD := hD0.self (sz := s.heap.size)
  generalize hAe : va_A [(h0, .inr (12, [.ref h1, .ref h2, .ref h3, .ref h4, .ref h5, .ref h6, .ref h7, .ref h8, .ref h9, .int 0, .int 0, .int 10, .int 0, .int 0, .int (-9), .int 0, .ref h10, .ref h11, .ref h12, .ref h13, .int 0, .int 0, .int 0, .ref h14, .int 0, .int 0, .int 0, .int (-9), .int 0, .ref h15, .int 0, .int 0, .int 0, .ref h16, .ref h17, .ref h18, .int 0, .int 0])), (h1, .inl (cI, 7, .inl (fun _ => 0)))] s.heap.size = A at hD ⊢
  have hA : ∀ q : Nat, s.heap.size ≤ q → A q := fun q h => by rw [← hAe]; exact Or.inr h
  have hS : va_S A s.heap s.heap [] := va_S.rf
  have hP : va_P (dC, dI) vwCl [(h0, .inr (12, [.ref h1, .ref h2, .ref h3, .ref h4, .ref h5, .ref h6, .ref h7, .ref h8, .ref h9, .int 0, .int 0, .int 10, .int 0, .int 0, .int (-9), .int 0, .ref h10, .ref h11, .ref h12, .ref h13, .int 0, .int 0, .int 0, .ref h14, .int 0, .int 0, .int 0, .int (-9), .int 0, .ref h15, .int 0, .int 0, .int 0, .ref h16, .ref h17, .ref h18, .int 0, .int 0])), (h1, .inl (cI, 7, .inl (fun _ => 0)))] s.heap := hP
  have hl := lv_entry ([.ref h0, .int p0]) (n := 2) (Nat.le_of_ble_eq_true rfl)
  rw [lg_entry_eq]
  generalize (lg_sl ([.ref h0, .int p0]) ++ List.replicate (2 - (lg_sl ([.ref h0, .int p0])).length) Slot.unset).toArray = ls at hl ⊢
  have hl : lv_has ls 2 [(0, .ref h0), (1, .int p0)] := hl
  refine lv_aload_n hx hb dX12_follow_0 rfl (lv_at hl 0 rfl) ?_
  refine lv_iload_n hx hb dX12_follow_1 rfl (lv_at hl 1 rfl) ?_
  refine z_calli (wc := []) (wr := [(h0, .inr (12, [.ref h1, .ref h2, .ref h3, .ref h4, .ref h5, .ref h6, .ref h7, .ref h8, .ref h9, .int 0, .int 0, .int 10, .int 0, .int 0, .int (-9), .int 0, .ref h10, .ref h11, .ref h12, .ref h13, .int 0, .int 0, .int 0, .ref h14, .int 0, .int 0, .int 0, .int (-9), .int 0, .ref h15, .int 0, .int 0, .int 0, .ref h16, .ref h17, .ref h18, .int 0, .int 0])), (h1, .inl (cI, 7, .inl (fun _ => 0)))]) (w1 := (fun _ => [])) (va_runV (As := [.int p0]) (rest := []) ⟨hx, hb, hml, hown, hts⟩ (kX12_isLine l dC dI cI cQ h0 p0 hp0l hp0h s.heap.size) (cwV 1 hts gv_X12_follow_X12_isLine_169 rfl rfl rfl (by decide +kernel) ⟨Nat.le_of_ble_eq_true rfl, Nat.le_of_ble_eq_true rfl⟩) ⟨z_blind, va_recv hK hP (ci := 12) (q0 := 0) rfl rfl, z_pre hZ hP hD [] rfl (by decide)⟩ rfl rfl hl.1 rfl (lv_room (Nat.le_of_ble_eq_true rfl)) dX12_follow_2 ⟨Nat.le_of_ble_eq_true rfl, Nat.le_of_ble_eq_true rfl⟩) hP hD hS hA [] [0, 1] rfl rfl (by decide) (by decide) (fun _ H locs hP hD hS => ?_)
  have hP : va_P (dC, dI) vwCl [(h0, .inr (12, [.ref h1, .ref h2, .ref h3, .ref h4, .ref h5, .ref h6, .ref h7, .ref h8, .ref h9, .int 0, .int 0, .int 10, .int 0, .int 0, .int (-9), .int 0, .ref h10, .ref h11, .ref h12, .ref h13, .int 0, .int 0, .int 0, .ref h14, .int 0, .int 0, .int 0, .int (-9), .int 0, .ref h15, .int 0, .int 0, .int 0, .ref h16, .ref h17, .ref h18, .int 0, .int 0])), (h1, .inl (cI, 7, .inl (fun _ => 0)))] H := hP
  have hD : va_D A [(h0, .inr (12, [.ref h1, .ref h2, .ref h3, .ref h4, .ref h5, .ref h6, .ref h7, .ref h8, .ref h9, .int 0, .int 0, .int 10, .int 0, .int 0, .int (-9), .int 0, .ref h10, .ref h11, .ref h12, .ref h13, .int 0, .int 0, .int 0, .ref h14, .int 0, .int 0, .int 0, .int (-9), .int 0, .ref h15, .int 0, .int 0, .int 0, .ref h16, .ref h17, .ref h18, .int 0, .int 0])), (h1, .inl (cI, 7, .inl (fun _ => 0)))] := hD
  refine lv_if_eq (tgt := 16) hx hb dX12_follow_5 (by decide) (fun hc => ?_) (fun hc => ?_)
  rotate_left; exact absurd hc (by decide)
  refine lv_aload_n hx hb dX12_follow_16 rfl (lv_at hl 0 rfl) ?_
  refine lv_iconst (v := (-1)) hx hb dX12_follow_17 (by decide) ?_
  refine z_calli (wc := [(h0, .inr (12, [.ref h1, .ref h2, .ref h3, .ref h4, .ref h5, .ref h6, .ref h7, .ref h8, .ref h9, .int 0, .int 0, .int 10, .int 0, .int 0, .int (-9), .int 0, .ref h10, .ref h11, .ref h12, .ref h13, .int 0, .int 0, .int 0, .ref h14, .int 0, .int 0, .int 0, .int (-9), .int 0, .ref h15, .int 0, .int 0, .int 0, .ref h16, .ref h17, .ref h18, .int 0, .int 0])), (h1, .inl (cI, 7, .inl (fun _ => 0)))]) (wr := []) (w1 := (fun _ => [(h0, .inr (12, [.ref h1, .ref h2, .ref h3, .ref h4, .ref h5, .ref h6, .ref h7, .ref h8, .ref h9, .int 0, .int 0, .int 10, .int 0, .int 0, .int (-9), .int 0, .ref h10, .ref h11, .ref h12, .ref h13, .int 0, .int 0, .int 0, .ref h14, .int 0, .int 0, .int 0, .int (-9), .int 0, .ref h15, .int 0, .int 0, .int 0, .ref h16, .ref h17, .ref h18, .int 0, .int 0])), (h1, .inl (cI, 7, .inl (upd (fun _ => 0) 1 1)))])) (va_runV (As := [.int (-1)]) (rest := []) ⟨hx, hb, hml, hown, hts⟩ (kX12_no_2 l dC dI cI cQ h0 h1 h2 h3 h4 h5 h6 h7 h8 h9 h10 h11 h12 h13 h14 h15 h16 h17 h18 H.size) (cwV 1 hts gv_X12_follow_X12_no_89 rfl rfl rfl (by decide +kernel) ⟨Nat.le_of_ble_eq_true rfl, Nat.le_of_ble_eq_true rfl⟩) ⟨z_blind, va_recv hK hP (ci := 12) (q0 := 0) rfl rfl, z_pre hZ hP hD [0, 1] rfl (by decide)⟩ rfl rfl hl.1 rfl (lv_room (Nat.le_of_ble_eq_true rfl)) dX12_follow_18 ⟨Nat.le_of_ble_eq_true rfl, Nat.le_of_ble_eq_true rfl⟩) hP hD hS hA [0, 1] [] rfl rfl (by decide) (by decide) (fun _ H locs hP hD hS => ?_)
  have hP : va_P (dC, dI) vwCl [(h0, .inr (12, [.ref h1, .ref h2, .ref h3, .ref h4, .ref h5, .ref h6, .ref h7, .ref h8, .ref h9, .int 0, .int 0, .int 10, .int 0, .int 0, .int (-9), .int 0, .ref h10, .ref h11, .ref h12, .ref h13, .int 0, .int 0, .int 0, .ref h14, .int 0, .int 0, .int 0, .int (-9), .int 0, .ref h15, .int 0, .int 0, .int 0, .ref h16, .ref h17, .ref h18, .int 0, .int 0])), (h1, .inl (cI, 7, .inl (upd (fun _ => 0) 1 1)))] H := hP
  have hD : va_D A [(h0, .inr (12, [.ref h1, .ref h2, .ref h3, .ref h4, .ref h5, .ref h6, .ref h7, .ref h8, .ref h9, .int 0, .int 0, .int 10, .int 0, .int 0, .int (-9), .int 0, .ref h10, .ref h11, .ref h12, .ref h13, .int 0, .int 0, .int 0, .ref h14, .int 0, .int 0, .int 0, .int (-9), .int 0, .ref h15, .int 0, .int 0, .int 0, .ref h16, .ref h17, .ref h18, .int 0, .int 0])), (h1, .inl (cI, 7, .inl (upd (fun _ => 0) 1 1)))] := hD
  have hP9 := hP.sub (ws' := []) [] rfl
  have hD9 := hD.sub (ws' := []) [] (by decide) rfl
  exact W.iret (v := (-1)) hx hb hr (fun t ht hW => ⟨⟨(-1), (fun k => [].getD k 0), rfl, rfl, by rw [ht]; exact hP9, hD9⟩, hS.F ht⟩) hS.2.2 dX12_follow_21
set_option maxHeartbeats 4000000 in
set_option maxRecDepth 100000 in
theorem kX12_follow_1 (l : Launch) (dC : Nat → ClassId) (dI : Nat → Nat → Nat) (cI cQ : ClassId) (h0 h1 h2 h3 h4 h5 h6 h7 h8 h9 h10 h11 h12 h13 h14 h15 h16 h17 h18 : Nat) (p0 : Int32) (hp0l : 0 ≤ p0.toInt) (hp0h : p0.toInt ≤ 2147483647) (sz : Nat) : Met l yX12_follow vsX12_follow ({ frames := 1, cells := 0, slots := 0, locals := 21 }) (va_Pc [.ref h0, .int p0] (zB dC dI cI cQ [(h0, .inr (12, [.ref h1, .ref h2, .ref h3, .ref h4, .ref h5, .ref h6, .ref h7, .ref h8, .ref h9, .int 0, .int 0, .int 10, .int 0, .int 0, .int (-9), .int 0, .ref h10, .ref h11, .ref h12, .ref h13, .int 0, .int 0, .int 0, .ref h14, .int 0, .int 0, .int 0, .int (-9), .int 0, .ref h15, .int 0, .int 0, .int 0, .ref h16, .ref h17, .ref h18, .int 0, .int 0])), (h1, .inl (cI, 7, .inl (fun _ => 0)))] sz)) (zQi dC dI (va_A [(h0, .inr (12, [.ref h1, .ref h2, .ref h3, .ref h4, .ref h5, .ref h6, .ref h7, .ref h8, .ref h9, .int 0, .int 0, .int 10, .int 0, .int 0, .int (-9), .int 0, .ref h10, .ref h11, .ref h12, .ref h13, .int 0, .int 0, .int 0, .ref h14, .int 0, .int 0, .int 0, .int (-9), .int 0, .ref h15, .int 0, .int 0, .int 0, .ref h16, .ref h17, .ref h18, .int 0, .int 0])), (h1, .inl (cI, 7, .inl (fun _ => 0)))] sz) (fun ad => []) (-1)) 0 0 (va_A [(h0, .inr (12, [.ref h1, .ref h2, .ref h3, .ref h4, .ref h5, .ref h6, .ref h7, .ref h8, .ref h9, .int 0, .int 0, .int 10, .int 0, .int 0, .int (-9), .int 0, .ref h10, .ref h11, .ref h12, .ref h13, .int 0, .int 0, .int 0, .ref h14, .int 0, .int 0, .int 0, .int (-9), .int 0, .ref h15, .int 0, .int 0, .int 0, .ref h16, .ref h17, .ref h18, .int 0, .int 0])), (h1, .inl (cI, 7, .inl (fun _ => 0)))] sz) := by
  refine Met.ofW (cc := cX12_follow) (maxL := 2) (ret := (some .int)) (by decide) rfl ?_
  intro p e s m args below meth c s₁ B hml hv
  obtain ⟨rfl, hsz, hP, hZ, hD0⟩ := hv
  obtain ⟨hK, hAO, hN⟩ := id hZ
  have hx := B.exec
  have hb := B.bytes
  have hr := B.returns
  have hts := atoms_spec (ws := vsX12_follow) B.pre
  have hown : s.vm.findClass RX12 = some m.cls := findClass_of_methodNamed B.named
  have hlocks := B.notSynchronized
  subst hsz
  have hD := hD0.self (sz := s.heap.size)
  generalize hAe : va_A [(h0, .inr (12, [.ref h1, .ref h2, .ref h3, .ref h4, .ref h5, .ref h6, .ref h7, .ref h8, .ref h9, .int 0, .int 0, .int 10, .int 0, .int 0, .int (-9), .int 0, .ref h10, .ref h11, .ref h12, .ref h13, .int 0, .int 0, .int 0, .ref h14, .int 0, .int 0, .int 0, .int (-9), .int 0, .ref h15, .int 0, .int 0, .int 0, .ref h16, .ref h17, .ref h18, .int 0, .int 0])), (h1, .inl (cI, 7, .inl (fun _ => 0)))] s.heap.size = A at hD ⊢
  have hA : ∀ q : Nat, s.heap.size ≤ q → A q := fun q h => by rw [← hAe]; exact Or.inr h
  have hS : va_S A s.heap s.heap [] := va_S.rf
  have hP : va_P (dC, dI) vwCl [(h0, .inr (12, [.ref h1, .ref h2, .ref h3, .ref h4, .ref h5, .ref h6, .ref h7, .ref h8, .ref h9, .int 0, .int 0, .int 10, .int 0, .int 0, .int (-9), .int 0, .ref h10, .ref h11, .ref h12, .ref h13, .int 0, .int 0, .int 0, .ref h14, .int 0, .int 0, .int 0, .int (-9), .int 0, .ref h15, .int 0, .int 0, .int 0, .ref h16, .ref h17, .ref h18, .int 0, .int 0])), (h1, .inl (cI, 7, .inl (fun _ => 0)))] s.heap := hP
  have hl := lv_entry ([.ref h0, .int p0]) (n := 2) (Nat.le_of_ble_eq_true rfl)
  rw [lg_entry_eq]
  generalize (lg_sl ([.ref h0, .int p0]) ++ List.replicate (2 - (lg_sl ([.ref h0, .int p0])).length) Slot.unset).toArray = ls at hl ⊢
  have hl : lv_has ls 2 [(0, .ref h0), (1, .int p0)] := hl
  refine lv_aload_n hx hb dX12_follow_0 rfl (lv_at hl 0 rfl) ?_
  refine lv_iload_n hx hb dX12_follow_1 rfl (lv_at hl 1 rfl) ?_
  refine z_calli (wc := [(h0, .inr (12, [.ref h1, .ref h2, .ref h3, .ref h4, .ref h5, .ref h6, .ref h7, .ref h8, .ref h9, .int 0, .int 0, .int 10, .int 0, .int 0, .int (-9), .int 0, .ref h10, .ref h11, .ref h12, .ref h13, .int 0, .int 0, .int 0, .ref h14, .int 0, .int 0, .int 0, .int (-9), .int 0, .ref h15, .int 0, .int 0, .int 0, .ref h16, .ref h17, .ref h18, .int 0, .int 0]))]) (wr := [(h1, .inl (cI, 7, .inl (fun _ => 0)))]) (w1 := (fun _ => [(h0, .inr (12, [.ref h1, .ref h2, .ref h3, .ref h4, .ref h5, .ref h6, .ref h7, .ref h8, .ref h9, .int 0, .int 0, .int 10, .int 0, .int 0, .int (-9), .int 0, .ref h10, .ref h11, .ref h12, .ref h13, .int 0, .int 0, .int 0, .ref h14, .int 0, .int 0, .int 0, .int (-9), .int 0, .ref h15, .int 0, .int 0, .int 0, .ref h16, .ref h17, .ref h18, .int 0, .int 0]))])) (va_runV (As := [.int p0]) (rest := []) ⟨hx, hb, hml, hown, hts⟩ (kX12_isLine_1 l dC dI cI cQ h0 h1 h2 h3 h4 h5 h6 h7 h8 h9 h10 h11 h12 h13 h14 h15 h16 h17 h18 p0 hp0l hp0h s.heap.size) (cwV 1 hts gv_X12_follow_X12_isLine_169 rfl rfl rfl (by decide +kernel) ⟨Nat.le_of_ble_eq_true rfl, Nat.le_of_ble_eq_true rfl⟩) ⟨z_blind, va_recv hK hP (ci := 12) (q0 := 0) rfl rfl, z_pre hZ hP hD [0] rfl (by decide)⟩ rfl rfl hl.1 rfl (lv_room (Nat.le_of_ble_eq_true rfl)) dX12_follow_2 ⟨Nat.le_of_ble_eq_true rfl, Nat.le_of_ble_eq_true rfl⟩) hP hD hS hA [0] [1] rfl rfl (by decide) (by decide) (fun _ H locs hP hD hS => ?_)
  have hP : va_P (dC, dI) vwCl [(h1, .inl (cI, 7, .inl (fun _ => 0))), (h0, .inr (12, [.ref h1, .ref h2, .ref h3, .ref h4, .ref h5, .ref h6, .ref h7, .ref h8, .ref h9, .int 0, .int 0, .int 10, .int 0, .int 0, .int (-9), .int 0, .ref h10, .ref h11, .ref h12, .ref h13, .int 0, .int 0, .int 0, .ref h14, .int 0, .int 0, .int 0, .int (-9), .int 0, .ref h15, .int 0, .int 0, .int 0, .ref h16, .ref h17, .ref h18, .int 0, .int 0]))] H := hP
  have hD : va_D A [(h1, .inl (cI, 7, .inl (fun _ => 0))), (h0, .inr (12, [.ref h1, .ref h2, .ref h3, .ref h4, .ref h5, .ref h6, .ref h7, .ref h8, .ref h9, .int 0, .int 0, .int 10, .int 0, .int 0, .int (-9), .int 0, .ref h10, .ref h11, .ref h12, .ref h13, .int 0, .int 0, .int 0, .ref h14, .int 0, .int 0, .int 0, .int (-9), .int 0, .ref h15, .int 0, .int 0, .int 0, .ref h16, .ref h17, .ref h18, .int 0, .int 0]))] := hD
  refine lv_if_eq (tgt := 16) hx hb dX12_follow_5 (by decide) (fun hc => ?_) (fun hc => ?_)
  rotate_left; exact absurd hc (by decide)
  refine lv_aload_n hx hb dX12_follow_16 rfl (lv_at hl 0 rfl) ?_
  refine lv_iconst (v := (-1)) hx hb dX12_follow_17 (by decide) ?_
  refine z_calli (wc := [(h1, .inl (cI, 7, .inl (fun _ => 0))), (h0, .inr (12, [.ref h1, .ref h2, .ref h3, .ref h4, .ref h5, .ref h6, .ref h7, .ref h8, .ref h9, .int 0, .int 0, .int 10, .int 0, .int 0, .int (-9), .int 0, .ref h10, .ref h11, .ref h12, .ref h13, .int 0, .int 0, .int 0, .ref h14, .int 0, .int 0, .int 0, .int (-9), .int 0, .ref h15, .int 0, .int 0, .int 0, .ref h16, .ref h17, .ref h18, .int 0, .int 0]))]) (wr := []) (w1 := (fun _ => [(h1, .inl (cI, 7, .inl (upd (fun _ => 0) 1 1))), (h0, .inr (12, [.ref h1, .ref h2, .ref h3, .ref h4, .ref h5, .ref h6, .ref h7, .ref h8, .ref h9, .int 0, .int 0, .int 10, .int 0, .int 0, .int (-9), .int 0, .ref h10, .ref h11, .ref h12, .ref h13, .int 0, .int 0, .int 0, .ref h14, .int 0, .int 0, .int 0, .int (-9), .int 0, .ref h15, .int 0, .int 0, .int 0, .ref h16, .ref h17, .ref h18, .int 0, .int 0]))])) (va_runV (As := [.int (-1)]) (rest := []) ⟨hx, hb, hml, hown, hts⟩ (kX12_no_3 l dC dI cI cQ h0 h1 h2 h3 h4 h5 h6 h7 h8 h9 h10 h11 h12 h13 h14 h15 h16 h17 h18 H.size) (cwV 1 hts gv_X12_follow_X12_no_89 rfl rfl rfl (by decide +kernel) ⟨Nat.le_of_ble_eq_true rfl, Nat.le_of_ble_eq_true rfl⟩) ⟨z_blind, va_recv hK hP (ci := 12) (q0 := 1) rfl rfl, z_pre hZ hP hD [0, 1] rfl (by decide)⟩ rfl rfl hl.1 rfl (lv_room (Nat.le_of_ble_eq_true rfl)) dX12_follow_18 ⟨Nat.le_of_ble_eq_true rfl, Nat.le_of_ble_eq_true rfl⟩) hP hD hS hA [0, 1] [] rfl rfl (by decide) (by decide) (fun _ H locs hP hD hS => ?_)
  have hP : va_P (dC, dI) vwCl [(h1, .inl (cI, 7, .inl (upd (fun _ => 0) 1 1))), (h0, .inr (12, [.ref h1, .ref h2, .ref h3, .ref h4, .ref h5, .ref h6, .ref h7, .ref h8, .ref h9, .int 0, .int 0, .int 10, .int 0, .int 0, .int (-9), .int 0, .ref h10, .ref h11, .ref h12, .ref h13, .int 0, .int 0, .int 0, .ref h14, .int 0, .int 0, .int 0, .int (-9), .int 0, .ref h15, .int 0, .int 0, .int 0, .ref h16, .ref h17, .ref h18, .int 0, .int 0]))] H := hP
  have hD : va_D A [(h1, .inl (cI, 7, .inl (upd (fun _ => 0) 1 1))), (h0, .inr (12, [.ref h1, .ref h2, .ref h3, .ref h4, .ref h5, .ref h6, .ref h7, .ref h8, .ref h9, .int 0, .int 0, .int 10, .int 0, .int 0, .int (-9), .int 0, .ref h10, .ref h11, .ref h12, .ref h13, .int 0, .int 0, .int 0, .ref h14, .int 0, .int 0, .int 0, .int (-9), .int 0, .ref h15, .int 0, .int 0, .int 0, .ref h16, .ref h17, .ref h18, .int 0, .int 0]))] := hD
  have hP9 := hP.sub (ws' := []) [] rfl
  have hD9 := hD.sub (ws' := []) [] (by decide) rfl
  exact W.iret (v := (-1)) hx hb hr (fun t ht hW => ⟨⟨(-1), (fun k => [].getD k 0), rfl, rfl, by rw [ht]; exact hP9, hD9⟩, hS.F ht⟩) hS.2.2 dX12_follow_21
set_option maxHeartbeats 4000000 in
set_option maxRecDepth 100000 in
theorem kX12_net (l : Launch) (dC : Nat → ClassId) (dI : Nat → Nat → Nat) (cI cQ : ClassId) (h0 h1 h2 h3 h4 h5 h6 h7 h8 h9 h10 h11 h12 h13 h14 h15 h16 h17 h18 : Nat) (p0 : Int32) (hp0l : -2147483648 ≤ p0.toInt) (hp0h : p0.toInt ≤ -1) (sz : Nat) : Met l yX12_net vsX12_net ({ frames := 1, cells := 0, slots := 0, locals := 22 }) (va_Pc [.ref h0, .int p0] (zB dC dI cI cQ [(h0, .inr (12, [.ref h1, .ref h2, .ref h3, .ref h4, .ref h5, .ref h6, .ref h7, .ref h8, .ref h9, .int 0, .int 0, .int 10, .int 0, .int 0, .int (-9), .int 0, .ref h10, .ref h11, .ref h12, .ref h13, .int 0, .int 0, .int 0, .ref h14, .int 0, .int 0, .int 0, .int (-9), .int 0, .ref h15, .int 0, .int 0, .int 0, .ref h16, .ref h17, .ref h18, .int 0, .int 0])), (h1, .inl (cI, 7, .inl (fun _ => 0)))] sz)) (zQi dC dI (va_A [(h0, .inr (12, [.ref h1, .ref h2, .ref h3, .ref h4, .ref h5, .ref h6, .ref h7, .ref h8, .ref h9, .int 0, .int 0, .int 10, .int 0, .int 0, .int (-9), .int 0, .ref h10, .ref h11, .ref h12, .ref h13, .int 0, .int 0, .int 0, .ref h14, .int 0, .int 0, .int 0, .int (-9), .int 0, .ref h15, .int 0, .int 0, .int 0, .ref h16, .ref h17, .ref h18, .int 0, .int 0])), (h1, .inl (cI, 7, .inl (fun _ => 0)))] sz) (fun ad => []) (-2)) 0 0 (va_A [(h0, .inr (12, [.ref h1, .ref h2, .ref h3, .ref h4, .ref h5, .ref h6, .ref h7, .ref h8, .ref h9, .int 0, .int 0, .int 10, .int 0, .int 0, .int (-9), .int 0, .ref h10, .ref h11, .ref h12, .ref h13, .int 0, .int 0, .int 0, .ref h14, .int 0, .int 0, .int 0, .int (-9), .int 0, .ref h15, .int 0, .int 0, .int 0, .ref h16, .ref h17, .ref h18, .int 0, .int 0])), (h1, .inl (cI, 7, .inl (fun _ => 0)))] sz) := by
  refine Met.ofW (cc := cX12_net) (maxL := 2) (ret := (some .int)) (by decide) rfl ?_
  intro p e s m args below meth c s₁ B hml hv
  obtain ⟨rfl, hsz, hP, hZ, hD0⟩ := hv
  obtain ⟨hK, hAO, hN⟩ := id hZ
  have hx := B.exec
  have hb := B.bytes
  have hr := B.returns
  have hts := atoms_spec (ws := vsX12_net) B.pre
  have hown : s.vm.findClass RX12 = some m.cls := findClass_of_methodNamed B.named
  have hlocks := B.notSynchronized
  subst hsz
  have hD := hD0.self (sz := s.heap.size)
  generalize hAe : va_A [(h0, .inr (12, [.ref h1, .ref h2, .ref h3, .ref h4, .ref h5, .ref h6, .ref h7, .ref h8, .ref h9, .int 0, .int 0, .int 10, .int 0, .int 0, .int (-9), .int 0, .ref h10, .ref h11, .ref h12, .ref h13, .int 0, .int 0, .int 0, .ref h14, .int 0, .int 0, .int 0, .int (-9), .int 0, .ref h15, .int 0, .int 0, .int 0, .ref h16, .ref h17, .ref h18, .int 0, .int 0])), (h1, .inl (cI, 7, .inl (fun _ => 0)))] s.heap.size = A at hD ⊢
  have hA : ∀ q : Nat, s.heap.size ≤ q → A q := fun q h => by rw [← hAe]; exact Or.inr h
  have hS : va_S A s.heap s.heap [] := va_S.rf
  have hP : va_P (dC, dI) vwCl [(h0, .inr (12, [.ref h1, .ref h2, .ref h3, .ref h4, .ref h5, .ref h6, .ref h7, .ref h8, .ref h9, .int 0, .int 0, .int 10, .int 0, .int 0, .int (-9), .int 0, .ref h10, .ref h11, .ref h12, .ref h13, .int 0, .int 0, .int 0, .ref h14, .int 0, .int 0, .int 0, .int (-9), .int 0, .ref h15, .int 0, .int 0, .int 0, .ref h16, .ref h17, .ref h18, .int 0, .int 0])), (h1, .inl (cI, 7, .inl (fun _ => 0)))] s.heap := hP
  have hl := lv_entry ([.ref h0, .int p0]) (n := 2) (Nat.le_of_ble_eq_true rfl)
  rw [lg_entry_eq]
  generalize (lg_sl ([.ref h0, .int p0]) ++ List.replicate (2 - (lg_sl ([.ref h0, .int p0])).length) Slot.unset).toArray = ls at hl ⊢
  have hl : lv_has ls 2 [(0, .ref h0), (1, .int p0)] := hl
  refine lv_iload_n hx hb dX12_net_0 rfl (lv_at hl 1 rfl) ?_
  refine lv_iconst (v := 0) hx hb dX12_net_1 (by decide) ?_
  refine lv_iconst (v := 3) hx hb dX12_net_2 (by decide) ?_
  refine z_calli (wc := []) (wr := [(h0, .inr (12, [.ref h1, .ref h2, .ref h3, .ref h4, .ref h5, .ref h6, .ref h7, .ref h8, .ref h9, .int 0, .int 0, .int 10, .int 0, .int 0, .int (-9), .int 0, .ref h10, .ref h11, .ref h12, .ref h13, .int 0, .int 0, .int 0, .ref h14, .int 0, .int 0, .int 0, .int (-9), .int 0, .ref h15, .int 0, .int 0, .int 0, .ref h16, .ref h17, .ref h18, .int 0, .int 0])), (h1, .inl (cI, 7, .inl (fun _ => 0)))]) (w1 := (fun _ => [])) (va_runS (As := [.int p0, .int 0, .int 3]) (rest := []) ⟨hx, hb, hml, hown, hts⟩ (kX12_isIn l dC dI cI cQ p0 hp0l hp0h s.heap.size) (va_cwS 3 hts gv_X12_net_X12_isIn_100 rfl rfl rfl (by decide +kernel) ⟨Nat.le_of_ble_eq_true rfl, Nat.le_of_ble_eq_true rfl⟩) ⟨z_blind, z_pre hZ hP hD [] rfl (by decide)⟩ rfl rfl hl.1 rfl (lv_room (Nat.le_of_ble_eq_true rfl)) dX12_net_3 ⟨Nat.le_of_ble_eq_true rfl, Nat.le_of_ble_eq_true rfl⟩) hP hD hS hA [] [0, 1] rfl rfl (by decide) (by decide) (fun _ H locs hP hD hS => ?_)
  have hP : va_P (dC, dI) vwCl [(h0, .inr (12, [.ref h1, .ref h2, .ref h3, .ref h4, .ref h5, .ref h6, .ref h7, .ref h8, .ref h9, .int 0, .int 0, .int 10, .int 0, .int 0, .int (-9), .int 0, .ref h10, .ref h11, .ref h12, .ref h13, .int 0, .int 0, .int 0, .ref h14, .int 0, .int 0, .int 0, .int (-9), .int 0, .ref h15, .int 0, .int 0, .int 0, .ref h16, .ref h17, .ref h18, .int 0, .int 0])), (h1, .inl (cI, 7, .inl (fun _ => 0)))] H := hP
  have hD : va_D A [(h0, .inr (12, [.ref h1, .ref h2, .ref h3, .ref h4, .ref h5, .ref h6, .ref h7, .ref h8, .ref h9, .int 0, .int 0, .int 10, .int 0, .int 0, .int (-9), .int 0, .ref h10, .ref h11, .ref h12, .ref h13, .int 0, .int 0, .int 0, .ref h14, .int 0, .int 0, .int 0, .int (-9), .int 0, .ref h15, .int 0, .int 0, .int 0, .ref h16, .ref h17, .ref h18, .int 0, .int 0])), (h1, .inl (cI, 7, .inl (fun _ => 0)))] := hD
  refine lv_if_ne (tgt := 16) hx hb dX12_net_6 (by decide) (fun hc => ?_) (fun hc => ?_)
  · exact absurd hc (by decide)
  refine lv_aload_n hx hb dX12_net_9 rfl (lv_at hl 0 rfl) ?_
  refine lv_bipush (v := (-2)) hx hb dX12_net_10 (by decide) ?_
  refine z_calli (wc := [(h0, .inr (12, [.ref h1, .ref h2, .ref h3, .ref h4, .ref h5, .ref h6, .ref h7, .ref h8, .ref h9, .int 0, .int 0, .int 10, .int 0, .int 0, .int (-9), .int 0, .ref h10, .ref h11, .ref h12, .ref h13, .int 0, .int 0, .int 0, .ref h14, .int 0, .int 0, .int 0, .int (-9), .int 0, .ref h15, .int 0, .int 0, .int 0, .ref h16, .ref h17, .ref h18, .int 0, .int 0])), (h1, .inl (cI, 7, .inl (fun _ => 0)))]) (wr := []) (w1 := (fun _ => [(h0, .inr (12, [.ref h1, .ref h2, .ref h3, .ref h4, .ref h5, .ref h6, .ref h7, .ref h8, .ref h9, .int 0, .int 0, .int 10, .int 0, .int 0, .int (-9), .int 0, .ref h10, .ref h11, .ref h12, .ref h13, .int 0, .int 0, .int 0, .ref h14, .int 0, .int 0, .int 0, .int (-9), .int 0, .ref h15, .int 0, .int 0, .int 0, .ref h16, .ref h17, .ref h18, .int 0, .int 0])), (h1, .inl (cI, 7, .inl (upd (fun _ => 0) 2 1)))])) (va_runV (As := [.int (-2)]) (rest := []) ⟨hx, hb, hml, hown, hts⟩ (kX12_no_5 l dC dI cI cQ h0 h1 h2 h3 h4 h5 h6 h7 h8 h9 h10 h11 h12 h13 h14 h15 h16 h17 h18 H.size) (cwV 1 hts gv_X12_net_X12_no_89 rfl rfl rfl (by decide +kernel) ⟨Nat.le_of_ble_eq_true rfl, Nat.le_of_ble_eq_true rfl⟩) ⟨z_blind, va_recv hK hP (ci := 12) (q0 := 0) rfl rfl, z_pre hZ hP hD [0, 1] rfl (by decide)⟩ rfl rfl hl.1 rfl (lv_room (Nat.le_of_ble_eq_true rfl)) dX12_net_12 ⟨Nat.le_of_ble_eq_true rfl, Nat.le_of_ble_eq_true rfl⟩) hP hD hS hA [0, 1] [] rfl rfl (by decide) (by decide) (fun _ H locs hP hD hS => ?_)
  have hP : va_P (dC, dI) vwCl [(h0, .inr (12, [.ref h1, .ref h2, .ref h3, .ref h4, .ref h5, .ref h6, .ref h7, .ref h8, .ref h9, .int 0, .int 0, .int 10, .int 0, .int 0, .int (-9), .int 0, .ref h10, .ref h11, .ref h12, .ref h13, .int 0, .int 0, .int 0, .ref h14, .int 0, .int 0, .int 0, .int (-9), .int 0, .ref h15, .int 0, .int 0, .int 0, .ref h16, .ref h17, .ref h18, .int 0, .int 0])), (h1, .inl (cI, 7, .inl (upd (fun _ => 0) 2 1)))] H := hP
  have hD : va_D A [(h0, .inr (12, [.ref h1, .ref h2, .ref h3, .ref h4, .ref h5, .ref h6, .ref h7, .ref h8, .ref h9, .int 0, .int 0, .int 10, .int 0, .int 0, .int (-9), .int 0, .ref h10, .ref h11, .ref h12, .ref h13, .int 0, .int 0, .int 0, .ref h14, .int 0, .int 0, .int 0, .int (-9), .int 0, .ref h15, .int 0, .int 0, .int 0, .ref h16, .ref h17, .ref h18, .int 0, .int 0])), (h1, .inl (cI, 7, .inl (upd (fun _ => 0) 2 1)))] := hD
  have hP9 := hP.sub (ws' := []) [] rfl
  have hD9 := hD.sub (ws' := []) [] (by decide) rfl
  exact W.iret (v := (-2)) hx hb hr (fun t ht hW => ⟨⟨(-2), (fun k => [].getD k 0), rfl, rfl, by rw [ht]; exact hP9, hD9⟩, hS.F ht⟩) hS.2.2 dX12_net_15
set_option maxHeartbeats 4000000 in
set_option maxRecDepth 100000 in
theorem kX12_net_1 (l : Launch) (dC : Nat → ClassId) (dI : Nat → Nat → Nat) (cI cQ : ClassId) (h0 h1 h2 h3 h4 h5 h6 h7 h8 h9 h10 h11 h12 h13 h14 h15 h16 h17 h18 : Nat) (p0 : Int32) (hp0l : 0 ≤ p0.toInt) (hp0h : p0.toInt ≤ 3) (sz : Nat) : Met l yX12_net vsX12_net ({ frames := 1, cells := 0, slots := 0, locals := 22 }) (va_Pc [.ref h0, .int p0] (zB dC dI cI cQ [(h0, .inr (12, [.ref h1, .ref h2, .ref h3, .ref h4, .ref h5, .ref h6, .ref h7, .ref h8, .ref h9, .int 0, .int 0, .int 10, .int 0, .int 0, .int (-9), .int 0, .ref h10, .ref h11, .ref h12, .ref h13, .int 0, .int 0, .int 0, .ref h14, .int 0, .int 0, .int 0, .int (-9), .int 0, .ref h15, .int 0, .int 0, .int 0, .ref h16, .ref h17, .ref h18, .int 0, .int 0])), (h1, .inl (cI, 7, .inl (fun _ => 0)))] sz)) (zQi dC dI (va_A [(h0, .inr (12, [.ref h1, .ref h2, .ref h3, .ref h4, .ref h5, .ref h6, .ref h7, .ref h8, .ref h9, .int 0, .int 0, .int 10, .int 0, .int 0, .int (-9), .int 0, .ref h10, .ref h11, .ref h12, .ref h13, .int 0, .int 0, .int 0, .ref h14, .int 0, .int 0, .int 0, .int (-9), .int 0, .ref h15, .int 0, .int 0, .int 0, .ref h16, .ref h17, .ref h18, .int 0, .int 0])), (h1, .inl (cI, 7, .inl (fun _ => 0)))] sz) (fun ad => []) (-3)) 0 0 (va_A [(h0, .inr (12, [.ref h1, .ref h2, .ref h3, .ref h4, .ref h5, .ref h6, .ref h7, .ref h8, .ref h9, .int 0, .int 0, .int 10, .int 0, .int 0, .int (-9), .int 0, .ref h10, .ref h11, .ref h12, .ref h13, .int 0, .int 0, .int 0, .ref h14, .int 0, .int 0, .int 0, .int (-9), .int 0, .ref h15, .int 0, .int 0, .int 0, .ref h16, .ref h17, .ref h18, .int 0, .int 0])), (h1, .inl (cI, 7, .inl (fun _ => 0)))] sz) := by
  refine Met.ofW (cc := cX12_net) (maxL := 2) (ret := (some .int)) (by decide) rfl ?_
  intro p e s m args below meth c s₁ B hml hv
  obtain ⟨rfl, hsz, hP, hZ, hD0⟩ := hv
  obtain ⟨hK, hAO, hN⟩ := id hZ
  have hx := B.exec
  have hb := B.bytes
  have hr := B.returns
  have hts := atoms_spec (ws := vsX12_net) B.pre
  have hown : s.vm.findClass RX12 = some m.cls := findClass_of_methodNamed B.named
  have hlocks := B.notSynchronized
  subst hsz
  have hD := hD0.self (sz := s.heap.size)
  generalize hAe : va_A [(h0, .inr (12, [.ref h1, .ref h2, .ref h3, .ref h4, .ref h5, .ref h6, .ref h7, .ref h8, .ref h9, .int 0, .int 0, .int 10, .int 0, .int 0, .int (-9), .int 0, .ref h10, .ref h11, .ref h12, .ref h13, .int 0, .int 0, .int 0, .ref h14, .int 0, .int 0, .int 0, .int (-9), .int 0, .ref h15, .int 0, .int 0, .int 0, .ref h16, .ref h17, .ref h18, .int 0, .int 0])), (h1, .inl (cI, 7, .inl (fun _ => 0)))] s.heap.size = A at hD ⊢
  have hA : ∀ q : Nat, s.heap.size ≤ q → A q := fun q h => by rw [← hAe]; exact Or.inr h
  have hS : va_S A s.heap s.heap [] := va_S.rf
  have hP : va_P (dC, dI) vwCl [(h0, .inr (12, [.ref h1, .ref h2, .ref h3, .ref h4, .ref h5, .ref h6, .ref h7, .ref h8, .ref h9, .int 0, .int 0, .int 10, .int 0, .int 0, .int (-9), .int 0, .ref h10, .ref h11, .ref h12, .ref h13, .int 0, .int 0, .int 0, .ref h14, .int 0, .int 0, .int 0, .int (-9), .int 0, .ref h15, .int 0, .int 0, .int 0, .ref h16, .ref h17, .ref h18, .int 0, .int 0])), (h1, .inl (cI, 7, .inl (fun _ => 0)))] s.heap := hP
  have hl := lv_entry ([.ref h0, .int p0]) (n := 2) (Nat.le_of_ble_eq_true rfl)
  rw [lg_entry_eq]
  generalize (lg_sl ([.ref h0, .int p0]) ++ List.replicate (2 - (lg_sl ([.ref h0, .int p0])).length) Slot.unset).toArray = ls at hl ⊢
  have hl : lv_has ls 2 [(0, .ref h0), (1, .int p0)] := hl
  refine lv_iload_n hx hb dX12_net_0 rfl (lv_at hl 1 rfl) ?_
  refine lv_iconst (v := 0) hx hb dX12_net_1 (by decide) ?_
  refine lv_iconst (v := 3) hx hb dX12_net_2 (by decide) ?_
  refine z_calli (wc := []) (wr := [(h0, .inr (12, [.ref h1, .ref h2, .ref h3, .ref h4, .ref h5, .ref h6, .ref h7, .ref h8, .ref h9, .int 0, .int 0, .int 10, .int 0, .int 0, .int (-9), .int 0, .ref h10, .ref h11, .ref h12, .ref h13, .int 0, .int 0, .int 0, .ref h14, .int 0, .int 0, .int 0, .int (-9), .int 0, .ref h15, .int 0, .int 0, .int 0, .ref h16, .ref h17, .ref h18, .int 0, .int 0])), (h1, .inl (cI, 7, .inl (fun _ => 0)))]) (w1 := (fun _ => [])) (va_runS (As := [.int p0, .int 0, .int 3]) (rest := []) ⟨hx, hb, hml, hown, hts⟩ (kX12_isIn_1 l dC dI cI cQ p0 hp0l hp0h s.heap.size) (va_cwS 3 hts gv_X12_net_X12_isIn_100 rfl rfl rfl (by decide +kernel) ⟨Nat.le_of_ble_eq_true rfl, Nat.le_of_ble_eq_true rfl⟩) ⟨z_blind, z_pre hZ hP hD [] rfl (by decide)⟩ rfl rfl hl.1 rfl (lv_room (Nat.le_of_ble_eq_true rfl)) dX12_net_3 ⟨Nat.le_of_ble_eq_true rfl, Nat.le_of_ble_eq_true rfl⟩) hP hD hS hA [] [0, 1] rfl rfl (by decide) (by decide) (fun _ H locs hP hD hS => ?_)
  have hP : va_P (dC, dI) vwCl [(h0, .inr (12, [.ref h1, .ref h2, .ref h3, .ref h4, .ref h5, .ref h6, .ref h7, .ref h8, .ref h9, .int 0, .int 0, .int 10, .int 0, .int 0, .int (-9), .int 0, .ref h10, .ref h11, .ref h12, .ref h13, .int 0, .int 0, .int 0, .ref h14, .int 0, .int 0, .int 0, .int (-9), .int 0, .ref h15, .int 0, .int 0, .int 0, .ref h16, .ref h17, .ref h18, .int 0, .int 0])), (h1, .inl (cI, 7, .inl (fun _ => 0)))] H := hP
  have hD : va_D A [(h0, .inr (12, [.ref h1, .ref h2, .ref h3, .ref h4, .ref h5, .ref h6, .ref h7, .ref h8, .ref h9, .int 0, .int 0, .int 10, .int 0, .int 0, .int (-9), .int 0, .ref h10, .ref h11, .ref h12, .ref h13, .int 0, .int 0, .int 0, .ref h14, .int 0, .int 0, .int 0, .int (-9), .int 0, .ref h15, .int 0, .int 0, .int 0, .ref h16, .ref h17, .ref h18, .int 0, .int 0])), (h1, .inl (cI, 7, .inl (fun _ => 0)))] := hD
  refine lv_if_ne (tgt := 16) hx hb dX12_net_6 (by decide) (fun hc => ?_) (fun hc => ?_)
  rotate_left; exact absurd hc (by decide)
  refine lv_aload_n hx hb dX12_net_16 rfl (lv_at hl 0 rfl) ?_
  refine va_get (D := (dC, dI)) (ci := 12) (v := .int 0) (C := RX12) (T := TX12) (N := 38) hx hb hts in_X12_net_X12 hown hK hP 0 rfl rfl 10 (by decide) (hts (.fieldLink RX12 79 "EachOnHisCueModel" "lines" "I") (by decide +kernel)) (fun _ h9 => h9) rfl dX12_net_17 ?_
  refine lv_if_ne (tgt := 30) hx hb dX12_net_20 (by decide) (fun hc => ?_) (fun hc => ?_)
  · exact absurd hc (by decide)
  refine lv_aload_n hx hb dX12_net_23 rfl (lv_at hl 0 rfl) ?_
  refine lv_bipush (v := (-3)) hx hb dX12_net_24 (by decide) ?_
  refine z_calli (wc := [(h0, .inr (12, [.ref h1, .ref h2, .ref h3, .ref h4, .ref h5, .ref h6, .ref h7, .ref h8, .ref h9, .int 0, .int 0, .int 10, .int 0, .int 0, .int (-9), .int 0, .ref h10, .ref h11, .ref h12, .ref h13, .int 0, .int 0, .int 0, .ref h14, .int 0, .int 0, .int 0, .int (-9), .int 0, .ref h15, .int 0, .int 0, .int 0, .ref h16, .ref h17, .ref h18, .int 0, .int 0])), (h1, .inl (cI, 7, .inl (fun _ => 0)))]) (wr := []) (w1 := (fun _ => [(h0, .inr (12, [.ref h1, .ref h2, .ref h3, .ref h4, .ref h5, .ref h6, .ref h7, .ref h8, .ref h9, .int 0, .int 0, .int 10, .int 0, .int 0, .int (-9), .int 0, .ref h10, .ref h11, .ref h12, .ref h13, .int 0, .int 0, .int 0, .ref h14, .int 0, .int 0, .int 0, .int (-9), .int 0, .ref h15, .int 0, .int 0, .int 0, .ref h16, .ref h17, .ref h18, .int 0, .int 0])), (h1, .inl (cI, 7, .inl (upd (fun _ => 0) 3 1)))])) (va_runV (As := [.int (-3)]) (rest := []) ⟨hx, hb, hml, hown, hts⟩ (kX12_no_4 l dC dI cI cQ h0 h1 h2 h3 h4 h5 h6 h7 h8 h9 h10 h11 h12 h13 h14 h15 h16 h17 h18 H.size) (cwV 1 hts gv_X12_net_X12_no_89 rfl rfl rfl (by decide +kernel) ⟨Nat.le_of_ble_eq_true rfl, Nat.le_of_ble_eq_true rfl⟩) ⟨z_blind, va_recv hK hP (ci := 12) (q0 := 0) rfl rfl, z_pre hZ hP hD [0, 1] rfl (by decide)⟩ rfl rfl hl.1 rfl (lv_room (Nat.le_of_ble_eq_true rfl)) dX12_net_26 ⟨Nat.le_of_ble_eq_true rfl, Nat.le_of_ble_eq_true rfl⟩) hP hD hS hA [0, 1] [] rfl rfl (by decide) (by decide) (fun _ H locs hP hD hS => ?_)
  have hP : va_P (dC, dI) vwCl [(h0, .inr (12, [.ref h1, .ref h2, .ref h3, .ref h4, .ref h5, .ref h6, .ref h7, .ref h8, .ref h9, .int 0, .int 0, .int 10, .int 0, .int 0, .int (-9), .int 0, .ref h10, .ref h11, .ref h12, .ref h13, .int 0, .int 0, .int 0, .ref h14, .int 0, .int 0, .int 0, .int (-9), .int 0, .ref h15, .int 0, .int 0, .int 0, .ref h16, .ref h17, .ref h18, .int 0, .int 0])), (h1, .inl (cI, 7, .inl (upd (fun _ => 0) 3 1)))] H := hP
  have hD : va_D A [(h0, .inr (12, [.ref h1, .ref h2, .ref h3, .ref h4, .ref h5, .ref h6, .ref h7, .ref h8, .ref h9, .int 0, .int 0, .int 10, .int 0, .int 0, .int (-9), .int 0, .ref h10, .ref h11, .ref h12, .ref h13, .int 0, .int 0, .int 0, .ref h14, .int 0, .int 0, .int 0, .int (-9), .int 0, .ref h15, .int 0, .int 0, .int 0, .ref h16, .ref h17, .ref h18, .int 0, .int 0])), (h1, .inl (cI, 7, .inl (upd (fun _ => 0) 3 1)))] := hD
  have hP9 := hP.sub (ws' := []) [] rfl
  have hD9 := hD.sub (ws' := []) [] (by decide) rfl
  exact W.iret (v := (-3)) hx hb hr (fun t ht hW => ⟨⟨(-3), (fun k => [].getD k 0), rfl, rfl, by rw [ht]; exact hP9, hD9⟩, hS.F ht⟩) hS.2.2 dX12_net_29
set_option maxHeartbeats 4000000 in
set_option maxRecDepth 100000 in
theorem kX12_net_2 (l : Launch) (dC : Nat → ClassId) (dI : Nat → Nat → Nat) (cI cQ : ClassId) (h0 h1 h2 h3 h4 h5 h6 h7 h8 h9 h10 h11 h12 h13 h14 h15 h16 h17 h18 : Nat) (p0 : Int32) (hp0l : 4 ≤ p0.toInt) (hp0h : p0.toInt ≤ 2147483647) (sz : Nat) : Met l yX12_net vsX12_net ({ frames := 1, cells := 0, slots := 0, locals := 22 }) (va_Pc [.ref h0, .int p0] (zB dC dI cI cQ [(h0, .inr (12, [.ref h1, .ref h2, .ref h3, .ref h4, .ref h5, .ref h6, .ref h7, .ref h8, .ref h9, .int 0, .int 0, .int 10, .int 0, .int 0, .int (-9), .int 0, .ref h10, .ref h11, .ref h12, .ref h13, .int 0, .int 0, .int 0, .ref h14, .int 0, .int 0, .int 0, .int (-9), .int 0, .ref h15, .int 0, .int 0, .int 0, .ref h16, .ref h17, .ref h18, .int 0, .int 0])), (h1, .inl (cI, 7, .inl (fun _ => 0)))] sz)) (zQi dC dI (va_A [(h0, .inr (12, [.ref h1, .ref h2, .ref h3, .ref h4, .ref h5, .ref h6, .ref h7, .ref h8, .ref h9, .int 0, .int 0, .int 10, .int 0, .int 0, .int (-9), .int 0, .ref h10, .ref h11, .ref h12, .ref h13, .int 0, .int 0, .int 0, .ref h14, .int 0, .int 0, .int 0, .int (-9), .int 0, .ref h15, .int 0, .int 0, .int 0, .ref h16, .ref h17, .ref h18, .int 0, .int 0])), (h1, .inl (cI, 7, .inl (fun _ => 0)))] sz) (fun ad => []) (-2)) 0 0 (va_A [(h0, .inr (12, [.ref h1, .ref h2, .ref h3, .ref h4, .ref h5, .ref h6, .ref h7, .ref h8, .ref h9, .int 0, .int 0, .int 10, .int 0, .int 0, .int (-9), .int 0, .ref h10, .ref h11, .ref h12, .ref h13, .int 0, .int 0, .int 0, .ref h14, .int 0, .int 0, .int 0, .int (-9), .int 0, .ref h15, .int 0, .int 0, .int 0, .ref h16, .ref h17, .ref h18, .int 0, .int 0])), (h1, .inl (cI, 7, .inl (fun _ => 0)))] sz) := by
  refine Met.ofW (cc := cX12_net) (maxL := 2) (ret := (some .int)) (by decide) rfl ?_
  intro p e s m args below meth c s₁ B hml hv
  obtain ⟨rfl, hsz, hP, hZ, hD0⟩ := hv
  obtain ⟨hK, hAO, hN⟩ := id hZ
  have hx := B.exec
  have hb := B.bytes
  have hr := B.returns
  have hts := atoms_spec (ws := vsX12_net) B.pre
  have hown : s.vm.findClass RX12 = some m.cls := findClass_of_methodNamed B.named
  have hlocks := B.notSynchronized
  subst hsz
  have hD := hD0.self (sz := s.heap.size)
  generalize hAe : va_A [(h0, .inr (12, [.ref h1, .ref h2, .ref h3, .ref h4, .ref h5, .ref h6, .ref h7, .ref h8, .ref h9, .int 0, .int 0, .int 10, .int 0, .int 0, .int (-9), .int 0, .ref h10, .ref h11, .ref h12, .ref h13, .int 0, .int 0, .int 0, .ref h14, .int 0, .int 0, .int 0, .int (-9), .int 0, .ref h15, .int 0, .int 0, .int 0, .ref h16, .ref h17, .ref h18, .int 0, .int 0])), (h1, .inl (cI, 7, .inl (fun _ => 0)))] s.heap.size = A at hD ⊢
  have hA : ∀ q : Nat, s.heap.size ≤ q → A q := fun q h => by rw [← hAe]; exact Or.inr h
  have hS : va_S A s.heap s.heap [] := va_S.rf
  have hP : va_P (dC, dI) vwCl [(h0, .inr (12, [.ref h1, .ref h2, .ref h3, .ref h4, .ref h5, .ref h6, .ref h7, .ref h8, .ref h9, .int 0, .int 0, .int 10, .int 0, .int 0, .int (-9), .int 0, .ref h10, .ref h11, .ref h12, .ref h13, .int 0, .int 0, .int 0, .ref h14, .int 0, .int 0, .int 0, .int (-9), .int 0, .ref h15, .int 0, .int 0, .int 0, .ref h16, .ref h17, .ref h18, .int 0, .int 0])), (h1, .inl (cI, 7, .inl (fun _ => 0)))] s.heap := hP
  have hl := lv_entry ([.ref h0, .int p0]) (n := 2) (Nat.le_of_ble_eq_true rfl)
  rw [lg_entry_eq]
  generalize (lg_sl ([.ref h0, .int p0]) ++ List.replicate (2 - (lg_sl ([.ref h0, .int p0])).length) Slot.unset).toArray = ls at hl ⊢
  have hl : lv_has ls 2 [(0, .ref h0), (1, .int p0)] := hl
  refine lv_iload_n hx hb dX12_net_0 rfl (lv_at hl 1 rfl) ?_
  refine lv_iconst (v := 0) hx hb dX12_net_1 (by decide) ?_
  refine lv_iconst (v := 3) hx hb dX12_net_2 (by decide) ?_
  refine z_calli (wc := []) (wr := [(h0, .inr (12, [.ref h1, .ref h2, .ref h3, .ref h4, .ref h5, .ref h6, .ref h7, .ref h8, .ref h9, .int 0, .int 0, .int 10, .int 0, .int 0, .int (-9), .int 0, .ref h10, .ref h11, .ref h12, .ref h13, .int 0, .int 0, .int 0, .ref h14, .int 0, .int 0, .int 0, .int (-9), .int 0, .ref h15, .int 0, .int 0, .int 0, .ref h16, .ref h17, .ref h18, .int 0, .int 0])), (h1, .inl (cI, 7, .inl (fun _ => 0)))]) (w1 := (fun _ => [])) (va_runS (As := [.int p0, .int 0, .int 3]) (rest := []) ⟨hx, hb, hml, hown, hts⟩ (kX12_isIn_2 l dC dI cI cQ p0 hp0l hp0h s.heap.size) (va_cwS 3 hts gv_X12_net_X12_isIn_100 rfl rfl rfl (by decide +kernel) ⟨Nat.le_of_ble_eq_true rfl, Nat.le_of_ble_eq_true rfl⟩) ⟨z_blind, z_pre hZ hP hD [] rfl (by decide)⟩ rfl rfl hl.1 rfl (lv_room (Nat.le_of_ble_eq_true rfl)) dX12_net_3 ⟨Nat.le_of_ble_eq_true rfl, Nat.le_of_ble_eq_true rfl⟩) hP hD hS hA [] [0, 1] rfl rfl (by decide) (by decide) (fun _ H locs hP hD hS => ?_)
  have hP : va_P (dC, dI) vwCl [(h0, .inr (12, [.ref h1, .ref h2, .ref h3, .ref h4, .ref h5, .ref h6, .ref h7, .ref h8, .ref h9, .int 0, .int 0, .int 10, .int 0, .int 0, .int (-9), .int 0, .ref h10, .ref h11, .ref h12, .ref h13, .int 0, .int 0, .int 0, .ref h14, .int 0, .int 0, .int 0, .int (-9), .int 0, .ref h15, .int 0, .int 0, .int 0, .ref h16, .ref h17, .ref h18, .int 0, .int 0])), (h1, .inl (cI, 7, .inl (fun _ => 0)))] H := hP
  have hD : va_D A [(h0, .inr (12, [.ref h1, .ref h2, .ref h3, .ref h4, .ref h5, .ref h6, .ref h7, .ref h8, .ref h9, .int 0, .int 0, .int 10, .int 0, .int 0, .int (-9), .int 0, .ref h10, .ref h11, .ref h12, .ref h13, .int 0, .int 0, .int 0, .ref h14, .int 0, .int 0, .int 0, .int (-9), .int 0, .ref h15, .int 0, .int 0, .int 0, .ref h16, .ref h17, .ref h18, .int 0, .int 0])), (h1, .inl (cI, 7, .inl (fun _ => 0)))] := hD
  refine lv_if_ne (tgt := 16) hx hb dX12_net_6 (by decide) (fun hc => ?_) (fun hc => ?_)
  · exact absurd hc (by decide)
  refine lv_aload_n hx hb dX12_net_9 rfl (lv_at hl 0 rfl) ?_
  refine lv_bipush (v := (-2)) hx hb dX12_net_10 (by decide) ?_
  refine z_calli (wc := [(h0, .inr (12, [.ref h1, .ref h2, .ref h3, .ref h4, .ref h5, .ref h6, .ref h7, .ref h8, .ref h9, .int 0, .int 0, .int 10, .int 0, .int 0, .int (-9), .int 0, .ref h10, .ref h11, .ref h12, .ref h13, .int 0, .int 0, .int 0, .ref h14, .int 0, .int 0, .int 0, .int (-9), .int 0, .ref h15, .int 0, .int 0, .int 0, .ref h16, .ref h17, .ref h18, .int 0, .int 0])), (h1, .inl (cI, 7, .inl (fun _ => 0)))]) (wr := []) (w1 := (fun _ => [(h0, .inr (12, [.ref h1, .ref h2, .ref h3, .ref h4, .ref h5, .ref h6, .ref h7, .ref h8, .ref h9, .int 0, .int 0, .int 10, .int 0, .int 0, .int (-9), .int 0, .ref h10, .ref h11, .ref h12, .ref h13, .int 0, .int 0, .int 0, .ref h14, .int 0, .int 0, .int 0, .int (-9), .int 0, .ref h15, .int 0, .int 0, .int 0, .ref h16, .ref h17, .ref h18, .int 0, .int 0])), (h1, .inl (cI, 7, .inl (upd (fun _ => 0) 2 1)))])) (va_runV (As := [.int (-2)]) (rest := []) ⟨hx, hb, hml, hown, hts⟩ (kX12_no_5 l dC dI cI cQ h0 h1 h2 h3 h4 h5 h6 h7 h8 h9 h10 h11 h12 h13 h14 h15 h16 h17 h18 H.size) (cwV 1 hts gv_X12_net_X12_no_89 rfl rfl rfl (by decide +kernel) ⟨Nat.le_of_ble_eq_true rfl, Nat.le_of_ble_eq_true rfl⟩) ⟨z_blind, va_recv hK hP (ci := 12) (q0 := 0) rfl rfl, z_pre hZ hP hD [0, 1] rfl (by decide)⟩ rfl rfl hl.1 rfl (lv_room (Nat.le_of_ble_eq_true rfl)) dX12_net_12 ⟨Nat.le_of_ble_eq_true rfl, Nat.le_of_ble_eq_true rfl⟩) hP hD hS hA [0, 1] [] rfl rfl (by decide) (by decide) (fun _ H locs hP hD hS => ?_)
  have hP : va_P (dC, dI) vwCl [(h0, .inr (12, [.ref h1, .ref h2, .ref h3, .ref h4, .ref h5, .ref h6, .ref h7, .ref h8, .ref h9, .int 0, .int 0, .int 10, .int 0, .int 0, .int (-9), .int 0, .ref h10, .ref h11, .ref h12, .ref h13, .int 0, .int 0, .int 0, .ref h14, .int 0, .int 0, .int 0, .int (-9), .int 0, .ref h15, .int 0, .int 0, .int 0, .ref h16, .ref h17, .ref h18, .int 0, .int 0])), (h1, .inl (cI, 7, .inl (upd (fun _ => 0) 2 1)))] H := hP
  have hD : va_D A [(h0, .inr (12, [.ref h1, .ref h2, .ref h3, .ref h4, .ref h5, .ref h6, .ref h7, .ref h8, .ref h9, .int 0, .int 0, .int 10, .int 0, .int 0, .int (-9), .int 0, .ref h10, .ref h11, .ref h12, .ref h13, .int 0, .int 0, .int 0, .ref h14, .int 0, .int 0, .int 0, .int (-9), .int 0, .ref h15, .int 0, .int 0, .int 0, .ref h16, .ref h17, .ref h18, .int 0, .int 0])), (h1, .inl (cI, 7, .inl (upd (fun _ => 0) 2 1)))] := hD
  have hP9 := hP.sub (ws' := []) [] rfl
  have hD9 := hD.sub (ws' := []) [] (by decide) rfl
  exact W.iret (v := (-2)) hx hb hr (fun t ht hW => ⟨⟨(-2), (fun k => [].getD k 0), rfl, rfl, by rw [ht]; exact hP9, hD9⟩, hS.F ht⟩) hS.2.2 dX12_net_15
set_option maxHeartbeats 4000000 in
set_option maxRecDepth 100000 in
theorem kX12_mend (l : Launch) (dC : Nat → ClassId) (dI : Nat → Nat → Nat) (cI cQ : ClassId) (h0 h1 h2 h3 h4 h5 h6 h7 h8 h9 h10 h11 h12 h13 h14 h15 h16 h17 h18 : Nat) (sz : Nat) : Met l yX12_mend vsX12_mend ({ frames := 1, cells := 0, slots := 0, locals := 21 }) (va_Pc [.ref h0] (zB dC dI cI cQ [(h0, .inr (12, [.ref h1, .ref h2, .ref h3, .ref h4, .ref h5, .ref h6, .ref h7, .ref h8, .ref h9, .int 0, .int 0, .int 10, .int 0, .int 0, .int (-9), .int 0, .ref h10, .ref h11, .ref h12, .ref h13, .int 0, .int 0, .int 0, .ref h14, .int 0, .int 0, .int 0, .int (-9), .int 0, .ref h15, .int 0, .int 0, .int 0, .ref h16, .ref h17, .ref h18, .int 0, .int 0])), (h1, .inl (cI, 7, .inl (fun _ => 0)))] sz)) (zQi dC dI (va_A [(h0, .inr (12, [.ref h1, .ref h2, .ref h3, .ref h4, .ref h5, .ref h6, .ref h7, .ref h8, .ref h9, .int 0, .int 0, .int 10, .int 0, .int 0, .int (-9), .int 0, .ref h10, .ref h11, .ref h12, .ref h13, .int 0, .int 0, .int 0, .ref h14, .int 0, .int 0, .int 0, .int (-9), .int 0, .ref h15, .int 0, .int 0, .int 0, .ref h16, .ref h17, .ref h18, .int 0, .int 0])), (h1, .inl (cI, 7, .inl (fun _ => 0)))] sz) (fun ad => []) (-3)) 0 0 (va_A [(h0, .inr (12, [.ref h1, .ref h2, .ref h3, .ref h4, .ref h5, .ref h6, .ref h7, .ref h8, .ref h9, .int 0, .int 0, .int 10, .int 0, .int 0, .int (-9), .int 0, .ref h10, .ref h11, .ref h12, .ref h13, .int 0, .int 0, .int 0, .ref h14, .int 0, .int 0, .int 0, .int (-9), .int 0, .ref h15, .int 0, .int 0, .int 0, .ref h16, .ref h17, .ref h18, .int 0, .int 0])), (h1, .inl (cI, 7, .inl (fun _ => 0)))] sz) := by
  refine Met.ofW (cc := cX12_mend) (maxL := 3) (ret := (some .int)) (by decide) rfl ?_
  intro p e s m args below meth c s₁ B hml hv
  obtain ⟨rfl, hsz, hP, hZ, hD0⟩ := hv
  obtain ⟨hK, hAO, hN⟩ := id hZ
  have hx := B.exec
  have hb := B.bytes
  have hr := B.returns
  have hts := atoms_spec (ws := vsX12_mend) B.pre
  have hown : s.vm.findClass RX12 = some m.cls := findClass_of_methodNamed B.named
  have hlocks := B.notSynchronized
  subst hsz
  have hD := hD0.self (sz := s.heap.size)
  generalize hAe : va_A [(h0, .inr (12, [.ref h1, .ref h2, .ref h3, .ref h4, .ref h5, .ref h6, .ref h7, .ref h8, .ref h9, .int 0, .int 0, .int 10, .int 0, .int 0, .int (-9), .int 0, .ref h10, .ref h11, .ref h12, .ref h13, .int 0, .int 0, .int 0, .ref h14, .int 0, .int 0, .int 0, .int (-9), .int 0, .ref h15, .int 0, .int 0, .int 0, .ref h16, .ref h17, .ref h18, .int 0, .int 0])), (h1, .inl (cI, 7, .inl (fun _ => 0)))] s.heap.size = A at hD ⊢
  have hA : ∀ q : Nat, s.heap.size ≤ q → A q := fun q h => by rw [← hAe]; exact Or.inr h
  have hS : va_S A s.heap s.heap [] := va_S.rf
  have hP : va_P (dC, dI) vwCl [(h0, .inr (12, [.ref h1, .ref h2, .ref h3, .ref h4, .ref h5, .ref h6, .ref h7, .ref h8, .ref h9, .int 0, .int 0, .int 10, .int 0, .int 0, .int (-9), .int 0, .ref h10, .ref h11, .ref h12, .ref h13, .int 0, .int 0, .int 0, .ref h14, .int 0, .int 0, .int 0, .int (-9), .int 0, .ref h15, .int 0, .int 0, .int 0, .ref h16, .ref h17, .ref h18, .int 0, .int 0])), (h1, .inl (cI, 7, .inl (fun _ => 0)))] s.heap := hP
  have hl := lv_entry ([.ref h0]) (n := 3) (Nat.le_of_ble_eq_true rfl)
  rw [lg_entry_eq]
  generalize (lg_sl ([.ref h0]) ++ List.replicate (3 - (lg_sl ([.ref h0])).length) Slot.unset).toArray = ls at hl ⊢
  have hl : lv_has ls 3 [(0, .ref h0)] := hl
  refine lv_aload_n hx hb dX12_mend_0 rfl (lv_at hl 0 rfl) ?_
  refine va_get (D := (dC, dI)) (ci := 12) (v := .int 0) (C := RX12) (T := TX12) (N := 38) hx hb hts in_X12_mend_X12 hown hK hP 0 rfl rfl 10 (by decide) (hts (.fieldLink RX12 79 "EachOnHisCueModel" "lines" "I") (by decide +kernel)) (fun _ h9 => h9) rfl dX12_mend_1 ?_
  refine lv_if_ne (tgt := 14) hx hb dX12_mend_4 (by decide) (fun hc => ?_) (fun hc => ?_)
  · exact absurd hc (by decide)
  refine lv_aload_n hx hb dX12_mend_7 rfl (lv_at hl 0 rfl) ?_
  refine lv_bipush (v := (-3)) hx hb dX12_mend_8 (by decide) ?_
  refine z_calli (wc := [(h0, .inr (12, [.ref h1, .ref h2, .ref h3, .ref h4, .ref h5, .ref h6, .ref h7, .ref h8, .ref h9, .int 0, .int 0, .int 10, .int 0, .int 0, .int (-9), .int 0, .ref h10, .ref h11, .ref h12, .ref h13, .int 0, .int 0, .int 0, .ref h14, .int 0, .int 0, .int 0, .int (-9), .int 0, .ref h15, .int 0, .int 0, .int 0, .ref h16, .ref h17, .ref h18, .int 0, .int 0])), (h1, .inl (cI, 7, .inl (fun _ => 0)))]) (wr := []) (w1 := (fun _ => [(h0, .inr (12, [.ref h1, .ref h2, .ref h3, .ref h4, .ref h5, .ref h6, .ref h7, .ref h8, .ref h9, .int 0, .int 0, .int 10, .int 0, .int 0, .int (-9), .int 0, .ref h10, .ref h11, .ref h12, .ref h13, .int 0, .int 0, .int 0, .ref h14, .int 0, .int 0, .int 0, .int (-9), .int 0, .ref h15, .int 0, .int 0, .int 0, .ref h16, .ref h17, .ref h18, .int 0, .int 0])), (h1, .inl (cI, 7, .inl (upd (fun _ => 0) 3 1)))])) (va_runV (As := [.int (-3)]) (rest := []) ⟨hx, hb, hml, hown, hts⟩ (kX12_no_4 l dC dI cI cQ h0 h1 h2 h3 h4 h5 h6 h7 h8 h9 h10 h11 h12 h13 h14 h15 h16 h17 h18 s.heap.size) (cwV 1 hts gv_X12_mend_X12_no_89 rfl rfl rfl (by decide +kernel) ⟨Nat.le_of_ble_eq_true rfl, Nat.le_of_ble_eq_true rfl⟩) ⟨z_blind, va_recv hK hP (ci := 12) (q0 := 0) rfl rfl, z_pre hZ hP hD [0, 1] rfl (by decide)⟩ rfl rfl hl.1 rfl (lv_room (Nat.le_of_ble_eq_true rfl)) dX12_mend_10 ⟨Nat.le_of_ble_eq_true rfl, Nat.le_of_ble_eq_true rfl⟩) hP hD hS hA [0, 1] [] rfl rfl (by decide) (by decide) (fun _ H locs hP hD hS => ?_)
  have hP : va_P (dC, dI) vwCl [(h0, .inr (12, [.ref h1, .ref h2, .ref h3, .ref h4, .ref h5, .ref h6, .ref h7, .ref h8, .ref h9, .int 0, .int 0, .int 10, .int 0, .int 0, .int (-9), .int 0, .ref h10, .ref h11, .ref h12, .ref h13, .int 0, .int 0, .int 0, .ref h14, .int 0, .int 0, .int 0, .int (-9), .int 0, .ref h15, .int 0, .int 0, .int 0, .ref h16, .ref h17, .ref h18, .int 0, .int 0])), (h1, .inl (cI, 7, .inl (upd (fun _ => 0) 3 1)))] H := hP
  have hD : va_D A [(h0, .inr (12, [.ref h1, .ref h2, .ref h3, .ref h4, .ref h5, .ref h6, .ref h7, .ref h8, .ref h9, .int 0, .int 0, .int 10, .int 0, .int 0, .int (-9), .int 0, .ref h10, .ref h11, .ref h12, .ref h13, .int 0, .int 0, .int 0, .ref h14, .int 0, .int 0, .int 0, .int (-9), .int 0, .ref h15, .int 0, .int 0, .int 0, .ref h16, .ref h17, .ref h18, .int 0, .int 0])), (h1, .inl (cI, 7, .inl (upd (fun _ => 0) 3 1)))] := hD
  have hP9 := hP.sub (ws' := []) [] rfl
  have hD9 := hD.sub (ws' := []) [] (by decide) rfl
  exact W.iret (v := (-3)) hx hb hr (fun t ht hW => ⟨⟨(-3), (fun k => [].getD k 0), rfl, rfl, by rw [ht]; exact hP9, hD9⟩, hS.F ht⟩) hS.2.2 dX12_mend_13
set_option maxHeartbeats 4000000 in
set_option maxRecDepth 100000 in
theorem kX12_mendOf (l : Launch) (dC : Nat → ClassId) (dI : Nat → Nat → Nat) (cI cQ : ClassId) (h0 h1 h2 h3 h4 h5 h6 h7 h8 h9 h10 h11 h12 h13 h14 h15 h16 h17 h18 : Nat) (p0 : Int32) (hp0l : -2147483648 ≤ p0.toInt) (hp0h : p0.toInt ≤ -1) (sz : Nat) : Met l yX12_mendOf vsX12_mendOf ({ frames := 1, cells := 0, slots := 0, locals := 21 }) (va_Pc [.ref h0, .int p0] (zB dC dI cI cQ [(h0, .inr (12, [.ref h1, .ref h2, .ref h3, .ref h4, .ref h5, .ref h6, .ref h7, .ref h8, .ref h9, .int 0, .int 0, .int 10, .int 0, .int 0, .int (-9), .int 0, .ref h10, .ref h11, .ref h12, .ref h13, .int 0, .int 0, .int 0, .ref h14, .int 0, .int 0, .int 0, .int (-9), .int 0, .ref h15, .int 0, .int 0, .int 0, .ref h16, .ref h17, .ref h18, .int 0, .int 0])), (h1, .inl (cI, 7, .inl (fun _ => 0)))] sz)) (zQi dC dI (va_A [(h0, .inr (12, [.ref h1, .ref h2, .ref h3, .ref h4, .ref h5, .ref h6, .ref h7, .ref h8, .ref h9, .int 0, .int 0, .int 10, .int 0, .int 0, .int (-9), .int 0, .ref h10, .ref h11, .ref h12, .ref h13, .int 0, .int 0, .int 0, .ref h14, .int 0, .int 0, .int 0, .int (-9), .int 0, .ref h15, .int 0, .int 0, .int 0, .ref h16, .ref h17, .ref h18, .int 0, .int 0])), (h1, .inl (cI, 7, .inl (fun _ => 0)))] sz) (fun ad => []) (-1)) 0 0 (va_A [(h0, .inr (12, [.ref h1, .ref h2, .ref h3, .ref h4, .ref h5, .ref h6, .ref h7, .ref h8, .ref h9, .int 0, .int 0, .int 10, .int 0, .int 0, .int (-9), .int 0, .ref h10, .ref h11, .ref h12, .ref h13, .int 0, .int 0, .int 0, .ref h14, .int 0, .int 0, .int 0, .int (-9), .int 0, .ref h15, .int 0, .int 0, .int 0, .ref h16, .ref h17, .ref h18, .int 0, .int 0])), (h1, .inl (cI, 7, .inl (fun _ => 0)))] sz) := by
  refine Met.ofW (cc := cX12_mendOf) (maxL := 2) (ret := (some .int)) (by decide) rfl ?_
  intro p e s m args below meth c s₁ B hml hv
  obtain ⟨rfl, hsz, hP, hZ, hD0⟩ := hv
  obtain ⟨hK, hAO, hN⟩ := id hZ
  have hx := B.exec
  have hb := B.bytes
  have hr := B.returns
  have hts := atoms_spec (ws := vsX12_mendOf) B.pre
  have hown : s.vm.findClass RX12 = some m.cls := findClass_of_methodNamed B.named
  have hlocks := B.notSynchronized
  subst hsz
  have hD := hD0.self (sz := s.heap.size)
  generalize hAe : va_A [(h0, .inr (12, [.ref h1, .ref h2, .ref h3, .ref h4, .ref h5, .ref h6, .ref h7, .ref h8, .ref h9, .int 0, .int 0, .int 10, .int 0, .int 0, .int (-9), .int 0, .ref h10, .ref h11, .ref h12, .ref h13, .int 0, .int 0, .int 0, .ref h14, .int 0, .int 0, .int 0, .int (-9), .int 0, .ref h15, .int 0, .int 0, .int 0, .ref h16, .ref h17, .ref h18, .int 0, .int 0])), (h1, .inl (cI, 7, .inl (fun _ => 0)))] s.heap.size = A at hD ⊢
  have hA : ∀ q : Nat, s.heap.size ≤ q → A q := fun q h => by rw [← hAe]; exact Or.inr h
  have hS : va_S A s.heap s.heap [] := va_S.rf
  have hP : va_P (dC, dI) vwCl [(h0, .inr (12, [.ref h1, .ref h2, .ref h3, .ref h4, .ref h5, .ref h6, .ref h7, .ref h8, .ref h9, .int 0, .int 0, .int 10, .int 0, .int 0, .int (-9), .int 0, .ref h10, .ref h11, .ref h12, .ref h13, .int 0, .int 0, .int 0, .ref h14, .int 0, .int 0, .int 0, .int (-9), .int 0, .ref h15, .int 0, .int 0, .int 0, .ref h16, .ref h17, .ref h18, .int 0, .int 0])), (h1, .inl (cI, 7, .inl (fun _ => 0)))] s.heap := hP
  have hl := lv_entry ([.ref h0, .int p0]) (n := 2) (Nat.le_of_ble_eq_true rfl)
  rw [lg_entry_eq]
  generalize (lg_sl ([.ref h0, .int p0]) ++ List.replicate (2 - (lg_sl ([.ref h0, .int p0])).length) Slot.unset).toArray = ls at hl ⊢
  have hl : lv_has ls 2 [(0, .ref h0), (1, .int p0)] := hl
  refine lv_aload_n hx hb dX12_mendOf_0 rfl (lv_at hl 0 rfl) ?_
  refine lv_iload_n hx hb dX12_mendOf_1 rfl (lv_at hl 1 rfl) ?_
  refine z_calli (wc := []) (wr := [(h0, .inr (12, [.ref h1, .ref h2, .ref h3, .ref h4, .ref h5, .ref h6, .ref h7, .ref h8, .ref h9, .int 0, .int 0, .int 10, .int 0, .int 0, .int (-9), .int 0, .ref h10, .ref h11, .ref h12, .ref h13, .int 0, .int 0, .int 0, .ref h14, .int 0, .int 0, .int 0, .int (-9), .int 0, .ref h15, .int 0, .int 0, .int 0, .ref h16, .ref h17, .ref h18, .int 0, .int 0])), (h1, .inl (cI, 7, .inl (fun _ => 0)))]) (w1 := (fun _ => [])) (va_runV (As := [.int p0]) (rest := []) ⟨hx, hb, hml, hown, hts⟩ (kX12_isLine l dC dI cI cQ h0 p0 hp0l hp0h s.heap.size) (cwV 1 hts gv_X12_mendOf_X12_isLine_169 rfl rfl rfl (by decide +kernel) ⟨Nat.le_of_ble_eq_true rfl, Nat.le_of_ble_eq_true rfl⟩) ⟨z_blind, va_recv hK hP (ci := 12) (q0 := 0) rfl rfl, z_pre hZ hP hD [] rfl (by decide)⟩ rfl rfl hl.1 rfl (lv_room (Nat.le_of_ble_eq_true rfl)) dX12_mendOf_2 ⟨Nat.le_of_ble_eq_true rfl, Nat.le_of_ble_eq_true rfl⟩) hP hD hS hA [] [0, 1] rfl rfl (by decide) (by decide) (fun _ H locs hP hD hS => ?_)
  have hP : va_P (dC, dI) vwCl [(h0, .inr (12, [.ref h1, .ref h2, .ref h3, .ref h4, .ref h5, .ref h6, .ref h7, .ref h8, .ref h9, .int 0, .int 0, .int 10, .int 0, .int 0, .int (-9), .int 0, .ref h10, .ref h11, .ref h12, .ref h13, .int 0, .int 0, .int 0, .ref h14, .int 0, .int 0, .int 0, .int (-9), .int 0, .ref h15, .int 0, .int 0, .int 0, .ref h16, .ref h17, .ref h18, .int 0, .int 0])), (h1, .inl (cI, 7, .inl (fun _ => 0)))] H := hP
  have hD : va_D A [(h0, .inr (12, [.ref h1, .ref h2, .ref h3, .ref h4, .ref h5, .ref h6, .ref h7, .ref h8, .ref h9, .int 0, .int 0, .int 10, .int 0, .int 0, .int (-9), .int 0, .ref h10, .ref h11, .ref h12, .ref h13, .int 0, .int 0, .int 0, .ref h14, .int 0, .int 0, .int 0, .int (-9), .int 0, .ref h15, .int 0, .int 0, .int 0, .ref h16, .ref h17, .ref h18, .int 0, .int 0])), (h1, .inl (cI, 7, .inl (fun _ => 0)))] := hD
  refine lv_if_eq (tgt := 16) hx hb dX12_mendOf_5 (by decide) (fun hc => ?_) (fun hc => ?_)
  rotate_left; exact absurd hc (by decide)
  refine lv_aload_n hx hb dX12_mendOf_16 rfl (lv_at hl 0 rfl) ?_
  refine lv_iconst (v := (-1)) hx hb dX12_mendOf_17 (by decide) ?_
  refine z_calli (wc := [(h0, .inr (12, [.ref h1, .ref h2, .ref h3, .ref h4, .ref h5, .ref h6, .ref h7, .ref h8, .ref h9, .int 0, .int 0, .int 10, .int 0, .int 0, .int (-9), .int 0, .ref h10, .ref h11, .ref h12, .ref h13, .int 0, .int 0, .int 0, .ref h14, .int 0, .int 0, .int 0, .int (-9), .int 0, .ref h15, .int 0, .int 0, .int 0, .ref h16, .ref h17, .ref h18, .int 0, .int 0])), (h1, .inl (cI, 7, .inl (fun _ => 0)))]) (wr := []) (w1 := (fun _ => [(h0, .inr (12, [.ref h1, .ref h2, .ref h3, .ref h4, .ref h5, .ref h6, .ref h7, .ref h8, .ref h9, .int 0, .int 0, .int 10, .int 0, .int 0, .int (-9), .int 0, .ref h10, .ref h11, .ref h12, .ref h13, .int 0, .int 0, .int 0, .ref h14, .int 0, .int 0, .int 0, .int (-9), .int 0, .ref h15, .int 0, .int 0, .int 0, .ref h16, .ref h17, .ref h18, .int 0, .int 0])), (h1, .inl (cI, 7, .inl (upd (fun _ => 0) 1 1)))])) (va_runV (As := [.int (-1)]) (rest := []) ⟨hx, hb, hml, hown, hts⟩ (kX12_no_2 l dC dI cI cQ h0 h1 h2 h3 h4 h5 h6 h7 h8 h9 h10 h11 h12 h13 h14 h15 h16 h17 h18 H.size) (cwV 1 hts gv_X12_mendOf_X12_no_89 rfl rfl rfl (by decide +kernel) ⟨Nat.le_of_ble_eq_true rfl, Nat.le_of_ble_eq_true rfl⟩) ⟨z_blind, va_recv hK hP (ci := 12) (q0 := 0) rfl rfl, z_pre hZ hP hD [0, 1] rfl (by decide)⟩ rfl rfl hl.1 rfl (lv_room (Nat.le_of_ble_eq_true rfl)) dX12_mendOf_18 ⟨Nat.le_of_ble_eq_true rfl, Nat.le_of_ble_eq_true rfl⟩) hP hD hS hA [0, 1] [] rfl rfl (by decide) (by decide) (fun _ H locs hP hD hS => ?_)
  have hP : va_P (dC, dI) vwCl [(h0, .inr (12, [.ref h1, .ref h2, .ref h3, .ref h4, .ref h5, .ref h6, .ref h7, .ref h8, .ref h9, .int 0, .int 0, .int 10, .int 0, .int 0, .int (-9), .int 0, .ref h10, .ref h11, .ref h12, .ref h13, .int 0, .int 0, .int 0, .ref h14, .int 0, .int 0, .int 0, .int (-9), .int 0, .ref h15, .int 0, .int 0, .int 0, .ref h16, .ref h17, .ref h18, .int 0, .int 0])), (h1, .inl (cI, 7, .inl (upd (fun _ => 0) 1 1)))] H := hP
  have hD : va_D A [(h0, .inr (12, [.ref h1, .ref h2, .ref h3, .ref h4, .ref h5, .ref h6, .ref h7, .ref h8, .ref h9, .int 0, .int 0, .int 10, .int 0, .int 0, .int (-9), .int 0, .ref h10, .ref h11, .ref h12, .ref h13, .int 0, .int 0, .int 0, .ref h14, .int 0, .int 0, .int 0, .int (-9), .int 0, .ref h15, .int 0, .int 0, .int 0, .ref h16, .ref h17, .ref h18, .int 0, .int 0])), (h1, .inl (cI, 7, .inl (upd (fun _ => 0) 1 1)))] := hD
  have hP9 := hP.sub (ws' := []) [] rfl
  have hD9 := hD.sub (ws' := []) [] (by decide) rfl
  exact W.iret (v := (-1)) hx hb hr (fun t ht hW => ⟨⟨(-1), (fun k => [].getD k 0), rfl, rfl, by rw [ht]; exact hP9, hD9⟩, hS.F ht⟩) hS.2.2 dX12_mendOf_21
set_option maxHeartbeats 4000000 in
set_option maxRecDepth 100000 in
theorem kX12_mendOf_1 (l : Launch) (dC : Nat → ClassId) (dI : Nat → Nat → Nat) (cI cQ : ClassId) (h0 h1 h2 h3 h4 h5 h6 h7 h8 h9 h10 h11 h12 h13 h14 h15 h16 h17 h18 : Nat) (p0 : Int32) (hp0l : 0 ≤ p0.toInt) (hp0h : p0.toInt ≤ 2147483647) (sz : Nat) : Met l yX12_mendOf vsX12_mendOf ({ frames := 1, cells := 0, slots := 0, locals := 21 }) (va_Pc [.ref h0, .int p0] (zB dC dI cI cQ [(h0, .inr (12, [.ref h1, .ref h2, .ref h3, .ref h4, .ref h5, .ref h6, .ref h7, .ref h8, .ref h9, .int 0, .int 0, .int 10, .int 0, .int 0, .int (-9), .int 0, .ref h10, .ref h11, .ref h12, .ref h13, .int 0, .int 0, .int 0, .ref h14, .int 0, .int 0, .int 0, .int (-9), .int 0, .ref h15, .int 0, .int 0, .int 0, .ref h16, .ref h17, .ref h18, .int 0, .int 0])), (h1, .inl (cI, 7, .inl (fun _ => 0)))] sz)) (zQi dC dI (va_A [(h0, .inr (12, [.ref h1, .ref h2, .ref h3, .ref h4, .ref h5, .ref h6, .ref h7, .ref h8, .ref h9, .int 0, .int 0, .int 10, .int 0, .int 0, .int (-9), .int 0, .ref h10, .ref h11, .ref h12, .ref h13, .int 0, .int 0, .int 0, .ref h14, .int 0, .int 0, .int 0, .int (-9), .int 0, .ref h15, .int 0, .int 0, .int 0, .ref h16, .ref h17, .ref h18, .int 0, .int 0])), (h1, .inl (cI, 7, .inl (fun _ => 0)))] sz) (fun ad => []) (-1)) 0 0 (va_A [(h0, .inr (12, [.ref h1, .ref h2, .ref h3, .ref h4, .ref h5, .ref h6, .ref h7, .ref h8, .ref h9, .int 0, .int 0, .int 10, .int 0, .int 0, .int (-9), .int 0, .ref h10, .ref h11, .ref h12, .ref h13, .int 0, .int 0, .int 0, .ref h14, .int 0, .int 0, .int 0, .int (-9), .int 0, .ref h15, .int 0, .int 0, .int 0, .ref h16, .ref h17, .ref h18, .int 0, .int 0])), (h1, .inl (cI, 7, .inl (fun _ => 0)))] sz) := by
  refine Met.ofW (cc := cX12_mendOf) (maxL := 2) (ret := (some .int)) (by decide) rfl ?_
  intro p e s m args below meth c s₁ B hml hv
  obtain ⟨rfl, hsz, hP, hZ, hD0⟩ := hv
  obtain ⟨hK, hAO, hN⟩ := id hZ
  have hx := B.exec
  have hb := B.bytes
  have hr := B.returns
  have hts := atoms_spec (ws := vsX12_mendOf) B.pre
  have hown : s.vm.findClass RX12 = some m.cls := findClass_of_methodNamed B.named
  have hlocks := B.notSynchronized
  subst hsz
  have hD := hD0.self (sz := s.heap.size)
  generalize hAe : va_A [(h0, .inr (12, [.ref h1, .ref h2, .ref h3, .ref h4, .ref h5, .ref h6, .ref h7, .ref h8, .ref h9, .int 0, .int 0, .int 10, .int 0, .int 0, .int (-9), .int 0, .ref h10, .ref h11, .ref h12, .ref h13, .int 0, .int 0, .int 0, .ref h14, .int 0, .int 0, .int 0, .int (-9), .int 0, .ref h15, .int 0, .int 0, .int 0, .ref h16, .ref h17, .ref h18, .int 0, .int 0])), (h1, .inl (cI, 7, .inl (fun _ => 0)))] s.heap.size = A at hD ⊢
  have hA : ∀ q : Nat, s.heap.size ≤ q → A q := fun q h => by rw [← hAe]; exact Or.inr h
  have hS : va_S A s.heap s.heap [] := va_S.rf
  have hP : va_P (dC, dI) vwCl [(h0, .inr (12, [.ref h1, .ref h2, .ref h3, .ref h4, .ref h5, .ref h6, .ref h7, .ref h8, .ref h9, .int 0, .int 0, .int 10, .int 0, .int 0, .int (-9), .int 0, .ref h10, .ref h11, .ref h12, .ref h13, .int 0, .int 0, .int 0, .ref h14, .int 0, .int 0, .int 0, .int (-9), .int 0, .ref h15, .int 0, .int 0, .int 0, .ref h16, .ref h17, .ref h18, .int 0, .int 0])), (h1, .inl (cI, 7, .inl (fun _ => 0)))] s.heap := hP
  have hl := lv_entry ([.ref h0, .int p0]) (n := 2) (Nat.le_of_ble_eq_true rfl)
  rw [lg_entry_eq]
  generalize (lg_sl ([.ref h0, .int p0]) ++ List.replicate (2 - (lg_sl ([.ref h0, .int p0])).length) Slot.unset).toArray = ls at hl ⊢
  have hl : lv_has ls 2 [(0, .ref h0), (1, .int p0)] := hl
  refine lv_aload_n hx hb dX12_mendOf_0 rfl (lv_at hl 0 rfl) ?_
  refine lv_iload_n hx hb dX12_mendOf_1 rfl (lv_at hl 1 rfl) ?_
  refine z_calli (wc := [(h0, .inr (12, [.ref h1, .ref h2, .ref h3, .ref h4, .ref h5, .ref h6, .ref h7, .ref h8, .ref h9, .int 0, .int 0, .int 10, .int 0, .int 0, .int (-9), .int 0, .ref h10, .ref h11, .ref h12, .ref h13, .int 0, .int 0, .int 0, .ref h14, .int 0, .int 0, .int 0, .int (-9), .int 0, .ref h15, .int 0, .int 0, .int 0, .ref h16, .ref h17, .ref h18, .int 0, .int 0]))]) (wr := [(h1, .inl (cI, 7, .inl (fun _ => 0)))]) (w1 := (fun _ => [(h0, .inr (12, [.ref h1, .ref h2, .ref h3, .ref h4, .ref h5, .ref h6, .ref h7, .ref h8, .ref h9, .int 0, .int 0, .int 10, .int 0, .int 0, .int (-9), .int 0, .ref h10, .ref h11, .ref h12, .ref h13, .int 0, .int 0, .int 0, .ref h14, .int 0, .int 0, .int 0, .int (-9), .int 0, .ref h15, .int 0, .int 0, .int 0, .ref h16, .ref h17, .ref h18, .int 0, .int 0]))])) (va_runV (As := [.int p0]) (rest := []) ⟨hx, hb, hml, hown, hts⟩ (kX12_isLine_1 l dC dI cI cQ h0 h1 h2 h3 h4 h5 h6 h7 h8 h9 h10 h11 h12 h13 h14 h15 h16 h17 h18 p0 hp0l hp0h s.heap.size) (cwV 1 hts gv_X12_mendOf_X12_isLine_169 rfl rfl rfl (by decide +kernel) ⟨Nat.le_of_ble_eq_true rfl, Nat.le_of_ble_eq_true rfl⟩) ⟨z_blind, va_recv hK hP (ci := 12) (q0 := 0) rfl rfl, z_pre hZ hP hD [0] rfl (by decide)⟩ rfl rfl hl.1 rfl (lv_room (Nat.le_of_ble_eq_true rfl)) dX12_mendOf_2 ⟨Nat.le_of_ble_eq_true rfl, Nat.le_of_ble_eq_true rfl⟩) hP hD hS hA [0] [1] rfl rfl (by decide) (by decide) (fun _ H locs hP hD hS => ?_)
  have hP : va_P (dC, dI) vwCl [(h1, .inl (cI, 7, .inl (fun _ => 0))), (h0, .inr (12, [.ref h1, .ref h2, .ref h3, .ref h4, .ref h5, .ref h6, .ref h7, .ref h8, .ref h9, .int 0, .int 0, .int 10, .int 0, .int 0, .int (-9), .int 0, .ref h10, .ref h11, .ref h12, .ref h13, .int 0, .int 0, .int 0, .ref h14, .int 0, .int 0, .int 0, .int (-9), .int 0, .ref h15, .int 0, .int 0, .int 0, .ref h16, .ref h17, .ref h18, .int 0, .int 0]))] H := hP
  have hD : va_D A [(h1, .inl (cI, 7, .inl (fun _ => 0))), (h0, .inr (12, [.ref h1, .ref h2, .ref h3, .ref h4, .ref h5, .ref h6, .ref h7, .ref h8, .ref h9, .int 0, .int 0, .int 10, .int 0, .int 0, .int (-9), .int 0, .ref h10, .ref h11, .ref h12, .ref h13, .int 0, .int 0, .int 0, .ref h14, .int 0, .int 0, .int 0, .int (-9), .int 0, .ref h15, .int 0, .int 0, .int 0, .ref h16, .ref h17, .ref h18, .int 0, .int 0]))] := hD
  refine lv_if_eq (tgt := 16) hx hb dX12_mendOf_5 (by decide) (fun hc => ?_) (fun hc => ?_)
  rotate_left; exact absurd hc (by decide)
  refine lv_aload_n hx hb dX12_mendOf_16 rfl (lv_at hl 0 rfl) ?_
  refine lv_iconst (v := (-1)) hx hb dX12_mendOf_17 (by decide) ?_
  refine z_calli (wc := [(h1, .inl (cI, 7, .inl (fun _ => 0))), (h0, .inr (12, [.ref h1, .ref h2, .ref h3, .ref h4, .ref h5, .ref h6, .ref h7, .ref h8, .ref h9, .int 0, .int 0, .int 10, .int 0, .int 0, .int (-9), .int 0, .ref h10, .ref h11, .ref h12, .ref h13, .int 0, .int 0, .int 0, .ref h14, .int 0, .int 0, .int 0, .int (-9), .int 0, .ref h15, .int 0, .int 0, .int 0, .ref h16, .ref h17, .ref h18, .int 0, .int 0]))]) (wr := []) (w1 := (fun _ => [(h1, .inl (cI, 7, .inl (upd (fun _ => 0) 1 1))), (h0, .inr (12, [.ref h1, .ref h2, .ref h3, .ref h4, .ref h5, .ref h6, .ref h7, .ref h8, .ref h9, .int 0, .int 0, .int 10, .int 0, .int 0, .int (-9), .int 0, .ref h10, .ref h11, .ref h12, .ref h13, .int 0, .int 0, .int 0, .ref h14, .int 0, .int 0, .int 0, .int (-9), .int 0, .ref h15, .int 0, .int 0, .int 0, .ref h16, .ref h17, .ref h18, .int 0, .int 0]))])) (va_runV (As := [.int (-1)]) (rest := []) ⟨hx, hb, hml, hown, hts⟩ (kX12_no_3 l dC dI cI cQ h0 h1 h2 h3 h4 h5 h6 h7 h8 h9 h10 h11 h12 h13 h14 h15 h16 h17 h18 H.size) (cwV 1 hts gv_X12_mendOf_X12_no_89 rfl rfl rfl (by decide +kernel) ⟨Nat.le_of_ble_eq_true rfl, Nat.le_of_ble_eq_true rfl⟩) ⟨z_blind, va_recv hK hP (ci := 12) (q0 := 1) rfl rfl, z_pre hZ hP hD [0, 1] rfl (by decide)⟩ rfl rfl hl.1 rfl (lv_room (Nat.le_of_ble_eq_true rfl)) dX12_mendOf_18 ⟨Nat.le_of_ble_eq_true rfl, Nat.le_of_ble_eq_true rfl⟩) hP hD hS hA [0, 1] [] rfl rfl (by decide) (by decide) (fun _ H locs hP hD hS => ?_)
  have hP : va_P (dC, dI) vwCl [(h1, .inl (cI, 7, .inl (upd (fun _ => 0) 1 1))), (h0, .inr (12, [.ref h1, .ref h2, .ref h3, .ref h4, .ref h5, .ref h6, .ref h7, .ref h8, .ref h9, .int 0, .int 0, .int 10, .int 0, .int 0, .int (-9), .int 0, .ref h10, .ref h11, .ref h12, .ref h13, .int 0, .int 0, .int 0, .ref h14, .int 0, .int 0, .int 0, .int (-9), .int 0, .ref h15, .int 0, .int 0, .int 0, .ref h16, .ref h17, .ref h18, .int 0, .int 0]))] H := hP
  have hD : va_D A [(h1, .inl (cI, 7, .inl (upd (fun _ => 0) 1 1))), (h0, .inr (12, [.ref h1, .ref h2, .ref h3, .ref h4, .ref h5, .ref h6, .ref h7, .ref h8, .ref h9, .int 0, .int 0, .int 10, .int 0, .int 0, .int (-9), .int 0, .ref h10, .ref h11, .ref h12, .ref h13, .int 0, .int 0, .int 0, .ref h14, .int 0, .int 0, .int 0, .int (-9), .int 0, .ref h15, .int 0, .int 0, .int 0, .ref h16, .ref h17, .ref h18, .int 0, .int 0]))] := hD
  have hP9 := hP.sub (ws' := []) [] rfl
  have hD9 := hD.sub (ws' := []) [] (by decide) rfl
  exact W.iret (v := (-1)) hx hb hr (fun t ht hW => ⟨⟨(-1), (fun k => [].getD k 0), rfl, rfl, by rw [ht]; exact hP9, hD9⟩, hS.F ht⟩) hS.2.2 dX12_mendOf_21
set_option maxHeartbeats 4000000 in
set_option maxRecDepth 100000 in
theorem kX12_prompted (l : Launch) (dC : Nat → ClassId) (dI : Nat → Nat → Nat) (cI cQ : ClassId) (h0 h1 h2 h3 h4 h5 h6 h7 h8 h9 h10 h11 h12 h13 h14 h15 h16 h17 h18 : Nat) (sz : Nat) : Met l yX12_prompted vsX12_prompted ({ frames := 1, cells := 0, slots := 0, locals := 21 }) (va_Pc [.ref h0] (zB dC dI cI cQ [(h0, .inr (12, [.ref h1, .ref h2, .ref h3, .ref h4, .ref h5, .ref h6, .ref h7, .ref h8, .ref h9, .int 0, .int 0, .int 10, .int 0, .int 0, .int (-9), .int 0, .ref h10, .ref h11, .ref h12, .ref h13, .int 0, .int 0, .int 0, .ref h14, .int 0, .int 0, .int 0, .int (-9), .int 0, .ref h15, .int 0, .int 0, .int 0, .ref h16, .ref h17, .ref h18, .int 0, .int 0])), (h1, .inl (cI, 7, .inl (fun _ => 0)))] sz)) (zQi dC dI (va_A [(h0, .inr (12, [.ref h1, .ref h2, .ref h3, .ref h4, .ref h5, .ref h6, .ref h7, .ref h8, .ref h9, .int 0, .int 0, .int 10, .int 0, .int 0, .int (-9), .int 0, .ref h10, .ref h11, .ref h12, .ref h13, .int 0, .int 0, .int 0, .ref h14, .int 0, .int 0, .int 0, .int (-9), .int 0, .ref h15, .int 0, .int 0, .int 0, .ref h16, .ref h17, .ref h18, .int 0, .int 0])), (h1, .inl (cI, 7, .inl (fun _ => 0)))] sz) (fun ad => []) (-3)) 0 0 (va_A [(h0, .inr (12, [.ref h1, .ref h2, .ref h3, .ref h4, .ref h5, .ref h6, .ref h7, .ref h8, .ref h9, .int 0, .int 0, .int 10, .int 0, .int 0, .int (-9), .int 0, .ref h10, .ref h11, .ref h12, .ref h13, .int 0, .int 0, .int 0, .ref h14, .int 0, .int 0, .int 0, .int (-9), .int 0, .ref h15, .int 0, .int 0, .int 0, .ref h16, .ref h17, .ref h18, .int 0, .int 0])), (h1, .inl (cI, 7, .inl (fun _ => 0)))] sz) := by
  refine Met.ofW (cc := cX12_prompted) (maxL := 3) (ret := (some .int)) (by decide) rfl ?_
  intro p e s m args below meth c s₁ B hml hv
  obtain ⟨rfl, hsz, hP, hZ, hD0⟩ := hv
  obtain ⟨hK, hAO, hN⟩ := id hZ
  have hx := B.exec
  have hb := B.bytes
  have hr := B.returns
  have hts := atoms_spec (ws := vsX12_prompted) B.pre
  have hown : s.vm.findClass RX12 = some m.cls := findClass_of_methodNamed B.named
  have hlocks := B.notSynchronized
  subst hsz
  have hD := hD0.self (sz := s.heap.size)
  generalize hAe : va_A [(h0, .inr (12, [.ref h1, .ref h2, .ref h3, .ref h4, .ref h5, .ref h6, .ref h7, .ref h8, .ref h9, .int 0, .int 0, .int 10, .int 0, .int 0, .int (-9), .int 0, .ref h10, .ref h11, .ref h12, .ref h13, .int 0, .int 0, .int 0, .ref h14, .int 0, .int 0, .int 0, .int (-9), .int 0, .ref h15, .int 0, .int 0, .int 0, .ref h16, .ref h17, .ref h18, .int 0, .int 0])), (h1, .inl (cI, 7, .inl (fun _ => 0)))] s.heap.size = A at hD ⊢
  have hA : ∀ q : Nat, s.heap.size ≤ q → A q := fun q h => by rw [← hAe]; exact Or.inr h
  have hS : va_S A s.heap s.heap [] := va_S.rf
  have hP : va_P (dC, dI) vwCl [(h0, .inr (12, [.ref h1, .ref h2, .ref h3, .ref h4, .ref h5, .ref h6, .ref h7, .ref h8, .ref h9, .int 0, .int 0, .int 10, .int 0, .int 0, .int (-9), .int 0, .ref h10, .ref h11, .ref h12, .ref h13, .int 0, .int 0, .int 0, .ref h14, .int 0, .int 0, .int 0, .int (-9), .int 0, .ref h15, .int 0, .int 0, .int 0, .ref h16, .ref h17, .ref h18, .int 0, .int 0])), (h1, .inl (cI, 7, .inl (fun _ => 0)))] s.heap := hP
  have hl := lv_entry ([.ref h0]) (n := 3) (Nat.le_of_ble_eq_true rfl)
  rw [lg_entry_eq]
  generalize (lg_sl ([.ref h0]) ++ List.replicate (3 - (lg_sl ([.ref h0])).length) Slot.unset).toArray = ls at hl ⊢
  have hl : lv_has ls 3 [(0, .ref h0)] := hl
  refine lv_aload_n hx hb dX12_prompted_0 rfl (lv_at hl 0 rfl) ?_
  refine va_get (D := (dC, dI)) (ci := 12) (v := .int 0) (C := RX12) (T := TX12) (N := 38) hx hb hts in_X12_prompted_X12 hown hK hP 0 rfl rfl 10 (by decide) (hts (.fieldLink RX12 79 "EachOnHisCueModel" "lines" "I") (by decide +kernel)) (fun _ h9 => h9) rfl dX12_prompted_1 ?_
  refine lv_if_ne (tgt := 14) hx hb dX12_prompted_4 (by decide) (fun hc => ?_) (fun hc => ?_)
  · exact absurd hc (by decide)
  refine lv_aload_n hx hb dX12_prompted_7 rfl (lv_at hl 0 rfl) ?_
  refine lv_bipush (v := (-3)) hx hb dX12_prompted_8 (by decide) ?_
  refine z_calli (wc := [(h0, .inr (12, [.ref h1, .ref h2, .ref h3, .ref h4, .ref h5, .ref h6, .ref h7, .ref h8, .ref h9, .int 0, .int 0, .int 10, .int 0, .int 0, .int (-9), .int 0, .ref h10, .ref h11, .ref h12, .ref h13, .int 0, .int 0, .int 0, .ref h14, .int 0, .int 0, .int 0, .int (-9), .int 0, .ref h15, .int 0, .int 0, .int 0, .ref h16, .ref h17, .ref h18, .int 0, .int 0])), (h1, .inl (cI, 7, .inl (fun _ => 0)))]) (wr := []) (w1 := (fun _ => [(h0, .inr (12, [.ref h1, .ref h2, .ref h3, .ref h4, .ref h5, .ref h6, .ref h7, .ref h8, .ref h9, .int 0, .int 0, .int 10, .int 0, .int 0, .int (-9), .int 0, .ref h10, .ref h11, .ref h12, .ref h13, .int 0, .int 0, .int 0, .ref h14, .int 0, .int 0, .int 0, .int (-9), .int 0, .ref h15, .int 0, .int 0, .int 0, .ref h16, .ref h17, .ref h18, .int 0, .int 0])), (h1, .inl (cI, 7, .inl (upd (fun _ => 0) 3 1)))])) (va_runV (As := [.int (-3)]) (rest := []) ⟨hx, hb, hml, hown, hts⟩ (kX12_no_4 l dC dI cI cQ h0 h1 h2 h3 h4 h5 h6 h7 h8 h9 h10 h11 h12 h13 h14 h15 h16 h17 h18 s.heap.size) (cwV 1 hts gv_X12_prompted_X12_no_89 rfl rfl rfl (by decide +kernel) ⟨Nat.le_of_ble_eq_true rfl, Nat.le_of_ble_eq_true rfl⟩) ⟨z_blind, va_recv hK hP (ci := 12) (q0 := 0) rfl rfl, z_pre hZ hP hD [0, 1] rfl (by decide)⟩ rfl rfl hl.1 rfl (lv_room (Nat.le_of_ble_eq_true rfl)) dX12_prompted_10 ⟨Nat.le_of_ble_eq_true rfl, Nat.le_of_ble_eq_true rfl⟩) hP hD hS hA [0, 1] [] rfl rfl (by decide) (by decide) (fun _ H locs hP hD hS => ?_)
  have hP : va_P (dC, dI) vwCl [(h0, .inr (12, [.ref h1, .ref h2, .ref h3, .ref h4, .ref h5, .ref h6, .ref h7, .ref h8, .ref h9, .int 0, .int 0, .int 10, .int 0, .int 0, .int (-9), .int 0, .ref h10, .ref h11, .ref h12, .ref h13, .int 0, .int 0, .int 0, .ref h14, .int 0, .int 0, .int 0, .int (-9), .int 0, .ref h15, .int 0, .int 0, .int 0, .ref h16, .ref h17, .ref h18, .int 0, .int 0])), (h1, .inl (cI, 7, .inl (upd (fun _ => 0) 3 1)))] H := hP
  have hD : va_D A [(h0, .inr (12, [.ref h1, .ref h2, .ref h3, .ref h4, .ref h5, .ref h6, .ref h7, .ref h8, .ref h9, .int 0, .int 0, .int 10, .int 0, .int 0, .int (-9), .int 0, .ref h10, .ref h11, .ref h12, .ref h13, .int 0, .int 0, .int 0, .ref h14, .int 0, .int 0, .int 0, .int (-9), .int 0, .ref h15, .int 0, .int 0, .int 0, .ref h16, .ref h17, .ref h18, .int 0, .int 0])), (h1, .inl (cI, 7, .inl (upd (fun _ => 0) 3 1)))] := hD
  have hP9 := hP.sub (ws' := []) [] rfl
  have hD9 := hD.sub (ws' := []) [] (by decide) rfl
  exact W.iret (v := (-3)) hx hb hr (fun t ht hW => ⟨⟨(-3), (fun k => [].getD k 0), rfl, rfl, by rw [ht]; exact hP9, hD9⟩, hS.F ht⟩) hS.2.2 dX12_prompted_13
set_option maxHeartbeats 4000000 in
set_option maxRecDepth 100000 in
theorem kX12_isIn_3 (l : Launch) (dC : Nat → ClassId) (dI : Nat → Nat → Nat) (cI cQ : ClassId) (p0 : Int32) (hp0l : -2147483648 ≤ p0.toInt) (hp0h : p0.toInt ≤ -1) (sz : Nat) : Met l yX12_isIn vsX12_isIn ({ frames := 0, cells := 0, slots := 0, locals := 0 }) (va_Pc [.int p0, .int 0, .int 1] (zB dC dI cI cQ [] sz)) (zQi dC dI (va_A [] sz) (fun ad => []) 0) 0 0 (va_A [] sz) := by
  refine Met.ofW (cc := cX12_isIn) (maxL := 3) (ret := (some .boolean)) (by decide) rfl ?_
  intro p e s m args below meth c s₁ B hml hv
  obtain ⟨rfl, hsz, hP, hZ, hD0⟩ := hv
  obtain ⟨hK, hAO, hN⟩ := id hZ
  have hx := B.exec
  have hb := B.bytes
  have hr := B.returns
  have hts := atoms_spec (ws := vsX12_isIn) B.pre
  have hown : s.vm.findClass RX12 = some m.cls := findClass_of_methodNamed B.named
  have hlocks := B.notSynchronized
  subst hsz
  have hD := hD0.self (sz := s.heap.size)
  generalize hAe : va_A [] s.heap.size = A at hD ⊢
  have hA : ∀ q : Nat, s.heap.size ≤ q → A q := fun q h => by rw [← hAe]; exact Or.inr h
  have hS : va_S A s.heap s.heap [] := va_S.rf
  have hP : va_P (dC, dI) vwCl [] s.heap := hP
  have hl := lv_entry ([.int p0, .int 0, .int 1]) (n := 3) (Nat.le_of_ble_eq_true rfl)
  rw [lg_entry_eq]
  generalize (lg_sl ([.int p0, .int 0, .int 1]) ++ List.replicate (3 - (lg_sl ([.int p0, .int 0, .int 1])).length) Slot.unset).toArray = ls at hl ⊢
  have hl : lv_has ls 3 [(0, .int p0), (1, .int 0), (2, .int 1)] := hl
  refine lv_iload_n hx hb dX12_isIn_0 rfl (lv_at hl 0 rfl) ?_
  refine lv_iload_n hx hb dX12_isIn_1 rfl (lv_at hl 1 rfl) ?_
  refine lv_icmp_lt (tgt := 14) hx hb dX12_isIn_2 (by decide) (fun hc => ?_) (fun hc => ?_)
  rotate_left; exact absurd ((fa_lt _ _).mpr (by rw [show (0 : Int32).toInt = 0 from by decide]; omega)) hc
  refine lv_iconst (v := 0) hx hb dX12_isIn_14 (by decide) ?_
  have hP9 := hP.sub (ws' := []) [] rfl
  have hD9 := hD.sub (ws' := []) [] (by decide) rfl
  exact W.zret (v := 0) hx hb hr rfl (fun t ht hW => ⟨⟨0, (fun k => [].getD k 0), rfl, rfl, by rw [ht]; exact hP9, hD9⟩, hS.F ht⟩) hS.2.2 dX12_isIn_15
