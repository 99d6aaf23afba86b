set_option maxHeartbeats 4000000 in
set_option maxRecDepth 100000 in
theorem kX12_image (l : Launch) (dC : Nat → ClassId) (dI : Nat → Nat → Nat) (cI cQ : ClassId) (h0 h1 h2 h3 h4 h5 h6 h7 h8 h9 h10 h11 h12 h13 h14 h15 h16 h17 h18 : Nat) (sz : Nat) : Met l yX12_image vsX12_image ({ frames := 2, cells := 0, slots := 0, locals := 44 }) (va_Pc [.ref h0] (zB dC dI cI cQ [(h0, .inr (12, [.ref h10, .ref h1, .ref h2, .ref h3, .ref h4, .ref h5, .ref h6, .ref h7, .ref h8, .int 0, .int 0, .int 10, .int 0, .int 0, .int (-9), .int 0, .ref h11, .ref h12, .ref h13, .ref h14, .int 0, .int 0, .int 0, .ref h9, .int 0, .int 0, .int 0, .int (-9), .int 0, .ref h15, .int 0, .int 0, .int 0, .ref h16, .ref h17, .ref h18, .int 0, .int 0])), (h1, .inl (cI, 5, .inl (fun _ => 0))), (h2, .inl (cI, 5, .inl (fun _ => 0))), (h3, .inl (cI, 5, .inl (fun _ => 0))), (h4, .inl (cI, 12, .inl (fun _ => 0))), (h5, .inl (cI, 12, .inl (fun _ => 0))), (h6, .inl (cI, 12, .inl (fun _ => 0))), (h7, .inl (cI, 12, .inl (fun _ => 0))), (h8, .inl (cI, 60, .inl (fun _ => 0))), (h9, .inl (cI, 300, .inl (fun _ => 0)))] sz)) (zQi dC dI (va_A [(h0, .inr (12, [.ref h10, .ref h1, .ref h2, .ref h3, .ref h4, .ref h5, .ref h6, .ref h7, .ref h8, .int 0, .int 0, .int 10, .int 0, .int 0, .int (-9), .int 0, .ref h11, .ref h12, .ref h13, .ref h14, .int 0, .int 0, .int 0, .ref h9, .int 0, .int 0, .int 0, .int (-9), .int 0, .ref h15, .int 0, .int 0, .int 0, .ref h16, .ref h17, .ref h18, .int 0, .int 0])), (h1, .inl (cI, 5, .inl (fun _ => 0))), (h2, .inl (cI, 5, .inl (fun _ => 0))), (h3, .inl (cI, 5, .inl (fun _ => 0))), (h4, .inl (cI, 12, .inl (fun _ => 0))), (h5, .inl (cI, 12, .inl (fun _ => 0))), (h6, .inl (cI, 12, .inl (fun _ => 0))), (h7, .inl (cI, 12, .inl (fun _ => 0))), (h8, .inl (cI, 60, .inl (fun _ => 0))), (h9, .inl (cI, 300, .inl (fun _ => 0)))] sz) (fun ad => []) 0) 0 0 (va_A [(h0, .inr (12, [.ref h10, .ref h1, .ref h2, .ref h3, .ref h4, .ref h5, .ref h6, .ref h7, .ref h8, .int 0, .int 0, .int 10, .int 0, .int 0, .int (-9), .int 0, .ref h11, .ref h12, .ref h13, .ref h14, .int 0, .int 0, .int 0, .ref h9, .int 0, .int 0, .int 0, .int (-9), .int 0, .ref h15, .int 0, .int 0, .int 0, .ref h16, .ref h17, .ref h18, .int 0, .int 0])), (h1, .inl (cI, 5, .inl (fun _ => 0))), (h2, .inl (cI, 5, .inl (fun _ => 0))), (h3, .inl (cI, 5, .inl (fun _ => 0))), (h4, .inl (cI, 12, .inl (fun _ => 0))), (h5, .inl (cI, 12, .inl (fun _ => 0))), (h6, .inl (cI, 12, .inl (fun _ => 0))), (h7, .inl (cI, 12, .inl (fun _ => 0))), (h8, .inl (cI, 60, .inl (fun _ => 0))), (h9, .inl (cI, 300, .inl (fun _ => 0)))] sz) := by
  refine Met.ofW (cc := cX12_image) (maxL := 1) (ret := (some .int)) (by decide) rfl ?_
  intro p e s m args below meth c s₁ B hml hv
  obtain ⟨rfl, hsz, hP, hZ, hD0⟩ := hv
  obtain ⟨hK, hAO, hN⟩ := id hZ
  have hx := B.exec
  have hb := B.bytes
  have hr := B.returns
  have hts := atoms_spec (ws := vsX12_image) B.pre
  have hown : s.vm.findClass RX12 = some m.cls := findClass_of_methodNamed B.named
  have hlocks := B.notSynchronized
  subst hsz
  have hD := hD0.self (sz := s.heap.size)
  generalize hAe : va_A [(h0, .inr (12, [.ref h10, .ref h1, .ref h2, .ref h3, .ref h4, .ref h5, .ref h6, .ref h7, .ref h8, .int 0, .int 0, .int 10, .int 0, .int 0, .int (-9), .int 0, .ref h11, .ref h12, .ref h13, .ref h14, .int 0, .int 0, .int 0, .ref h9, .int 0, .int 0, .int 0, .int (-9), .int 0, .ref h15, .int 0, .int 0, .int 0, .ref h16, .ref h17, .ref h18, .int 0, .int 0])), (h1, .inl (cI, 5, .inl (fun _ => 0))), (h2, .inl (cI, 5, .inl (fun _ => 0))), (h3, .inl (cI, 5, .inl (fun _ => 0))), (h4, .inl (cI, 12, .inl (fun _ => 0))), (h5, .inl (cI, 12, .inl (fun _ => 0))), (h6, .inl (cI, 12, .inl (fun _ => 0))), (h7, .inl (cI, 12, .inl (fun _ => 0))), (h8, .inl (cI, 60, .inl (fun _ => 0))), (h9, .inl (cI, 300, .inl (fun _ => 0)))] s.heap.size = A at hD ⊢
  have hA : ∀ q : Nat, s.heap.size ≤ q → A q := fun q h => by rw [← hAe]; exact Or.inr h
  have hS : va_S A s.heap s.heap [] := va_S.rf
  have hP : va_P (dC, dI) vwCl [(h0, .inr (12, [.ref h10, .ref h1, .ref h2, .ref h3, .ref h4, .ref h5, .ref h6, .ref h7, .ref h8, .int 0, .int 0, .int 10, .int 0, .int 0, .int (-9), .int 0, .ref h11, .ref h12, .ref h13, .ref h14, .int 0, .int 0, .int 0, .ref h9, .int 0, .int 0, .int 0, .int (-9), .int 0, .ref h15, .int 0, .int 0, .int 0, .ref h16, .ref h17, .ref h18, .int 0, .int 0])), (h1, .inl (cI, 5, .inl (fun _ => 0))), (h2, .inl (cI, 5, .inl (fun _ => 0))), (h3, .inl (cI, 5, .inl (fun _ => 0))), (h4, .inl (cI, 12, .inl (fun _ => 0))), (h5, .inl (cI, 12, .inl (fun _ => 0))), (h6, .inl (cI, 12, .inl (fun _ => 0))), (h7, .inl (cI, 12, .inl (fun _ => 0))), (h8, .inl (cI, 60, .inl (fun _ => 0))), (h9, .inl (cI, 300, .inl (fun _ => 0)))] s.heap := hP
  have hl := lv_entry ([.ref h0]) (n := 1) (Nat.le_of_ble_eq_true rfl)
  rw [lg_entry_eq]
  generalize (lg_sl ([.ref h0]) ++ List.replicate (1 - (lg_sl ([.ref h0])).length) Slot.unset).toArray = ls at hl ⊢
  have hl : lv_has ls 1 [(0, .ref h0)] := hl
  refine lv_aload_n hx hb dX12_image_0 rfl (lv_at hl 0 rfl) ?_
  refine lv_iconst (v := 1) hx hb dX12_image_1 (by decide) ?_
  refine va_put (D := (dC, dI)) (ci := 12) (v := .int 1) (ty := .boolean) (C := RX12) (T := TX12) (N := 38) hx hb hts in_X12_image_X12 tyX12 tyX12_ok nmX12 hown hK hP hD hS 0 rfl rfl 24 (by decide) (hts (.fieldLink RX12 160 "EachOnHisCueModel" "hasImage" "Z") (by decide +kernel)) (fun _ h9 => h9) rfl (by decide +kernel) rfl rfl (Nat.le_of_ble_eq_true rfl) dX12_image_2 (fun H locs hP hD hS => ?_)
  have hP : va_P (dC, dI) vwCl [(h0, .inr (12, [.ref h10, .ref h1, .ref h2, .ref h3, .ref h4, .ref h5, .ref h6, .ref h7, .ref h8, .int 0, .int 0, .int 10, .int 0, .int 0, .int (-9), .int 0, .ref h11, .ref h12, .ref h13, .ref h14, .int 0, .int 0, .int 0, .ref h9, .int 1, .int 0, .int 0, .int (-9), .int 0, .ref h15, .int 0, .int 0, .int 0, .ref h16, .ref h17, .ref h18, .int 0, .int 0])), (h1, .inl (cI, 5, .inl (fun _ => 0))), (h2, .inl (cI, 5, .inl (fun _ => 0))), (h3, .inl (cI, 5, .inl (fun _ => 0))), (h4, .inl (cI, 12, .inl (fun _ => 0))), (h5, .inl (cI, 12, .inl (fun _ => 0))), (h6, .inl (cI, 12, .inl (fun _ => 0))), (h7, .inl (cI, 12, .inl (fun _ => 0))), (h8, .inl (cI, 60, .inl (fun _ => 0))), (h9, .inl (cI, 300, .inl (fun _ => 0)))] H := hP
  have hD : va_D A [(h0, .inr (12, [.ref h10, .ref h1, .ref h2, .ref h3, .ref h4, .ref h5, .ref h6, .ref h7, .ref h8, .int 0, .int 0, .int 10, .int 0, .int 0, .int (-9), .int 0, .ref h11, .ref h12, .ref h13, .ref h14, .int 0, .int 0, .int 0, .ref h9, .int 1, .int 0, .int 0, .int (-9), .int 0, .ref h15, .int 0, .int 0, .int 0, .ref h16, .ref h17, .ref h18, .int 0, .int 0])), (h1, .inl (cI, 5, .inl (fun _ => 0))), (h2, .inl (cI, 5, .inl (fun _ => 0))), (h3, .inl (cI, 5, .inl (fun _ => 0))), (h4, .inl (cI, 12, .inl (fun _ => 0))), (h5, .inl (cI, 12, .inl (fun _ => 0))), (h6, .inl (cI, 12, .inl (fun _ => 0))), (h7, .inl (cI, 12, .inl (fun _ => 0))), (h8, .inl (cI, 60, .inl (fun _ => 0))), (h9, .inl (cI, 300, .inl (fun _ => 0)))] := hD
  refine lv_aload_n hx hb dX12_image_5 rfl (lv_at hl 0 rfl) ?_
  refine lv_iconst (v := 0) hx hb dX12_image_6 (by decide) ?_
  refine lv_iconst (v := 1) hx hb dX12_image_7 (by decide) ?_
  refine z_callv (wc := [(h0, .inr (12, [.ref h10, .ref h1, .ref h2, .ref h3, .ref h4, .ref h5, .ref h6, .ref h7, .ref h8, .int 0, .int 0, .int 10, .int 0, .int 0, .int (-9), .int 0, .ref h11, .ref h12, .ref h13, .ref h14, .int 0, .int 0, .int 0, .ref h9, .int 1, .int 0, .int 0, .int (-9), .int 0, .ref h15, .int 0, .int 0, .int 0, .ref h16, .ref h17, .ref h18, .int 0, .int 0])), (h1, .inl (cI, 5, .inl (fun _ => 0))), (h2, .inl (cI, 5, .inl (fun _ => 0))), (h3, .inl (cI, 5, .inl (fun _ => 0))), (h4, .inl (cI, 12, .inl (fun _ => 0))), (h5, .inl (cI, 12, .inl (fun _ => 0))), (h6, .inl (cI, 12, .inl (fun _ => 0))), (h7, .inl (cI, 12, .inl (fun _ => 0))), (h8, .inl (cI, 60, .inl (fun _ => 0))), (h9, .inl (cI, 300, .inl (fun _ => 0)))]) (wr := []) (w1 := (fun _ => [(h0, .inr (12, [.ref h10, .ref h1, .ref h2, .ref h3, .ref h4, .ref h5, .ref h6, .ref h7, .ref h8, .int 0, .int 0, .int 10, .int 0, .int 0, .int (-9), .int 0, .ref h11, .ref h12, .ref h13, .ref h14, .int 0, .int 0, .int 0, .ref h9, .int 1, .int 1, .int 130, .int (-9), .int 0, .ref h15, .int 0, .int 0, .int 0, .ref h16, .ref h17, .ref h18, .int 0, .int 0])), (h1, .inl (cI, 5, .inl (fun _ => 0))), (h2, .inl (cI, 5, .inl (fun _ => 0))), (h3, .inl (cI, 5, .inl (fun _ => 0))), (h4, .inl (cI, 12, .inl (fun _ => 0))), (h5, .inl (cI, 12, .inl (fun _ => 0))), (h6, .inl (cI, 12, .inl (fun _ => 0))), (h7, .inl (cI, 12, .inl (fun _ => 0))), (h8, .inl (cI, 60, .inl (fun _ => 0))), (h9, .inl (cI, 300, .inl (upd (upd (upd (upd (upd (fun _ => 0) 125 10) 126 0) 127 0) 128 (-9)) 129 0)))])) (va_runV (As := [.int 0, .int 1]) (rest := []) ⟨hx, hb, hml, hown, hts⟩ (kX12_passesAll l dC dI cI cQ h0 h1 h2 h3 h4 h5 h6 h7 h8 h9 h10 h11 h12 h13 h14 h15 h16 h17 h18 H.size) (cwV 2 hts gv_X12_image_X12_passesAll_124 rfl rfl rfl (by decide +kernel) ⟨Nat.le_of_ble_eq_true rfl, Nat.le_of_ble_eq_true rfl⟩) ⟨z_blind, va_recv hK hP (ci := 12) (q0 := 0) rfl rfl, z_pre hZ hP hD [0, 1, 2, 3, 4, 5, 6, 7, 8, 9] rfl (by decide)⟩ rfl rfl hl.1 rfl (lv_room (Nat.le_of_ble_eq_true rfl)) dX12_image_8 ⟨Nat.le_of_ble_eq_true rfl, Nat.le_of_ble_eq_true rfl⟩) hP hD hS hA [0, 1, 2, 3, 4, 5, 6, 7, 8, 9] [] rfl rfl (by decide) (by decide) (fun _ H locs hP hD hS => ?_)
  have hP : va_P (dC, dI) vwCl [(h0, .inr (12, [.ref h10, .ref h1, .ref h2, .ref h3, .ref h4, .ref h5, .ref h6, .ref h7, .ref h8, .int 0, .int 0, .int 10, .int 0, .int 0, .int (-9), .int 0, .ref h11, .ref h12, .ref h13, .ref h14, .int 0, .int 0, .int 0, .ref h9, .int 1, .int 1, .int 130, .int (-9), .int 0, .ref h15, .int 0, .int 0, .int 0, .ref h16, .ref h17, .ref h18, .int 0, .int 0])), (h1, .inl (cI, 5, .inl (fun _ => 0))), (h2, .inl (cI, 5, .inl (fun _ => 0))), (h3, .inl (cI, 5, .inl (fun _ => 0))), (h4, .inl (cI, 12, .inl (fun _ => 0))), (h5, .inl (cI, 12, .inl (fun _ => 0))), (h6, .inl (cI, 12, .inl (fun _ => 0))), (h7, .inl (cI, 12, .inl (fun _ => 0))), (h8, .inl (cI, 60, .inl (fun _ => 0))), (h9, .inl (cI, 300, .inl (upd (upd (upd (upd (upd (fun _ => 0) 125 10) 126 0) 127 0) 128 (-9)) 129 0)))] H := hP
  have hD : va_D A [(h0, .inr (12, [.ref h10, .ref h1, .ref h2, .ref h3, .ref h4, .ref h5, .ref h6, .ref h7, .ref h8, .int 0, .int 0, .int 10, .int 0, .int 0, .int (-9), .int 0, .ref h11, .ref h12, .ref h13, .ref h14, .int 0, .int 0, .int 0, .ref h9, .int 1, .int 1, .int 130, .int (-9), .int 0, .ref h15, .int 0, .int 0, .int 0, .ref h16, .ref h17, .ref h18, .int 0, .int 0])), (h1, .inl (cI, 5, .inl (fun _ => 0))), (h2, .inl (cI, 5, .inl (fun _ => 0))), (h3, .inl (cI, 5, .inl (fun _ => 0))), (h4, .inl (cI, 12, .inl (fun _ => 0))), (h5, .inl (cI, 12, .inl (fun _ => 0))), (h6, .inl (cI, 12, .inl (fun _ => 0))), (h7, .inl (cI, 12, .inl (fun _ => 0))), (h8, .inl (cI, 60, .inl (fun _ => 0))), (h9, .inl (cI, 300, .inl (upd (upd (upd (upd (upd (fun _ => 0) 125 10) 126 0) 127 0) 128 (-9)) 129 0)))] := hD
  refine lv_aload_n hx hb dX12_image_11 rfl (lv_at hl 0 rfl) ?_
  refine va_get (D := (dC, dI)) (ci := 12) (v := .int 0) (C := RX12) (T := TX12) (N := 38) hx hb hts in_X12_image_X12 hown hK hP 0 rfl rfl 10 (by decide) (hts (.fieldLink RX12 79 "EachOnHisCueModel" "lines" "I") (by decide +kernel)) (fun _ h9 => h9) rfl dX12_image_12 ?_
  have hP9 := hP.sub (ws' := []) [] rfl
  have hD9 := hD.sub (ws' := []) [] (by decide) rfl
  exact W.iret (v := 0) hx hb hr (fun t ht hW => ⟨⟨0, (fun k => [].getD k 0), rfl, rfl, by rw [ht]; exact hP9, hD9⟩, hS.F ht⟩) hS.2.2 dX12_image_15
set_option maxHeartbeats 4000000 in
set_option maxRecDepth 100000 in
theorem kX12_restore (l : Launch) (dC : Nat → ClassId) (dI : Nat → Nat → Nat) (cI cQ : ClassId) (h0 h1 h2 h3 h4 h5 h6 h7 h8 h9 h10 h11 h12 h13 h14 h15 h16 h17 h18 : Nat) (sz : Nat) : Met l yX12_restore vsX12_restore ({ frames := 1, cells := 0, slots := 0, locals := 21 }) (va_Pc [.ref h0] (zB dC dI cI cQ [(h0, .inr (12, [.ref h1, .ref h2, .ref h3, .ref h4, .ref h5, .ref h6, .ref h7, .ref h8, .ref h9, .int 0, .int 0, .int 10, .int 0, .int 0, .int (-9), .int 0, .ref h10, .ref h11, .ref h12, .ref h13, .int 0, .int 0, .int 0, .ref h14, .int 0, .int 0, .int 0, .int (-9), .int 0, .ref h15, .int 0, .int 0, .int 0, .ref h16, .ref h17, .ref h18, .int 0, .int 0])), (h1, .inl (cI, 7, .inl (fun _ => 0)))] sz)) (zQi dC dI (va_A [(h0, .inr (12, [.ref h1, .ref h2, .ref h3, .ref h4, .ref h5, .ref h6, .ref h7, .ref h8, .ref h9, .int 0, .int 0, .int 10, .int 0, .int 0, .int (-9), .int 0, .ref h10, .ref h11, .ref h12, .ref h13, .int 0, .int 0, .int 0, .ref h14, .int 0, .int 0, .int 0, .int (-9), .int 0, .ref h15, .int 0, .int 0, .int 0, .ref h16, .ref h17, .ref h18, .int 0, .int 0])), (h1, .inl (cI, 7, .inl (fun _ => 0)))] sz) (fun ad => []) (-3)) 0 0 (va_A [(h0, .inr (12, [.ref h1, .ref h2, .ref h3, .ref h4, .ref h5, .ref h6, .ref h7, .ref h8, .ref h9, .int 0, .int 0, .int 10, .int 0, .int 0, .int (-9), .int 0, .ref h10, .ref h11, .ref h12, .ref h13, .int 0, .int 0, .int 0, .ref h14, .int 0, .int 0, .int 0, .int (-9), .int 0, .ref h15, .int 0, .int 0, .int 0, .ref h16, .ref h17, .ref h18, .int 0, .int 0])), (h1, .inl (cI, 7, .inl (fun _ => 0)))] sz) := by
  refine Met.ofW (cc := cX12_restore) (maxL := 1) (ret := (some .int)) (by decide) rfl ?_
  intro p e s m args below meth c s₁ B hml hv
  obtain ⟨rfl, hsz, hP, hZ, hD0⟩ := hv
  obtain ⟨hK, hAO, hN⟩ := id hZ
  have hx := B.exec
  have hb := B.bytes
  have hr := B.returns
  have hts := atoms_spec (ws := vsX12_restore) B.pre
  have hown : s.vm.findClass RX12 = some m.cls := findClass_of_methodNamed B.named
  have hlocks := B.notSynchronized
  subst hsz
  have hD := hD0.self (sz := s.heap.size)
  generalize hAe : va_A [(h0, .inr (12, [.ref h1, .ref h2, .ref h3, .ref h4, .ref h5, .ref h6, .ref h7, .ref h8, .ref h9, .int 0, .int 0, .int 10, .int 0, .int 0, .int (-9), .int 0, .ref h10, .ref h11, .ref h12, .ref h13, .int 0, .int 0, .int 0, .ref h14, .int 0, .int 0, .int 0, .int (-9), .int 0, .ref h15, .int 0, .int 0, .int 0, .ref h16, .ref h17, .ref h18, .int 0, .int 0])), (h1, .inl (cI, 7, .inl (fun _ => 0)))] s.heap.size = A at hD ⊢
  have hA : ∀ q : Nat, s.heap.size ≤ q → A q := fun q h => by rw [← hAe]; exact Or.inr h
  have hS : va_S A s.heap s.heap [] := va_S.rf
  have hP : va_P (dC, dI) vwCl [(h0, .inr (12, [.ref h1, .ref h2, .ref h3, .ref h4, .ref h5, .ref h6, .ref h7, .ref h8, .ref h9, .int 0, .int 0, .int 10, .int 0, .int 0, .int (-9), .int 0, .ref h10, .ref h11, .ref h12, .ref h13, .int 0, .int 0, .int 0, .ref h14, .int 0, .int 0, .int 0, .int (-9), .int 0, .ref h15, .int 0, .int 0, .int 0, .ref h16, .ref h17, .ref h18, .int 0, .int 0])), (h1, .inl (cI, 7, .inl (fun _ => 0)))] s.heap := hP
  have hl := lv_entry ([.ref h0]) (n := 1) (Nat.le_of_ble_eq_true rfl)
  rw [lg_entry_eq]
  generalize (lg_sl ([.ref h0]) ++ List.replicate (1 - (lg_sl ([.ref h0])).length) Slot.unset).toArray = ls at hl ⊢
  have hl : lv_has ls 1 [(0, .ref h0)] := hl
  refine lv_aload_n hx hb dX12_restore_0 rfl (lv_at hl 0 rfl) ?_
  refine va_get (D := (dC, dI)) (ci := 12) (v := .int 0) (C := RX12) (T := TX12) (N := 38) hx hb hts in_X12_restore_X12 hown hK hP 0 rfl rfl 24 (by decide) (hts (.fieldLink RX12 160 "EachOnHisCueModel" "hasImage" "Z") (by decide +kernel)) (fun _ h9 => h9) rfl dX12_restore_1 ?_
  refine lv_if_ne (tgt := 14) hx hb dX12_restore_4 (by decide) (fun hc => ?_) (fun hc => ?_)
  · exact absurd hc (by decide)
  refine lv_aload_n hx hb dX12_restore_7 rfl (lv_at hl 0 rfl) ?_
  refine lv_bipush (v := (-3)) hx hb dX12_restore_8 (by decide) ?_
  refine z_calli (wc := [(h0, .inr (12, [.ref h1, .ref h2, .ref h3, .ref h4, .ref h5, .ref h6, .ref h7, .ref h8, .ref h9, .int 0, .int 0, .int 10, .int 0, .int 0, .int (-9), .int 0, .ref h10, .ref h11, .ref h12, .ref h13, .int 0, .int 0, .int 0, .ref h14, .int 0, .int 0, .int 0, .int (-9), .int 0, .ref h15, .int 0, .int 0, .int 0, .ref h16, .ref h17, .ref h18, .int 0, .int 0])), (h1, .inl (cI, 7, .inl (fun _ => 0)))]) (wr := []) (w1 := (fun _ => [(h0, .inr (12, [.ref h1, .ref h2, .ref h3, .ref h4, .ref h5, .ref h6, .ref h7, .ref h8, .ref h9, .int 0, .int 0, .int 10, .int 0, .int 0, .int (-9), .int 0, .ref h10, .ref h11, .ref h12, .ref h13, .int 0, .int 0, .int 0, .ref h14, .int 0, .int 0, .int 0, .int (-9), .int 0, .ref h15, .int 0, .int 0, .int 0, .ref h16, .ref h17, .ref h18, .int 0, .int 0])), (h1, .inl (cI, 7, .inl (upd (fun _ => 0) 3 1)))])) (va_runV (As := [.int (-3)]) (rest := []) ⟨hx, hb, hml, hown, hts⟩ (kX12_no_4 l dC dI cI cQ h0 h1 h2 h3 h4 h5 h6 h7 h8 h9 h10 h11 h12 h13 h14 h15 h16 h17 h18 s.heap.size) (cwV 1 hts gv_X12_restore_X12_no_89 rfl rfl rfl (by decide +kernel) ⟨Nat.le_of_ble_eq_true rfl, Nat.le_of_ble_eq_true rfl⟩) ⟨z_blind, va_recv hK hP (ci := 12) (q0 := 0) rfl rfl, z_pre hZ hP hD [0, 1] rfl (by decide)⟩ rfl rfl hl.1 rfl (lv_room (Nat.le_of_ble_eq_true rfl)) dX12_restore_10 ⟨Nat.le_of_ble_eq_true rfl, Nat.le_of_ble_eq_true rfl⟩) hP hD hS hA [0, 1] [] rfl rfl (by decide) (by decide) (fun _ H locs hP hD hS => ?_)
  have hP : va_P (dC, dI) vwCl [(h0, .inr (12, [.ref h1, .ref h2, .ref h3, .ref h4, .ref h5, .ref h6, .ref h7, .ref h8, .ref h9, .int 0, .int 0, .int 10, .int 0, .int 0, .int (-9), .int 0, .ref h10, .ref h11, .ref h12, .ref h13, .int 0, .int 0, .int 0, .ref h14, .int 0, .int 0, .int 0, .int (-9), .int 0, .ref h15, .int 0, .int 0, .int 0, .ref h16, .ref h17, .ref h18, .int 0, .int 0])), (h1, .inl (cI, 7, .inl (upd (fun _ => 0) 3 1)))] H := hP
  have hD : va_D A [(h0, .inr (12, [.ref h1, .ref h2, .ref h3, .ref h4, .ref h5, .ref h6, .ref h7, .ref h8, .ref h9, .int 0, .int 0, .int 10, .int 0, .int 0, .int (-9), .int 0, .ref h10, .ref h11, .ref h12, .ref h13, .int 0, .int 0, .int 0, .ref h14, .int 0, .int 0, .int 0, .int (-9), .int 0, .ref h15, .int 0, .int 0, .int 0, .ref h16, .ref h17, .ref h18, .int 0, .int 0])), (h1, .inl (cI, 7, .inl (upd (fun _ => 0) 3 1)))] := hD
  have hP9 := hP.sub (ws' := []) [] rfl
  have hD9 := hD.sub (ws' := []) [] (by decide) rfl
  exact W.iret (v := (-3)) hx hb hr (fun t ht hW => ⟨⟨(-3), (fun k => [].getD k 0), rfl, rfl, by rw [ht]; exact hP9, hD9⟩, hS.F ht⟩) hS.2.2 dX12_restore_13
set_option maxHeartbeats 4000000 in
set_option maxRecDepth 100000 in
theorem kX12_isIn_6 (l : Launch) (dC : Nat → ClassId) (dI : Nat → Nat → Nat) (cI cQ : ClassId) (p0 : Int32) (hp0l : -2147483648 ≤ p0.toInt) (hp0h : p0.toInt ≤ -1) (sz : Nat) : Met l yX12_isIn vsX12_isIn ({ frames := 0, cells := 0, slots := 0, locals := 0 }) (va_Pc [.int p0, .int 11, .int 16] (zB dC dI cI cQ [] sz)) (zQi dC dI (va_A [] sz) (fun ad => []) 0) 0 0 (va_A [] sz) := by
  refine Met.ofW (cc := cX12_isIn) (maxL := 3) (ret := (some .boolean)) (by decide) rfl ?_
  intro p e s m args below meth c s₁ B hml hv
  obtain ⟨rfl, hsz, hP, hZ, hD0⟩ := hv
  obtain ⟨hK, hAO, hN⟩ := id hZ
  have hx := B.exec
  have hb := B.bytes
  have hr := B.returns
  have hts := atoms_spec (ws := vsX12_isIn) B.pre
  have hown : s.vm.findClass RX12 = some m.cls := findClass_of_methodNamed B.named
  have hlocks := B.notSynchronized
  subst hsz
  have hD := hD0.self (sz := s.heap.size)
  generalize hAe : va_A [] s.heap.size = A at hD ⊢
  have hA : ∀ q : Nat, s.heap.size ≤ q → A q := fun q h => by rw [← hAe]; exact Or.inr h
  have hS : va_S A s.heap s.heap [] := va_S.rf
  have hP : va_P (dC, dI) vwCl [] s.heap := hP
  have hl := lv_entry ([.int p0, .int 11, .int 16]) (n := 3) (Nat.le_of_ble_eq_true rfl)
  rw [lg_entry_eq]
  generalize (lg_sl ([.int p0, .int 11, .int 16]) ++ List.replicate (3 - (lg_sl ([.int p0, .int 11, .int 16])).length) Slot.unset).toArray = ls at hl ⊢
  have hl : lv_has ls 3 [(0, .int p0), (1, .int 11), (2, .int 16)] := hl
  refine lv_iload_n hx hb dX12_isIn_0 rfl (lv_at hl 0 rfl) ?_
  refine lv_iload_n hx hb dX12_isIn_1 rfl (lv_at hl 1 rfl) ?_
  refine lv_icmp_lt (tgt := 14) hx hb dX12_isIn_2 (by decide) (fun hc => ?_) (fun hc => ?_)
  rotate_left; exact absurd ((fa_lt _ _).mpr (by rw [show (11 : Int32).toInt = 11 from by decide]; omega)) hc
  refine lv_iconst (v := 0) hx hb dX12_isIn_14 (by decide) ?_
  have hP9 := hP.sub (ws' := []) [] rfl
  have hD9 := hD.sub (ws' := []) [] (by decide) rfl
  exact W.zret (v := 0) hx hb hr rfl (fun t ht hW => ⟨⟨0, (fun k => [].getD k 0), rfl, rfl, by rw [ht]; exact hP9, hD9⟩, hS.F ht⟩) hS.2.2 dX12_isIn_15
set_option maxHeartbeats 4000000 in
set_option maxRecDepth 100000 in
theorem kX12_count (l : Launch) (dC : Nat → ClassId) (dI : Nat → Nat → Nat) (cI cQ : ClassId) (h0 : Nat) (p0 : Int32) (hp0l : -2147483648 ≤ p0.toInt) (hp0h : p0.toInt ≤ -1) (sz : Nat) : Met l yX12_count vsX12_count ({ frames := 1, cells := 0, slots := 0, locals := 22 }) (va_Pc [.ref h0, .int p0] (zB dC dI cI cQ [] sz)) (zQi dC dI (va_A [] sz) (fun ad => []) (-9)) 0 0 (va_A [] sz) := by
  refine Met.ofW (cc := cX12_count) (maxL := 2) (ret := (some .int)) (by decide) rfl ?_
  intro p e s m args below meth c s₁ B hml hv
  obtain ⟨rfl, hsz, hP, hZ, hD0⟩ := hv
  obtain ⟨hK, hAO, hN⟩ := id hZ
  have hx := B.exec
  have hb := B.bytes
  have hr := B.returns
  have hts := atoms_spec (ws := vsX12_count) B.pre
  have hown : s.vm.findClass RX12 = some m.cls := findClass_of_methodNamed B.named
  have hlocks := B.notSynchronized
  subst hsz
  have hD := hD0.self (sz := s.heap.size)
  generalize hAe : va_A [] s.heap.size = A at hD ⊢
  have hA : ∀ q : Nat, s.heap.size ≤ q → A q := fun q h => by rw [← hAe]; exact Or.inr h
  have hS : va_S A s.heap s.heap [] := va_S.rf
  have hP : va_P (dC, dI) vwCl [] s.heap := hP
  have hl := lv_entry ([.ref h0, .int p0]) (n := 2) (Nat.le_of_ble_eq_true rfl)
  rw [lg_entry_eq]
  generalize (lg_sl ([.ref h0, .int p0]) ++ List.replicate (2 - (lg_sl ([.ref h0, .int p0])).length) Slot.unset).toArray = ls at hl ⊢
  have hl : lv_has ls 2 [(0, .ref h0), (1, .int p0)] := hl
  refine lv_iload_n hx hb dX12_count_0 rfl (lv_at hl 1 rfl) ?_
  refine lv_bipush (v := 11) hx hb dX12_count_1 (by decide) ?_
  refine lv_bipush (v := 16) hx hb dX12_count_3 (by decide) ?_
  refine z_calli (wc := []) (wr := []) (w1 := (fun _ => [])) (va_runS (As := [.int p0, .int 11, .int 16]) (rest := []) ⟨hx, hb, hml, hown, hts⟩ (kX12_isIn_6 l dC dI cI cQ p0 hp0l hp0h s.heap.size) (va_cwS 3 hts gv_X12_count_X12_isIn_100 rfl rfl rfl (by decide +kernel) ⟨Nat.le_of_ble_eq_true rfl, Nat.le_of_ble_eq_true rfl⟩) ⟨z_blind, z_pre hZ hP hD [] rfl (by decide)⟩ rfl rfl hl.1 rfl (lv_room (Nat.le_of_ble_eq_true rfl)) dX12_count_5 ⟨Nat.le_of_ble_eq_true rfl, Nat.le_of_ble_eq_true rfl⟩) hP hD hS hA [] [] rfl rfl (by decide) (by decide) (fun _ H locs hP hD hS => ?_)
  have hP : va_P (dC, dI) vwCl [] H := hP
  have hD : va_D A [] := hD
  refine lv_if_eq (tgt := 21) hx hb dX12_count_8 (by decide) (fun hc => ?_) (fun hc => ?_)
  rotate_left; exact absurd hc (by decide)
  refine lv_iload_n hx hb dX12_count_21 rfl (lv_at hl 1 rfl) ?_
  refine lv_tableOut (tgt := 108) hx hb dX12_count_22 (by omega) (by decide) ?_
  refine lv_bipush (v := (-9)) hx hb dX12_count_108 (by decide) ?_
  have hP9 := hP.sub (ws' := []) [] rfl
  have hD9 := hD.sub (ws' := []) [] (by decide) rfl
  exact W.iret (v := (-9)) hx hb hr (fun t ht hW => ⟨⟨(-9), (fun k => [].getD k 0), rfl, rfl, by rw [ht]; exact hP9, hD9⟩, hS.F ht⟩) hS.2.2 dX12_count_110
set_option maxHeartbeats 4000000 in
set_option maxRecDepth 100000 in
theorem kX12_isIn_7 (l : Launch) (dC : Nat → ClassId) (dI : Nat → Nat → Nat) (cI cQ : ClassId) (sz : Nat) : Met l yX12_isIn vsX12_isIn ({ frames := 0, cells := 0, slots := 0, locals := 0 }) (va_Pc [.int 0, .int 11, .int 16] (zB dC dI cI cQ [] sz)) (zQi dC dI (va_A [] sz) (fun ad => []) 0) 0 0 (va_A [] sz) := by
  refine Met.ofW (cc := cX12_isIn) (maxL := 3) (ret := (some .boolean)) (by decide) rfl ?_
  intro p e s m args below meth c s₁ B hml hv
  obtain ⟨rfl, hsz, hP, hZ, hD0⟩ := hv
  obtain ⟨hK, hAO, hN⟩ := id hZ
  have hx := B.exec
  have hb := B.bytes
  have hr := B.returns
  have hts := atoms_spec (ws := vsX12_isIn) B.pre
  have hown : s.vm.findClass RX12 = some m.cls := findClass_of_methodNamed B.named
  have hlocks := B.notSynchronized
  subst hsz
  have hD := hD0.self (sz := s.heap.size)
  generalize hAe : va_A [] s.heap.size = A at hD ⊢
  have hA : ∀ q : Nat, s.heap.size ≤ q → A q := fun q h => by rw [← hAe]; exact Or.inr h
  have hS : va_S A s.heap s.heap [] := va_S.rf
  have hP : va_P (dC, dI) vwCl [] s.heap := hP
  have hl := lv_entry ([.int 0, .int 11, .int 16]) (n := 3) (Nat.le_of_ble_eq_true rfl)
  rw [lg_entry_eq]
  generalize (lg_sl ([.int 0, .int 11, .int 16]) ++ List.replicate (3 - (lg_sl ([.int 0, .int 11, .int 16])).length) Slot.unset).toArray = ls at hl ⊢
  have hl : lv_has ls 3 [(0, .int 0), (1, .int 11), (2, .int 16)] := hl
  refine lv_iload_n hx hb dX12_isIn_0 rfl (lv_at hl 0 rfl) ?_
  refine lv_iload_n hx hb dX12_isIn_1 rfl (lv_at hl 1 rfl) ?_
  refine lv_icmp_lt (tgt := 14) hx hb dX12_isIn_2 (by decide) (fun hc => ?_) (fun hc => ?_)
  rotate_left; exact absurd hc (by decide)
  refine lv_iconst (v := 0) hx hb dX12_isIn_14 (by decide) ?_
  have hP9 := hP.sub (ws' := []) [] rfl
  have hD9 := hD.sub (ws' := []) [] (by decide) rfl
  exact W.zret (v := 0) hx hb hr rfl (fun t ht hW => ⟨⟨0, (fun k => [].getD k 0), rfl, rfl, by rw [ht]; exact hP9, hD9⟩, hS.F ht⟩) hS.2.2 dX12_isIn_15
set_option maxHeartbeats 4000000 in
set_option maxRecDepth 100000 in
theorem kX12_count_1 (l : Launch) (dC : Nat → ClassId) (dI : Nat → Nat → Nat) (cI cQ : ClassId) (h0 h1 h2 h3 h4 h5 h6 h7 h8 h9 h10 h11 h12 h13 h14 h15 h16 h17 h18 : Nat) (sz : Nat) : Met l yX12_count vsX12_count ({ frames := 1, cells := 0, slots := 0, locals := 22 }) (va_Pc [.ref h0, .int 0] (zB dC dI cI cQ [(h0, .inr (12, [.ref h1, .ref h2, .ref h3, .ref h4, .ref h5, .ref h6, .ref h7, .ref h8, .ref h9, .int 0, .int 0, .int 10, .int 0, .int 0, .int (-9), .int 0, .ref h10, .ref h11, .ref h12, .ref h13, .int 0, .int 0, .int 0, .ref h14, .int 0, .int 0, .int 0, .int (-9), .int 0, .ref h15, .int 0, .int 0, .int 0, .ref h16, .ref h17, .ref h18, .int 0, .int 0]))] sz)) (zQi dC dI (va_A [(h0, .inr (12, [.ref h1, .ref h2, .ref h3, .ref h4, .ref h5, .ref h6, .ref h7, .ref h8, .ref h9, .int 0, .int 0, .int 10, .int 0, .int 0, .int (-9), .int 0, .ref h10, .ref h11, .ref h12, .ref h13, .int 0, .int 0, .int 0, .ref h14, .int 0, .int 0, .int 0, .int (-9), .int 0, .ref h15, .int 0, .int 0, .int 0, .ref h16, .ref h17, .ref h18, .int 0, .int 0]))] sz) (fun ad => []) 0) 0 0 (va_A [(h0, .inr (12, [.ref h1, .ref h2, .ref h3, .ref h4, .ref h5, .ref h6, .ref h7, .ref h8, .ref h9, .int 0, .int 0, .int 10, .int 0, .int 0, .int (-9), .int 0, .ref h10, .ref h11, .ref h12, .ref h13, .int 0, .int 0, .int 0, .ref h14, .int 0, .int 0, .int 0, .int (-9), .int 0, .ref h15, .int 0, .int 0, .int 0, .ref h16, .ref h17, .ref h18, .int 0, .int 0]))] sz) := by
  refine Met.ofW (cc := cX12_count) (maxL := 2) (ret := (some .int)) (by decide) rfl ?_
  intro p e s m args below meth c s₁ B hml hv
  obtain ⟨rfl, hsz, hP, hZ, hD0⟩ := hv
  obtain ⟨hK, hAO, hN⟩ := id hZ
  have hx := B.exec
  have hb := B.bytes
  have hr := B.returns
  have hts := atoms_spec (ws := vsX12_count) B.pre
  have hown : s.vm.findClass RX12 = some m.cls := findClass_of_methodNamed B.named
  have hlocks := B.notSynchronized
  subst hsz
  have hD := hD0.self (sz := s.heap.size)
  generalize hAe : va_A [(h0, .inr (12, [.ref h1, .ref h2, .ref h3, .ref h4, .ref h5, .ref h6, .ref h7, .ref h8, .ref h9, .int 0, .int 0, .int 10, .int 0, .int 0, .int (-9), .int 0, .ref h10, .ref h11, .ref h12, .ref h13, .int 0, .int 0, .int 0, .ref h14, .int 0, .int 0, .int 0, .int (-9), .int 0, .ref h15, .int 0, .int 0, .int 0, .ref h16, .ref h17, .ref h18, .int 0, .int 0]))] s.heap.size = A at hD ⊢
  have hA : ∀ q : Nat, s.heap.size ≤ q → A q := fun q h => by rw [← hAe]; exact Or.inr h
  have hS : va_S A s.heap s.heap [] := va_S.rf
  have hP : va_P (dC, dI) vwCl [(h0, .inr (12, [.ref h1, .ref h2, .ref h3, .ref h4, .ref h5, .ref h6, .ref h7, .ref h8, .ref h9, .int 0, .int 0, .int 10, .int 0, .int 0, .int (-9), .int 0, .ref h10, .ref h11, .ref h12, .ref h13, .int 0, .int 0, .int 0, .ref h14, .int 0, .int 0, .int 0, .int (-9), .int 0, .ref h15, .int 0, .int 0, .int 0, .ref h16, .ref h17, .ref h18, .int 0, .int 0]))] s.heap := hP
  have hl := lv_entry ([.ref h0, .int 0]) (n := 2) (Nat.le_of_ble_eq_true rfl)
  rw [lg_entry_eq]
  generalize (lg_sl ([.ref h0, .int 0]) ++ List.replicate (2 - (lg_sl ([.ref h0, .int 0])).length) Slot.unset).toArray = ls at hl ⊢
  have hl : lv_has ls 2 [(0, .ref h0), (1, .int 0)] := hl
  refine lv_iload_n hx hb dX12_count_0 rfl (lv_at hl 1 rfl) ?_
  refine lv_bipush (v := 11) hx hb dX12_count_1 (by decide) ?_
  refine lv_bipush (v := 16) hx hb dX12_count_3 (by decide) ?_
  refine z_calli (wc := []) (wr := [(h0, .inr (12, [.ref h1, .ref h2, .ref h3, .ref h4, .ref h5, .ref h6, .ref h7, .ref h8, .ref h9, .int 0, .int 0, .int 10, .int 0, .int 0, .int (-9), .int 0, .ref h10, .ref h11, .ref h12, .ref h13, .int 0, .int 0, .int 0, .ref h14, .int 0, .int 0, .int 0, .int (-9), .int 0, .ref h15, .int 0, .int 0, .int 0, .ref h16, .ref h17, .ref h18, .int 0, .int 0]))]) (w1 := (fun _ => [])) (va_runS (As := [.int 0, .int 11, .int 16]) (rest := []) ⟨hx, hb, hml, hown, hts⟩ (kX12_isIn_7 l dC dI cI cQ s.heap.size) (va_cwS 3 hts gv_X12_count_X12_isIn_100 rfl rfl rfl (by decide +kernel) ⟨Nat.le_of_ble_eq_true rfl, Nat.le_of_ble_eq_true rfl⟩) ⟨z_blind, z_pre hZ hP hD [] rfl (by decide)⟩ rfl rfl hl.1 rfl (lv_room (Nat.le_of_ble_eq_true rfl)) dX12_count_5 ⟨Nat.le_of_ble_eq_true rfl, Nat.le_of_ble_eq_true rfl⟩) hP hD hS hA [] [0] rfl rfl (by decide) (by decide) (fun _ H locs hP hD hS => ?_)
  have hP : va_P (dC, dI) vwCl [(h0, .inr (12, [.ref h1, .ref h2, .ref h3, .ref h4, .ref h5, .ref h6, .ref h7, .ref h8, .ref h9, .int 0, .int 0, .int 10, .int 0, .int 0, .int (-9), .int 0, .ref h10, .ref h11, .ref h12, .ref h13, .int 0, .int 0, .int 0, .ref h14, .int 0, .int 0, .int 0, .int (-9), .int 0, .ref h15, .int 0, .int 0, .int 0, .ref h16, .ref h17, .ref h18, .int 0, .int 0]))] H := hP
  have hD : va_D A [(h0, .inr (12, [.ref h1, .ref h2, .ref h3, .ref h4, .ref h5, .ref h6, .ref h7, .ref h8, .ref h9, .int 0, .int 0, .int 10, .int 0, .int 0, .int (-9), .int 0, .ref h10, .ref h11, .ref h12, .ref h13, .int 0, .int 0, .int 0, .ref h14, .int 0, .int 0, .int 0, .int (-9), .int 0, .ref h15, .int 0, .int 0, .int 0, .ref h16, .ref h17, .ref h18, .int 0, .int 0]))] := hD
  refine lv_if_eq (tgt := 21) hx hb dX12_count_8 (by decide) (fun hc => ?_) (fun hc => ?_)
  rotate_left; exact absurd hc (by decide)
  refine lv_iload_n hx hb dX12_count_21 rfl (lv_at hl 1 rfl) ?_
  refine lv_tableIn (tgt := 68) hx hb dX12_count_22 (by decide) (by decide) (off := 46) (by decide) (by decide) ?_
  refine lv_aload_n hx hb dX12_count_68 rfl (lv_at hl 0 rfl) ?_
  refine va_get (D := (dC, dI)) (ci := 12) (v := .int 0) (C := RX12) (T := TX12) (N := 38) hx hb hts in_X12_count_X12 hown hK hP 0 rfl rfl 9 (by decide) (hts (.fieldLink RX12 76 "EachOnHisCueModel" "players" "I") (by decide +kernel)) (fun _ h9 => h9) rfl dX12_count_69 ?_
  have hP9 := hP.sub (ws' := []) [] rfl
  have hD9 := hD.sub (ws' := []) [] (by decide) rfl
  exact W.iret (v := 0) hx hb hr (fun t ht hW => ⟨⟨0, (fun k => [].getD k 0), rfl, rfl, by rw [ht]; exact hP9, hD9⟩, hS.F ht⟩) hS.2.2 dX12_count_72
set_option maxHeartbeats 4000000 in
set_option maxRecDepth 100000 in
theorem kX12_isIn_8 (l : Launch) (dC : Nat → ClassId) (dI : Nat → Nat → Nat) (cI cQ : ClassId) (sz : Nat) : Met l yX12_isIn vsX12_isIn ({ frames := 0, cells := 0, slots := 0, locals := 0 }) (va_Pc [.int 1, .int 11, .int 16] (zB dC dI cI cQ [] sz)) (zQi dC dI (va_A [] sz) (fun ad => []) 0) 0 0 (va_A [] sz) := by
  refine Met.ofW (cc := cX12_isIn) (maxL := 3) (ret := (some .boolean)) (by decide) rfl ?_
  intro p e s m args below meth c s₁ B hml hv
  obtain ⟨rfl, hsz, hP, hZ, hD0⟩ := hv
  obtain ⟨hK, hAO, hN⟩ := id hZ
  have hx := B.exec
  have hb := B.bytes
  have hr := B.returns
  have hts := atoms_spec (ws := vsX12_isIn) B.pre
  have hown : s.vm.findClass RX12 = some m.cls := findClass_of_methodNamed B.named
  have hlocks := B.notSynchronized
  subst hsz
  have hD := hD0.self (sz := s.heap.size)
  generalize hAe : va_A [] s.heap.size = A at hD ⊢
  have hA : ∀ q : Nat, s.heap.size ≤ q → A q := fun q h => by rw [← hAe]; exact Or.inr h
  have hS : va_S A s.heap s.heap [] := va_S.rf
  have hP : va_P (dC, dI) vwCl [] s.heap := hP
  have hl := lv_entry ([.int 1, .int 11, .int 16]) (n := 3) (Nat.le_of_ble_eq_true rfl)
  rw [lg_entry_eq]
  generalize (lg_sl ([.int 1, .int 11, .int 16]) ++ List.replicate (3 - (lg_sl ([.int 1, .int 11, .int 16])).length) Slot.unset).toArray = ls at hl ⊢
  have hl : lv_has ls 3 [(0, .int 1), (1, .int 11), (2, .int 16)] := hl
  refine lv_iload_n hx hb dX12_isIn_0 rfl (lv_at hl 0 rfl) ?_
  refine lv_iload_n hx hb dX12_isIn_1 rfl (lv_at hl 1 rfl) ?_
  refine lv_icmp_lt (tgt := 14) hx hb dX12_isIn_2 (by decide) (fun hc => ?_) (fun hc => ?_)
  rotate_left; exact absurd hc (by decide)
  refine lv_iconst (v := 0) hx hb dX12_isIn_14 (by decide) ?_
  have hP9 := hP.sub (ws' := []) [] rfl
  have hD9 := hD.sub (ws' := []) [] (by decide) rfl
  exact W.zret (v := 0) hx hb hr rfl (fun t ht hW => ⟨⟨0, (fun k => [].getD k 0), rfl, rfl, by rw [ht]; exact hP9, hD9⟩, hS.F ht⟩) hS.2.2 dX12_isIn_15
set_option maxHeartbeats 4000000 in
set_option maxRecDepth 100000 in
theorem kX12_count_2 (l : Launch) (dC : Nat → ClassId) (dI : Nat → Nat → Nat) (cI cQ : ClassId) (h0 h1 h2 h3 h4 h5 h6 h7 h8 h9 h10 h11 h12 h13 h14 h15 h16 h17 h18 : Nat) (sz : Nat) : Met l yX12_count vsX12_count ({ frames := 1, cells := 0, slots := 0, locals := 22 }) (va_Pc [.ref h0, .int 1] (zB dC dI cI cQ [(h0, .inr (12, [.ref h1, .ref h2, .ref h3, .ref h4, .ref h5, .ref h6, .ref h7, .ref h8, .ref h9, .int 0, .int 0, .int 10, .int 0, .int 0, .int (-9), .int 0, .ref h10, .ref h11, .ref h12, .ref h13, .int 0, .int 0, .int 0, .ref h14, .int 0, .int 0, .int 0, .int (-9), .int 0, .ref h15, .int 0, .int 0, .int 0, .ref h16, .ref h17, .ref h18, .int 0, .int 0]))] sz)) (zQi dC dI (va_A [(h0, .inr (12, [.ref h1, .ref h2, .ref h3, .ref h4, .ref h5, .ref h6, .ref h7, .ref h8, .ref h9, .int 0, .int 0, .int 10, .int 0, .int 0, .int (-9), .int 0, .ref h10, .ref h11, .ref h12, .ref h13, .int 0, .int 0, .int 0, .ref h14, .int 0, .int 0, .int 0, .int (-9), .int 0, .ref h15, .int 0, .int 0, .int 0, .ref h16, .ref h17, .ref h18, .int 0, .int 0]))] sz) (fun ad => []) 0) 0 0 (va_A [(h0, .inr (12, [.ref h1, .ref h2, .ref h3, .ref h4, .ref h5, .ref h6, .ref h7, .ref h8, .ref h9, .int 0, .int 0, .int 10, .int 0, .int 0, .int (-9), .int 0, .ref h10, .ref h11, .ref h12, .ref h13, .int 0, .int 0, .int 0, .ref h14, .int 0, .int 0, .int 0, .int (-9), .int 0, .ref h15, .int 0, .int 0, .int 0, .ref h16, .ref h17, .ref h18, .int 0, .int 0]))] sz) := by
  refine Met.ofW (cc := cX12_count) (maxL := 2) (ret := (some .int)) (by decide) rfl ?_
  intro p e s m args below meth c s₁ B hml hv
  obtain ⟨rfl, hsz, hP, hZ, hD0⟩ := hv
  obtain ⟨hK, hAO, hN⟩ := id hZ
  have hx := B.exec
  have hb := B.bytes
  have hr := B.returns
  have hts := atoms_spec (ws := vsX12_count) B.pre
  have hown : s.vm.findClass RX12 = some m.cls := findClass_of_methodNamed B.named
  have hlocks := B.notSynchronized
  subst hsz
  have hD := hD0.self (sz := s.heap.size)
  generalize hAe : va_A [(h0, .inr (12, [.ref h1, .ref h2, .ref h3, .ref h4, .ref h5, .ref h6, .ref h7, .ref h8, .ref h9, .int 0, .int 0, .int 10, .int 0, .int 0, .int (-9), .int 0, .ref h10, .ref h11, .ref h12, .ref h13, .int 0, .int 0, .int 0, .ref h14, .int 0, .int 0, .int 0, .int (-9), .int 0, .ref h15, .int 0, .int 0, .int 0, .ref h16, .ref h17, .ref h18, .int 0, .int 0]))] s.heap.size = A at hD ⊢
  have hA : ∀ q : Nat, s.heap.size ≤ q → A q := fun q h => by rw [← hAe]; exact Or.inr h
  have hS : va_S A s.heap s.heap [] := va_S.rf
  have hP : va_P (dC, dI) vwCl [(h0, .inr (12, [.ref h1, .ref h2, .ref h3, .ref h4, .ref h5, .ref h6, .ref h7, .ref h8, .ref h9, .int 0, .int 0, .int 10, .int 0, .int 0, .int (-9), .int 0, .ref h10, .ref h11, .ref h12, .ref h13, .int 0, .int 0, .int 0, .ref h14, .int 0, .int 0, .int 0, .int (-9), .int 0, .ref h15, .int 0, .int 0, .int 0, .ref h16, .ref h17, .ref h18, .int 0, .int 0]))] s.heap := hP
  have hl := lv_entry ([.ref h0, .int 1]) (n := 2) (Nat.le_of_ble_eq_true rfl)
  rw [lg_entry_eq]
  generalize (lg_sl ([.ref h0, .int 1]) ++ List.replicate (2 - (lg_sl ([.ref h0, .int 1])).length) Slot.unset).toArray = ls at hl ⊢
  have hl : lv_has ls 2 [(0, .ref h0), (1, .int 1)] := hl
  refine lv_iload_n hx hb dX12_count_0 rfl (lv_at hl 1 rfl) ?_
  refine lv_bipush (v := 11) hx hb dX12_count_1 (by decide) ?_
  refine lv_bipush (v := 16) hx hb dX12_count_3 (by decide) ?_
  refine z_calli (wc := []) (wr := [(h0, .inr (12, [.ref h1, .ref h2, .ref h3, .ref h4, .ref h5, .ref h6, .ref h7, .ref h8, .ref h9, .int 0, .int 0, .int 10, .int 0, .int 0, .int (-9), .int 0, .ref h10, .ref h11, .ref h12, .ref h13, .int 0, .int 0, .int 0, .ref h14, .int 0, .int 0, .int 0, .int (-9), .int 0, .ref h15, .int 0, .int 0, .int 0, .ref h16, .ref h17, .ref h18, .int 0, .int 0]))]) (w1 := (fun _ => [])) (va_runS (As := [.int 1, .int 11, .int 16]) (rest := []) ⟨hx, hb, hml, hown, hts⟩ (kX12_isIn_8 l dC dI cI cQ s.heap.size) (va_cwS 3 hts gv_X12_count_X12_isIn_100 rfl rfl rfl (by decide +kernel) ⟨Nat.le_of_ble_eq_true rfl, Nat.le_of_ble_eq_true rfl⟩) ⟨z_blind, z_pre hZ hP hD [] rfl (by decide)⟩ rfl rfl hl.1 rfl (lv_room (Nat.le_of_ble_eq_true rfl)) dX12_count_5 ⟨Nat.le_of_ble_eq_true rfl, Nat.le_of_ble_eq_true rfl⟩) hP hD hS hA [] [0] rfl rfl (by decide) (by decide) (fun _ H locs hP hD hS => ?_)
  have hP : va_P (dC, dI) vwCl [(h0, .inr (12, [.ref h1, .ref h2, .ref h3, .ref h4, .ref h5, .ref h6, .ref h7, .ref h8, .ref h9, .int 0, .int 0, .int 10, .int 0, .int 0, .int (-9), .int 0, .ref h10, .ref h11, .ref h12, .ref h13, .int 0, .int 0, .int 0, .ref h14, .int 0, .int 0, .int 0, .int (-9), .int 0, .ref h15, .int 0, .int 0, .int 0, .ref h16, .ref h17, .ref h18, .int 0, .int 0]))] H := hP
  have hD : va_D A [(h0, .inr (12, [.ref h1, .ref h2, .ref h3, .ref h4, .ref h5, .ref h6, .ref h7, .ref h8, .ref h9, .int 0, .int 0, .int 10, .int 0, .int 0, .int (-9), .int 0, .ref h10, .ref h11, .ref h12, .ref h13, .int 0, .int 0, .int 0, .ref h14, .int 0, .int 0, .int 0, .int (-9), .int 0, .ref h15, .int 0, .int 0, .int 0, .ref h16, .ref h17, .ref h18, .int 0, .int 0]))] := hD
  refine lv_if_eq (tgt := 21) hx hb dX12_count_8 (by decide) (fun hc => ?_) (fun hc => ?_)
  rotate_left; exact absurd hc (by decide)
  refine lv_iload_n hx hb dX12_count_21 rfl (lv_at hl 1 rfl) ?_
  refine lv_tableIn (tgt := 73) hx hb dX12_count_22 (by decide) (by decide) (off := 51) (by decide) (by decide) ?_
  refine lv_aload_n hx hb dX12_count_73 rfl (lv_at hl 0 rfl) ?_
  refine va_get (D := (dC, dI)) (ci := 12) (v := .int 0) (C := RX12) (T := TX12) (N := 38) hx hb hts in_X12_count_X12 hown hK hP 0 rfl rfl 10 (by decide) (hts (.fieldLink RX12 79 "EachOnHisCueModel" "lines" "I") (by decide +kernel)) (fun _ h9 => h9) rfl dX12_count_74 ?_
  have hP9 := hP.sub (ws' := []) [] rfl
  have hD9 := hD.sub (ws' := []) [] (by decide) rfl
  exact W.iret (v := 0) hx hb hr (fun t ht hW => ⟨⟨0, (fun k => [].getD k 0), rfl, rfl, by rw [ht]; exact hP9, hD9⟩, hS.F ht⟩) hS.2.2 dX12_count_77
set_option maxHeartbeats 4000000 in
set_option maxRecDepth 100000 in
theorem kX12_isIn_9 (l : Launch) (dC : Nat → ClassId) (dI : Nat → Nat → Nat) (cI cQ : ClassId) (sz : Nat) : Met l yX12_isIn vsX12_isIn ({ frames := 0, cells := 0, slots := 0, locals := 0 }) (va_Pc [.int 2, .int 11, .int 16] (zB dC dI cI cQ [] sz)) (zQi dC dI (va_A [] sz) (fun ad => []) 0) 0 0 (va_A [] sz) := by
  refine Met.ofW (cc := cX12_isIn) (maxL := 3) (ret := (some .boolean)) (by decide) rfl ?_
  intro p e s m args below meth c s₁ B hml hv
  obtain ⟨rfl, hsz, hP, hZ, hD0⟩ := hv
  obtain ⟨hK, hAO, hN⟩ := id hZ
  have hx := B.exec
  have hb := B.bytes
  have hr := B.returns
  have hts := atoms_spec (ws := vsX12_isIn) B.pre
  have hown : s.vm.findClass RX12 = some m.cls := findClass_of_methodNamed B.named
  have hlocks := B.notSynchronized
  subst hsz
  have hD := hD0.self (sz := s.heap.size)
  generalize hAe : va_A [] s.heap.size = A at hD ⊢
  have hA : ∀ q : Nat, s.heap.size ≤ q → A q := fun q h => by rw [← hAe]; exact Or.inr h
  have hS : va_S A s.heap s.heap [] := va_S.rf
  have hP : va_P (dC, dI) vwCl [] s.heap := hP
  have hl := lv_entry ([.int 2, .int 11, .int 16]) (n := 3) (Nat.le_of_ble_eq_true rfl)
  rw [lg_entry_eq]
  generalize (lg_sl ([.int 2, .int 11, .int 16]) ++ List.replicate (3 - (lg_sl ([.int 2, .int 11, .int 16])).length) Slot.unset).toArray = ls at hl ⊢
  have hl : lv_has ls 3 [(0, .int 2), (1, .int 11), (2, .int 16)] := hl
  refine lv_iload_n hx hb dX12_isIn_0 rfl (lv_at hl 0 rfl) ?_
  refine lv_iload_n hx hb dX12_isIn_1 rfl (lv_at hl 1 rfl) ?_
  refine lv_icmp_lt (tgt := 14) hx hb dX12_isIn_2 (by decide) (fun hc => ?_) (fun hc => ?_)
  rotate_left; exact absurd hc (by decide)
  refine lv_iconst (v := 0) hx hb dX12_isIn_14 (by decide) ?_
  have hP9 := hP.sub (ws' := []) [] rfl
  have hD9 := hD.sub (ws' := []) [] (by decide) rfl
  exact W.zret (v := 0) hx hb hr rfl (fun t ht hW => ⟨⟨0, (fun k => [].getD k 0), rfl, rfl, by rw [ht]; exact hP9, hD9⟩, hS.F ht⟩) hS.2.2 dX12_isIn_15
set_option maxHeartbeats 4000000 in
set_option maxRecDepth 100000 in
theorem kX12_count_3 (l : Launch) (dC : Nat → ClassId) (dI : Nat → Nat → Nat) (cI cQ : ClassId) (h0 h1 h2 h3 h4 h5 h6 h7 h8 h9 h10 h11 h12 h13 h14 h15 h16 h17 h18 : Nat) (sz : Nat) : Met l yX12_count vsX12_count ({ frames := 1, cells := 0, slots := 0, locals := 22 }) (va_Pc [.ref h0, .int 2] (zB dC dI cI cQ [(h0, .inr (12, [.ref h1, .ref h2, .ref h3, .ref h4, .ref h5, .ref h6, .ref h7, .ref h8, .ref h9, .int 0, .int 0, .int 10, .int 0, .int 0, .int (-9), .int 0, .ref h10, .ref h11, .ref h12, .ref h13, .int 0, .int 0, .int 0, .ref h14, .int 0, .int 0, .int 0, .int (-9), .int 0, .ref h15, .int 0, .int 0, .int 0, .ref h16, .ref h17, .ref h18, .int 0, .int 0]))] sz)) (zQi dC dI (va_A [(h0, .inr (12, [.ref h1, .ref h2, .ref h3, .ref h4, .ref h5, .ref h6, .ref h7, .ref h8, .ref h9, .int 0, .int 0, .int 10, .int 0, .int 0, .int (-9), .int 0, .ref h10, .ref h11, .ref h12, .ref h13, .int 0, .int 0, .int 0, .ref h14, .int 0, .int 0, .int 0, .int (-9), .int 0, .ref h15, .int 0, .int 0, .int 0, .ref h16, .ref h17, .ref h18, .int 0, .int 0]))] sz) (fun ad => []) 0) 0 0 (va_A [(h0, .inr (12, [.ref h1, .ref h2, .ref h3, .ref h4, .ref h5, .ref h6, .ref h7, .ref h8, .ref h9, .int 0, .int 0, .int 10, .int 0, .int 0, .int (-9), .int 0, .ref h10, .ref h11, .ref h12, .ref h13, .int 0, .int 0, .int 0, .ref h14, .int 0, .int 0, .int 0, .int (-9), .int 0, .ref h15, .int 0, .int 0, .int 0, .ref h16, .ref h17, .ref h18, .int 0, .int 0]))] sz) := by
  refine Met.ofW (cc := cX12_count) (maxL := 2) (ret := (some .int)) (by decide) rfl ?_
  intro p e s m args below meth c s₁ B hml hv
  obtain ⟨rfl, hsz, hP, hZ, hD0⟩ := hv
  obtain ⟨hK, hAO, hN⟩ := id hZ
  have hx := B.exec
  have hb := B.bytes
  have hr := B.returns
  have hts := atoms_spec (ws := vsX12_count) B.pre
  have hown : s.vm.findClass RX12 = some m.cls := findClass_of_methodNamed B.named
  have hlocks := B.notSynchronized
  subst hsz
  have hD := hD0.self (sz := s.heap.size)
  generalize hAe : va_A [(h0, .inr (12, [.ref h1, .ref h2, .ref h3, .ref h4, .ref h5, .ref h6, .ref h7, .ref h8, .ref h9, .int 0, .int 0, .int 10, .int 0, .int 0, .int (-9), .int 0, .ref h10, .ref h11, .ref h12, .ref h13, .int 0, .int 0, .int 0, .ref h14, .int 0, .int 0, .int 0, .int (-9), .int 0, .ref h15, .int 0, .int 0, .int 0, .ref h16, .ref h17, .ref h18, .int 0, .int 0]))] s.heap.size = A at hD ⊢
  have hA : ∀ q : Nat, s.heap.size ≤ q → A q := fun q h => by rw [← hAe]; exact Or.inr h
  have hS : va_S A s.heap s.heap [] := va_S.rf
  have hP : va_P (dC, dI) vwCl [(h0, .inr (12, [.ref h1, .ref h2, .ref h3, .ref h4, .ref h5, .ref h6, .ref h7, .ref h8, .ref h9, .int 0, .int 0, .int 10, .int 0, .int 0, .int (-9), .int 0, .ref h10, .ref h11, .ref h12, .ref h13, .int 0, .int 0, .int 0, .ref h14, .int 0, .int 0, .int 0, .int (-9), .int 0, .ref h15, .int 0, .int 0, .int 0, .ref h16, .ref h17, .ref h18, .int 0, .int 0]))] s.heap := hP
  have hl := lv_entry ([.ref h0, .int 2]) (n := 2) (Nat.le_of_ble_eq_true rfl)
  rw [lg_entry_eq]
  generalize (lg_sl ([.ref h0, .int 2]) ++ List.replicate (2 - (lg_sl ([.ref h0, .int 2])).length) Slot.unset).toArray = ls at hl ⊢
  have hl : lv_has ls 2 [(0, .ref h0), (1, .int 2)] := hl
  refine lv_iload_n hx hb dX12_count_0 rfl (lv_at hl 1 rfl) ?_
  refine lv_bipush (v := 11) hx hb dX12_count_1 (by decide) ?_
  refine lv_bipush (v := 16) hx hb dX12_count_3 (by decide) ?_
  refine z_calli (wc := []) (wr := [(h0, .inr (12, [.ref h1, .ref h2, .ref h3, .ref h4, .ref h5, .ref h6, .ref h7, .ref h8, .ref h9, .int 0, .int 0, .int 10, .int 0, .int 0, .int (-9), .int 0, .ref h10, .ref h11, .ref h12, .ref h13, .int 0, .int 0, .int 0, .ref h14, .int 0, .int 0, .int 0, .int (-9), .int 0, .ref h15, .int 0, .int 0, .int 0, .ref h16, .ref h17, .ref h18, .int 0, .int 0]))]) (w1 := (fun _ => [])) (va_runS (As := [.int 2, .int 11, .int 16]) (rest := []) ⟨hx, hb, hml, hown, hts⟩ (kX12_isIn_9 l dC dI cI cQ s.heap.size) (va_cwS 3 hts gv_X12_count_X12_isIn_100 rfl rfl rfl (by decide +kernel) ⟨Nat.le_of_ble_eq_true rfl, Nat.le_of_ble_eq_true rfl⟩) ⟨z_blind, z_pre hZ hP hD [] rfl (by decide)⟩ rfl rfl hl.1 rfl (lv_room (Nat.le_of_ble_eq_true rfl)) dX12_count_5 ⟨Nat.le_of_ble_eq_true rfl, Nat.le_of_ble_eq_true rfl⟩) hP hD hS hA [] [0] rfl rfl (by decide) (by decide) (fun _ H locs hP hD hS => ?_)
  have hP : va_P (dC, dI) vwCl [(h0, .inr (12, [.ref h1, .ref h2, .ref h3, .ref h4, .ref h5, .ref h6, .ref h7, .ref h8, .ref h9, .int 0, .int 0, .int 10, .int 0, .int 0, .int (-9), .int 0, .ref h10, .ref h11, .ref h12, .ref h13, .int 0, .int 0, .int 0, .ref h14, .int 0, .int 0, .int 0, .int (-9), .int 0, .ref h15, .int 0, .int 0, .int 0, .ref h16, .ref h17, .ref h18, .int 0, .int 0]))] H := hP
  have hD : va_D A [(h0, .inr (12, [.ref h1, .ref h2, .ref h3, .ref h4, .ref h5, .ref h6, .ref h7, .ref h8, .ref h9, .int 0, .int 0, .int 10, .int 0, .int 0, .int (-9), .int 0, .ref h10, .ref h11, .ref h12, .ref h13, .int 0, .int 0, .int 0, .ref h14, .int 0, .int 0, .int 0, .int (-9), .int 0, .ref h15, .int 0, .int 0, .int 0, .ref h16, .ref h17, .ref h18, .int 0, .int 0]))] := hD
  refine lv_if_eq (tgt := 21) hx hb dX12_count_8 (by decide) (fun hc => ?_) (fun hc => ?_)
  rotate_left; exact absurd hc (by decide)
  refine lv_iload_n hx hb dX12_count_21 rfl (lv_at hl 1 rfl) ?_
  refine lv_tableIn (tgt := 78) hx hb dX12_count_22 (by decide) (by decide) (off := 56) (by decide) (by decide) ?_
  refine lv_aload_n hx hb dX12_count_78 rfl (lv_at hl 0 rfl) ?_
  refine va_get (D := (dC, dI)) (ci := 12) (v := .int 0) (C := RX12) (T := TX12) (N := 38) hx hb hts in_X12_count_X12 hown hK hP 0 rfl rfl 15 (by decide) (hts (.fieldLink RX12 157 "EachOnHisCueModel" "saidMany" "I") (by decide +kernel)) (fun _ h9 => h9) rfl dX12_count_79 ?_
  have hP9 := hP.sub (ws' := []) [] rfl
  have hD9 := hD.sub (ws' := []) [] (by decide) rfl
  exact W.iret (v := 0) hx hb hr (fun t ht hW => ⟨⟨0, (fun k => [].getD k 0), rfl, rfl, by rw [ht]; exact hP9, hD9⟩, hS.F ht⟩) hS.2.2 dX12_count_82
set_option maxHeartbeats 4000000 in
set_option maxRecDepth 100000 in
theorem kX12_isIn_10 (l : Launch) (dC : Nat → ClassId) (dI : Nat → Nat → Nat) (cI cQ : ClassId) (sz : Nat) : Met l yX12_isIn vsX12_isIn ({ frames := 0, cells := 0, slots := 0, locals := 0 }) (va_Pc [.int 3, .int 11, .int 16] (zB dC dI cI cQ [] sz)) (zQi dC dI (va_A [] sz) (fun ad => []) 0) 0 0 (va_A [] sz) := by
  refine Met.ofW (cc := cX12_isIn) (maxL := 3) (ret := (some .boolean)) (by decide) rfl ?_
  intro p e s m args below meth c s₁ B hml hv
  obtain ⟨rfl, hsz, hP, hZ, hD0⟩ := hv
  obtain ⟨hK, hAO, hN⟩ := id hZ
  have hx := B.exec
  have hb := B.bytes
  have hr := B.returns
  have hts := atoms_spec (ws := vsX12_isIn) B.pre
  have hown : s.vm.findClass RX12 = some m.cls := findClass_of_methodNamed B.named
  have hlocks := B.notSynchronized
  subst hsz
  have hD := hD0.self (sz := s.heap.size)
  generalize hAe : va_A [] s.heap.size = A at hD ⊢
  have hA : ∀ q : Nat, s.heap.size ≤ q → A q := fun q h => by rw [← hAe]; exact Or.inr h
  have hS : va_S A s.heap s.heap [] := va_S.rf
  have hP : va_P (dC, dI) vwCl [] s.heap := hP
  have hl := lv_entry ([.int 3, .int 11, .int 16]) (n := 3) (Nat.le_of_ble_eq_true rfl)
  rw [lg_entry_eq]
  generalize (lg_sl ([.int 3, .int 11, .int 16]) ++ List.replicate (3 - (lg_sl ([.int 3, .int 11, .int 16])).length) Slot.unset).toArray = ls at hl ⊢
  have hl : lv_has ls 3 [(0, .int 3), (1, .int 11), (2, .int 16)] := hl
  refine lv_iload_n hx hb dX12_isIn_0 rfl (lv_at hl 0 rfl) ?_
  refine lv_iload_n hx hb dX12_isIn_1 rfl (lv_at hl 1 rfl) ?_
  refine lv_icmp_lt (tgt := 14) hx hb dX12_isIn_2 (by decide) (fun hc => ?_) (fun hc => ?_)
  rotate_left; exact absurd hc (by decide)
  refine lv_iconst (v := 0) hx hb dX12_isIn_14 (by decide) ?_
  have hP9 := hP.sub (ws' := []) [] rfl
  have hD9 := hD.sub (ws' := []) [] (by decide) rfl
  exact W.zret (v := 0) hx hb hr rfl (fun t ht hW => ⟨⟨0, (fun k => [].getD k 0), rfl, rfl, by rw [ht]; exact hP9, hD9⟩, hS.F ht⟩) hS.2.2 dX12_isIn_15
set_option maxHeartbeats 4000000 in
set_option maxRecDepth 100000 in
theorem kX12_count_4 (l : Launch) (dC : Nat → ClassId) (dI : Nat → Nat → Nat) (cI cQ : ClassId) (h0 h1 h2 h3 h4 h5 h6 h7 h8 h9 h10 h11 h12 h13 h14 h15 h16 h17 h18 : Nat) (sz : Nat) : Met l yX12_count vsX12_count ({ frames := 1, cells := 0, slots := 0, locals := 22 }) (va_Pc [.ref h0, .int 3] (zB dC dI cI cQ [(h0, .inr (12, [.ref h1, .ref h2, .ref h3, .ref h4, .ref h5, .ref h6, .ref h7, .ref h8, .ref h9, .int 0, .int 0, .int 10, .int 0, .int 0, .int (-9), .int 0, .ref h10, .ref h11, .ref h12, .ref h13, .int 0, .int 0, .int 0, .ref h14, .int 0, .int 0, .int 0, .int (-9), .int 0, .ref h15, .int 0, .int 0, .int 0, .ref h16, .ref h17, .ref h18, .int 0, .int 0]))] sz)) (zQi dC dI (va_A [(h0, .inr (12, [.ref h1, .ref h2, .ref h3, .ref h4, .ref h5, .ref h6, .ref h7, .ref h8, .ref h9, .int 0, .int 0, .int 10, .int 0, .int 0, .int (-9), .int 0, .ref h10, .ref h11, .ref h12, .ref h13, .int 0, .int 0, .int 0, .ref h14, .int 0, .int 0, .int 0, .int (-9), .int 0, .ref h15, .int 0, .int 0, .int 0, .ref h16, .ref h17, .ref h18, .int 0, .int 0]))] sz) (fun ad => []) (-9)) 0 0 (va_A [(h0, .inr (12, [.ref h1, .ref h2, .ref h3, .ref h4, .ref h5, .ref h6, .ref h7, .ref h8, .ref h9, .int 0, .int 0, .int 10, .int 0, .int 0, .int (-9), .int 0, .ref h10, .ref h11, .ref h12, .ref h13, .int 0, .int 0, .int 0, .ref h14, .int 0, .int 0, .int 0, .int (-9), .int 0, .ref h15, .int 0, .int 0, .int 0, .ref h16, .ref h17, .ref h18, .int 0, .int 0]))] sz) := by
  refine Met.ofW (cc := cX12_count) (maxL := 2) (ret := (some .int)) (by decide) rfl ?_
  intro p e s m args below meth c s₁ B hml hv
  obtain ⟨rfl, hsz, hP, hZ, hD0⟩ := hv
  obtain ⟨hK, hAO, hN⟩ := id hZ
  have hx := B.exec
  have hb := B.bytes
  have hr := B.returns
  have hts := atoms_spec (ws := vsX12_count) B.pre
  have hown : s.vm.findClass RX12 = some m.cls := findClass_of_methodNamed B.named
  have hlocks := B.notSynchronized
  subst hsz
  have hD := hD0.self (sz := s.heap.size)
  generalize hAe : va_A [(h0, .inr (12, [.ref h1, .ref h2, .ref h3, .ref h4, .ref h5, .ref h6, .ref h7, .ref h8, .ref h9, .int 0, .int 0, .int 10, .int 0, .int 0, .int (-9), .int 0, .ref h10, .ref h11, .ref h12, .ref h13, .int 0, .int 0, .int 0, .ref h14, .int 0, .int 0, .int 0, .int (-9), .int 0, .ref h15, .int 0, .int 0, .int 0, .ref h16, .ref h17, .ref h18, .int 0, .int 0]))] s.heap.size = A at hD ⊢
  have hA : ∀ q : Nat, s.heap.size ≤ q → A q := fun q h => by rw [← hAe]; exact Or.inr h
  have hS : va_S A s.heap s.heap [] := va_S.rf
  have hP : va_P (dC, dI) vwCl [(h0, .inr (12, [.ref h1, .ref h2, .ref h3, .ref h4, .ref h5, .ref h6, .ref h7, .ref h8, .ref h9, .int 0, .int 0, .int 10, .int 0, .int 0, .int (-9), .int 0, .ref h10, .ref h11, .ref h12, .ref h13, .int 0, .int 0, .int 0, .ref h14, .int 0, .int 0, .int 0, .int (-9), .int 0, .ref h15, .int 0, .int 0, .int 0, .ref h16, .ref h17, .ref h18, .int 0, .int 0]))] s.heap := hP
  have hl := lv_entry ([.ref h0, .int 3]) (n := 2) (Nat.le_of_ble_eq_true rfl)
  rw [lg_entry_eq]
  generalize (lg_sl ([.ref h0, .int 3]) ++ List.replicate (2 - (lg_sl ([.ref h0, .int 3])).length) Slot.unset).toArray = ls at hl ⊢
  have hl : lv_has ls 2 [(0, .ref h0), (1, .int 3)] := hl
  refine lv_iload_n hx hb dX12_count_0 rfl (lv_at hl 1 rfl) ?_
  refine lv_bipush (v := 11) hx hb dX12_count_1 (by decide) ?_
  refine lv_bipush (v := 16) hx hb dX12_count_3 (by decide) ?_
  refine z_calli (wc := []) (wr := [(h0, .inr (12, [.ref h1, .ref h2, .ref h3, .ref h4, .ref h5, .ref h6, .ref h7, .ref h8, .ref h9, .int 0, .int 0, .int 10, .int 0, .int 0, .int (-9), .int 0, .ref h10, .ref h11, .ref h12, .ref h13, .int 0, .int 0, .int 0, .ref h14, .int 0, .int 0, .int 0, .int (-9), .int 0, .ref h15, .int 0, .int 0, .int 0, .ref h16, .ref h17, .ref h18, .int 0, .int 0]))]) (w1 := (fun _ => [])) (va_runS (As := [.int 3, .int 11, .int 16]) (rest := []) ⟨hx, hb, hml, hown, hts⟩ (kX12_isIn_10 l dC dI cI cQ s.heap.size) (va_cwS 3 hts gv_X12_count_X12_isIn_100 rfl rfl rfl (by decide +kernel) ⟨Nat.le_of_ble_eq_true rfl, Nat.le_of_ble_eq_true rfl⟩) ⟨z_blind, z_pre hZ hP hD [] rfl (by decide)⟩ rfl rfl hl.1 rfl (lv_room (Nat.le_of_ble_eq_true rfl)) dX12_count_5 ⟨Nat.le_of_ble_eq_true rfl, Nat.le_of_ble_eq_true rfl⟩) hP hD hS hA [] [0] rfl rfl (by decide) (by decide) (fun _ H locs hP hD hS => ?_)
  have hP : va_P (dC, dI) vwCl [(h0, .inr (12, [.ref h1, .ref h2, .ref h3, .ref h4, .ref h5, .ref h6, .ref h7, .ref h8, .ref h9, .int 0, .int 0, .int 10, .int 0, .int 0, .int (-9), .int 0, .ref h10, .ref h11, .ref h12, .ref h13, .int 0, .int 0, .int 0, .ref h14, .int 0, .int 0, .int 0, .int (-9), .int 0, .ref h15, .int 0, .int 0, .int 0, .ref h16, .ref h17, .ref h18, .int 0, .int 0]))] H := hP
  have hD : va_D A [(h0, .inr (12, [.ref h1, .ref h2, .ref h3, .ref h4, .ref h5, .ref h6, .ref h7, .ref h8, .ref h9, .int 0, .int 0, .int 10, .int 0, .int 0, .int (-9), .int 0, .ref h10, .ref h11, .ref h12, .ref h13, .int 0, .int 0, .int 0, .ref h14, .int 0, .int 0, .int 0, .int (-9), .int 0, .ref h15, .int 0, .int 0, .int 0, .ref h16, .ref h17, .ref h18, .int 0, .int 0]))] := hD
  refine lv_if_eq (tgt := 21) hx hb dX12_count_8 (by decide) (fun hc => ?_) (fun hc => ?_)
  rotate_left; exact absurd hc (by decide)
  refine lv_iload_n hx hb dX12_count_21 rfl (lv_at hl 1 rfl) ?_
  refine lv_tableIn (tgt := 83) hx hb dX12_count_22 (by decide) (by decide) (off := 61) (by decide) (by decide) ?_
  refine lv_aload_n hx hb dX12_count_83 rfl (lv_at hl 0 rfl) ?_
  refine va_get (D := (dC, dI)) (ci := 12) (v := .int (-9)) (C := RX12) (T := TX12) (N := 38) hx hb hts in_X12_count_X12 hown hK hP 0 rfl rfl 14 (by decide) (hts (.fieldLink RX12 41 "EachOnHisCueModel" "latest" "I") (by decide +kernel)) (fun _ h9 => h9) rfl dX12_count_84 ?_
  have hP9 := hP.sub (ws' := []) [] rfl
  have hD9 := hD.sub (ws' := []) [] (by decide) rfl
  exact W.iret (v := (-9)) hx hb hr (fun t ht hW => ⟨⟨(-9), (fun k => [].getD k 0), rfl, rfl, by rw [ht]; exact hP9, hD9⟩, hS.F ht⟩) hS.2.2 dX12_count_87
set_option maxHeartbeats 4000000 in
set_option maxRecDepth 100000 in
theorem kX12_isIn_11 (l : Launch) (dC : Nat → ClassId) (dI : Nat → Nat → Nat) (cI cQ : ClassId) (sz : Nat) : Met l yX12_isIn vsX12_isIn ({ frames := 0, cells := 0, slots := 0, locals := 0 }) (va_Pc [.int 4, .int 11, .int 16] (zB dC dI cI cQ [] sz)) (zQi dC dI (va_A [] sz) (fun ad => []) 0) 0 0 (va_A [] sz) := by
  refine Met.ofW (cc := cX12_isIn) (maxL := 3) (ret := (some .boolean)) (by decide) rfl ?_
  intro p e s m args below meth c s₁ B hml hv
  obtain ⟨rfl, hsz, hP, hZ, hD0⟩ := hv
  obtain ⟨hK, hAO, hN⟩ := id hZ
  have hx := B.exec
  have hb := B.bytes
  have hr := B.returns
  have hts := atoms_spec (ws := vsX12_isIn) B.pre
  have hown : s.vm.findClass RX12 = some m.cls := findClass_of_methodNamed B.named
  have hlocks := B.notSynchronized
  subst hsz
  have hD := hD0.self (sz := s.heap.size)
  generalize hAe : va_A [] s.heap.size = A at hD ⊢
  have hA : ∀ q : Nat, s.heap.size ≤ q → A q := fun q h => by rw [← hAe]; exact Or.inr h
  have hS : va_S A s.heap s.heap [] := va_S.rf
  have hP : va_P (dC, dI) vwCl [] s.heap := hP
  have hl := lv_entry ([.int 4, .int 11, .int 16]) (n := 3) (Nat.le_of_ble_eq_true rfl)
  rw [lg_entry_eq]
  generalize (lg_sl ([.int 4, .int 11, .int 16]) ++ List.replicate (3 - (lg_sl ([.int 4, .int 11, .int 16])).length) Slot.unset).toArray = ls at hl ⊢
  have hl : lv_has ls 3 [(0, .int 4), (1, .int 11), (2, .int 16)] := hl
  refine lv_iload_n hx hb dX12_isIn_0 rfl (lv_at hl 0 rfl) ?_
  refine lv_iload_n hx hb dX12_isIn_1 rfl (lv_at hl 1 rfl) ?_
  refine lv_icmp_lt (tgt := 14) hx hb dX12_isIn_2 (by decide) (fun hc => ?_) (fun hc => ?_)
  rotate_left; exact absurd hc (by decide)
  refine lv_iconst (v := 0) hx hb dX12_isIn_14 (by decide) ?_
  have hP9 := hP.sub (ws' := []) [] rfl
  have hD9 := hD.sub (ws' := []) [] (by decide) rfl
  exact W.zret (v := 0) hx hb hr rfl (fun t ht hW => ⟨⟨0, (fun k => [].getD k 0), rfl, rfl, by rw [ht]; exact hP9, hD9⟩, hS.F ht⟩) hS.2.2 dX12_isIn_15
set_option maxHeartbeats 4000000 in
set_option maxRecDepth 100000 in
theorem kX12_words (l : Launch) (dC : Nat → ClassId) (dI : Nat → Nat → Nat) (cI cQ : ClassId) (h0 h1 h2 h3 h4 h5 h6 h7 h8 h9 h10 h11 h12 h13 h14 h15 h16 h17 h18 : Nat) (sz : Nat) : Met l yX12_words vsX12_words ({ frames := 0, cells := 0, slots := 0, locals := 0 }) (va_Pc [.ref h0] (zB dC dI cI cQ [(h0, .inr (12, [.ref h1, .ref h2, .ref h3, .ref h4, .ref h5, .ref h6, .ref h7, .ref h8, .ref h9, .int 0, .int 0, .int 10, .int 0, .int 0, .int (-9), .int 0, .ref h10, .ref h11, .ref h12, .ref h13, .int 0, .int 0, .int 0, .ref h14, .int 0, .int 0, .int 0, .int (-9), .int 0, .ref h15, .int 0, .int 0, .int 0, .ref h16, .ref h17, .ref h18, .int 0, .int 0]))] sz)) (zQi dC dI (va_A [(h0, .inr (12, [.ref h1, .ref h2, .ref h3, .ref h4, .ref h5, .ref h6, .ref h7, .ref h8, .ref h9, .int 0, .int 0, .int 10, .int 0, .int 0, .int (-9), .int 0, .ref h10, .ref h11, .ref h12, .ref h13, .int 0, .int 0, .int 0, .ref h14, .int 0, .int 0, .int 0, .int (-9), .int 0, .ref h15, .int 0, .int 0, .int 0, .ref h16, .ref h17, .ref h18, .int 0, .int 0]))] sz) (fun ad => [(h0, .inr (12, [.ref h1, .ref h2, .ref h3, .ref h4, .ref h5, .ref h6, .ref h7, .ref h8, .ref h9, .int 0, .int 0, .int 10, .int 0, .int 0, .int (-9), .int 0, .ref h10, .ref h11, .ref h12, .ref h13, .int 0, .int 0, .int 0, .ref h14, .int 0, .int 0, .int 0, .int (-9), .int 0, .ref h15, .int 0, .int 0, .int 0, .ref h16, .ref h17, .ref h18, .int 0, .int 0]))]) 0) 0 0 (va_A [(h0, .inr (12, [.ref h1, .ref h2, .ref h3, .ref h4, .ref h5, .ref h6, .ref h7, .ref h8, .ref h9, .int 0, .int 0, .int 10, .int 0, .int 0, .int (-9), .int 0, .ref h10, .ref h11, .ref h12, .ref h13, .int 0, .int 0, .int 0, .ref h14, .int 0, .int 0, .int 0, .int (-9), .int 0, .ref h15, .int 0, .int 0, .int 0, .ref h16, .ref h17, .ref h18, .int 0, .int 0]))] sz) := by
  refine Met.ofW (cc := cX12_words) (maxL := 3) (ret := (some .int)) (by decide) rfl ?_
  intro p e s m args below meth c s₁ B hml hv
  obtain ⟨rfl, hsz, hP, hZ, hD0⟩ := hv
  obtain ⟨hK, hAO, hN⟩ := id hZ
  have hx := B.exec
  have hb := B.bytes
  have hr := B.returns
  have hts := atoms_spec (ws := vsX12_words) B.pre
  have hown : s.vm.findClass RX12 = some m.cls := findClass_of_methodNamed B.named
  have hlocks := B.notSynchronized
  subst hsz
  have hD := hD0.self (sz := s.heap.size)
  generalize hAe : va_A [(h0, .inr (12, [.ref h1, .ref h2, .ref h3, .ref h4, .ref h5, .ref h6, .ref h7, .ref h8, .ref h9, .int 0, .int 0, .int 10, .int 0, .int 0, .int (-9), .int 0, .ref h10, .ref h11, .ref h12, .ref h13, .int 0, .int 0, .int 0, .ref h14, .int 0, .int 0, .int 0, .int (-9), .int 0, .ref h15, .int 0, .int 0, .int 0, .ref h16, .ref h17, .ref h18, .int 0, .int 0]))] s.heap.size = A at hD ⊢
  have hA : ∀ q : Nat, s.heap.size ≤ q → A q := fun q h => by rw [← hAe]; exact Or.inr h
  have hS : va_S A s.heap s.heap [] := va_S.rf
  have hP : va_P (dC, dI) vwCl [(h0, .inr (12, [.ref h1, .ref h2, .ref h3, .ref h4, .ref h5, .ref h6, .ref h7, .ref h8, .ref h9, .int 0, .int 0, .int 10, .int 0, .int 0, .int (-9), .int 0, .ref h10, .ref h11, .ref h12, .ref h13, .int 0, .int 0, .int 0, .ref h14, .int 0, .int 0, .int 0, .int (-9), .int 0, .ref h15, .int 0, .int 0, .int 0, .ref h16, .ref h17, .ref h18, .int 0, .int 0]))] s.heap := hP
  have hl := lv_entry ([.ref h0]) (n := 3) (Nat.le_of_ble_eq_true rfl)
  rw [lg_entry_eq]
  generalize (lg_sl ([.ref h0]) ++ List.replicate (3 - (lg_sl ([.ref h0])).length) Slot.unset).toArray = ls at hl ⊢
  have hl : lv_has ls 3 [(0, .ref h0)] := hl
  refine lv_iconst (v := 0) hx hb dX12_words_0 (by decide) ?_
  refine lv_istore_n (lv' := [(1, .int 0), (0, .ref h0)]) hx hb dX12_words_1 rfl hl (by decide) rfl (fun ls hl => ?_)
  refine lv_iconst (v := 0) hx hb dX12_words_2 (by decide) ?_
  refine lv_istore_n (lv' := [(2, .int 0), (1, .int 0), (0, .ref h0)]) hx hb dX12_words_3 rfl hl (by decide) rfl (fun ls hl => ?_)
  refine lv_iload_n hx hb dX12_words_4 rfl (lv_at hl 0 rfl) ?_
  refine lv_aload_n hx hb dX12_words_5 rfl (lv_at hl 2 rfl) ?_
  refine va_get (D := (dC, dI)) (ci := 12) (v := .int 0) (C := RX12) (T := TX12) (N := 38) hx hb hts in_X12_words_X12 hown hK hP 0 rfl rfl 10 (by decide) (hts (.fieldLink RX12 79 "EachOnHisCueModel" "lines" "I") (by decide +kernel)) (fun _ h9 => h9) rfl dX12_words_6 ?_
  refine lv_icmp_ge (tgt := 27) hx hb dX12_words_9 (by decide) (fun hc => ?_) (fun hc => ?_)
  rotate_left; exact absurd hc (by decide)
  refine lv_iload_n hx hb dX12_words_27 rfl (lv_at hl 1 rfl) ?_
  have hP9 := hP.sub (ws' := [(h0, .inr (12, [.ref h1, .ref h2, .ref h3, .ref h4, .ref h5, .ref h6, .ref h7, .ref h8, .ref h9, .int 0, .int 0, .int 10, .int 0, .int 0, .int (-9), .int 0, .ref h10, .ref h11, .ref h12, .ref h13, .int 0, .int 0, .int 0, .ref h14, .int 0, .int 0, .int 0, .int (-9), .int 0, .ref h15, .int 0, .int 0, .int 0, .ref h16, .ref h17, .ref h18, .int 0, .int 0]))]) [0] rfl
  have hD9 := hD.sub (ws' := [(h0, .inr (12, [.ref h1, .ref h2, .ref h3, .ref h4, .ref h5, .ref h6, .ref h7, .ref h8, .ref h9, .int 0, .int 0, .int 10, .int 0, .int 0, .int (-9), .int 0, .ref h10, .ref h11, .ref h12, .ref h13, .int 0, .int 0, .int 0, .ref h14, .int 0, .int 0, .int 0, .int (-9), .int 0, .ref h15, .int 0, .int 0, .int 0, .ref h16, .ref h17, .ref h18, .int 0, .int 0]))]) [0] (by decide) rfl
  exact W.iret (v := 0) hx hb hr (fun t ht hW => ⟨⟨0, (fun k => [].getD k 0), rfl, rfl, by rw [ht]; exact hP9, hD9⟩, hS.F ht⟩) hS.2.2 dX12_words_28
set_option maxHeartbeats 4000000 in
set_option maxRecDepth 100000 in
theorem kX12_count_5 (l : Launch) (dC : Nat → ClassId) (dI : Nat → Nat → Nat) (cI cQ : ClassId) (h0 h1 h2 h3 h4 h5 h6 h7 h8 h9 h10 h11 h12 h13 h14 h15 h16 h17 h18 : Nat) (sz : Nat) : Met l yX12_count vsX12_count ({ frames := 1, cells := 0, slots := 0, locals := 22 }) (va_Pc [.ref h0, .int 4] (zB dC dI cI cQ [(h0, .inr (12, [.ref h1, .ref h2, .ref h3, .ref h4, .ref h5, .ref h6, .ref h7, .ref h8, .ref h9, .int 0, .int 0, .int 10, .int 0, .int 0, .int (-9), .int 0, .ref h10, .ref h11, .ref h12, .ref h13, .int 0, .int 0, .int 0, .ref h14, .int 0, .int 0, .int 0, .int (-9), .int 0, .ref h15, .int 0, .int 0, .int 0, .ref h16, .ref h17, .ref h18, .int 0, .int 0]))] sz)) (zQi dC dI (va_A [(h0, .inr (12, [.ref h1, .ref h2, .ref h3, .ref h4, .ref h5, .ref h6, .ref h7, .ref h8, .ref h9, .int 0, .int 0, .int 10, .int 0, .int 0, .int (-9), .int 0, .ref h10, .ref h11, .ref h12, .ref h13, .int 0, .int 0, .int 0, .ref h14, .int 0, .int 0, .int 0, .int (-9), .int 0, .ref h15, .int 0, .int 0, .int 0, .ref h16, .ref h17, .ref h18, .int 0, .int 0]))] sz) (fun ad => []) 0) 0 0 (va_A [(h0, .inr (12, [.ref h1, .ref h2, .ref h3, .ref h4, .ref h5, .ref h6, .ref h7, .ref h8, .ref h9, .int 0, .int 0, .int 10, .int 0, .int 0, .int (-9), .int 0, .ref h10, .ref h11, .ref h12, .ref h13, .int 0, .int 0, .int 0, .ref h14, .int 0, .int 0, .int 0, .int (-9), .int 0, .ref h15, .int 0, .int 0, .int 0, .ref h16, .ref h17, .ref h18, .int 0, .int 0]))] sz) := by
  refine Met.ofW (cc := cX12_count) (maxL := 2) (ret := (some .int)) (by decide) rfl ?_
  intro p e s m args below meth c s₁ B hml hv
  obtain ⟨rfl, hsz, hP, hZ, hD0⟩ := hv
  obtain ⟨hK, hAO, hN⟩ := id hZ
  have hx := B.exec
  have hb := B.bytes
  have hr := B.returns
  have hts := atoms_spec (ws := vsX12_count) B.pre
  have hown : s.vm.findClass RX12 = some m.cls := findClass_of_methodNamed B.named
  have hlocks := B.notSynchronized
  subst hsz
  have hD := hD0.self (sz := s.heap.size)
  generalize hAe : va_A [(h0, .inr (12, [.ref h1, .ref h2, .ref h3, .ref h4, .ref h5, .ref h6, .ref h7, .ref h8, .ref h9, .int 0, .int 0, .int 10, .int 0, .int 0, .int (-9), .int 0, .ref h10, .ref h11, .ref h12, .ref h13, .int 0, .int 0, .int 0, .ref h14, .int 0, .int 0, .int 0, .int (-9), .int 0, .ref h15, .int 0, .int 0, .int 0, .ref h16, .ref h17, .ref h18, .int 0, .int 0]))] s.heap.size = A at hD ⊢
  have hA : ∀ q : Nat, s.heap.size ≤ q → A q := fun q h => by rw [← hAe]; exact Or.inr h
  have hS : va_S A s.heap s.heap [] := va_S.rf
  have hP : va_P (dC, dI) vwCl [(h0, .inr (12, [.ref h1, .ref h2, .ref h3, .ref h4, .ref h5, .ref h6, .ref h7, .ref h8, .ref h9, .int 0, .int 0, .int 10, .int 0, .int 0, .int (-9), .int 0, .ref h10, .ref h11, .ref h12, .ref h13, .int 0, .int 0, .int 0, .ref h14, .int 0, .int 0, .int 0, .int (-9), .int 0, .ref h15, .int 0, .int 0, .int 0, .ref h16, .ref h17, .ref h18, .int 0, .int 0]))] s.heap := hP
  have hl := lv_entry ([.ref h0, .int 4]) (n := 2) (Nat.le_of_ble_eq_true rfl)
  rw [lg_entry_eq]
  generalize (lg_sl ([.ref h0, .int 4]) ++ List.replicate (2 - (lg_sl ([.ref h0, .int 4])).length) Slot.unset).toArray = ls at hl ⊢
  have hl : lv_has ls 2 [(0, .ref h0), (1, .int 4)] := hl
  refine lv_iload_n hx hb dX12_count_0 rfl (lv_at hl 1 rfl) ?_
  refine lv_bipush (v := 11) hx hb dX12_count_1 (by decide) ?_
  refine lv_bipush (v := 16) hx hb dX12_count_3 (by decide) ?_
  refine z_calli (wc := []) (wr := [(h0, .inr (12, [.ref h1, .ref h2, .ref h3, .ref h4, .ref h5, .ref h6, .ref h7, .ref h8, .ref h9, .int 0, .int 0, .int 10, .int 0, .int 0, .int (-9), .int 0, .ref h10, .ref h11, .ref h12, .ref h13, .int 0, .int 0, .int 0, .ref h14, .int 0, .int 0, .int 0, .int (-9), .int 0, .ref h15, .int 0, .int 0, .int 0, .ref h16, .ref h17, .ref h18, .int 0, .int 0]))]) (w1 := (fun _ => [])) (va_runS (As := [.int 4, .int 11, .int 16]) (rest := []) ⟨hx, hb, hml, hown, hts⟩ (kX12_isIn_11 l dC dI cI cQ s.heap.size) (va_cwS 3 hts gv_X12_count_X12_isIn_100 rfl rfl rfl (by decide +kernel) ⟨Nat.le_of_ble_eq_true rfl, Nat.le_of_ble_eq_true rfl⟩) ⟨z_blind, z_pre hZ hP hD [] rfl (by decide)⟩ rfl rfl hl.1 rfl (lv_room (Nat.le_of_ble_eq_true rfl)) dX12_count_5 ⟨Nat.le_of_ble_eq_true rfl, Nat.le_of_ble_eq_true rfl⟩) hP hD hS hA [] [0] rfl rfl (by decide) (by decide) (fun _ H locs hP hD hS => ?_)
  have hP : va_P (dC, dI) vwCl [(h0, .inr (12, [.ref h1, .ref h2, .ref h3, .ref h4, .ref h5, .ref h6, .ref h7, .ref h8, .ref h9, .int 0, .int 0, .int 10, .int 0, .int 0, .int (-9), .int 0, .ref h10, .ref h11, .ref h12, .ref h13, .int 0, .int 0, .int 0, .ref h14, .int 0, .int 0, .int 0, .int (-9), .int 0, .ref h15, .int 0, .int 0, .int 0, .ref h16, .ref h17, .ref h18, .int 0, .int 0]))] H := hP
  have hD : va_D A [(h0, .inr (12, [.ref h1, .ref h2, .ref h3, .ref h4, .ref h5, .ref h6, .ref h7, .ref h8, .ref h9, .int 0, .int 0, .int 10, .int 0, .int 0, .int (-9), .int 0, .ref h10, .ref h11, .ref h12, .ref h13, .int 0, .int 0, .int 0, .ref h14, .int 0, .int 0, .int 0, .int (-9), .int 0, .ref h15, .int 0, .int 0, .int 0, .ref h16, .ref h17, .ref h18, .int 0, .int 0]))] := hD
  refine lv_if_eq (tgt := 21) hx hb dX12_count_8 (by decide) (fun hc => ?_) (fun hc => ?_)
  rotate_left; exact absurd hc (by decide)
  refine lv_iload_n hx hb dX12_count_21 rfl (lv_at hl 1 rfl) ?_
  refine lv_tableIn (tgt := 88) hx hb dX12_count_22 (by decide) (by decide) (off := 66) (by decide) (by decide) ?_
  refine lv_aload_n hx hb dX12_count_88 rfl (lv_at hl 0 rfl) ?_
  refine z_calli (wc := [(h0, .inr (12, [.ref h1, .ref h2, .ref h3, .ref h4, .ref h5, .ref h6, .ref h7, .ref h8, .ref h9, .int 0, .int 0, .int 10, .int 0, .int 0, .int (-9), .int 0, .ref h10, .ref h11, .ref h12, .ref h13, .int 0, .int 0, .int 0, .ref h14, .int 0, .int 0, .int 0, .int (-9), .int 0, .ref h15, .int 0, .int 0, .int 0, .ref h16, .ref h17, .ref h18, .int 0, .int 0]))]) (wr := []) (w1 := (fun _ => [(h0, .inr (12, [.ref h1, .ref h2, .ref h3, .ref h4, .ref h5, .ref h6, .ref h7, .ref h8, .ref h9, .int 0, .int 0, .int 10, .int 0, .int 0, .int (-9), .int 0, .ref h10, .ref h11, .ref h12, .ref h13, .int 0, .int 0, .int 0, .ref h14, .int 0, .int 0, .int 0, .int (-9), .int 0, .ref h15, .int 0, .int 0, .int 0, .ref h16, .ref h17, .ref h18, .int 0, .int 0]))])) (va_runV (As := []) (rest := []) ⟨hx, hb, hml, hown, hts⟩ (kX12_words l dC dI cI cQ h0 h1 h2 h3 h4 h5 h6 h7 h8 h9 h10 h11 h12 h13 h14 h15 h16 h17 h18 H.size) (cwV 0 hts gv_X12_count_X12_words_294 rfl rfl rfl (by decide +kernel) ⟨Nat.le_of_ble_eq_true rfl, Nat.le_of_ble_eq_true rfl⟩) ⟨z_blind, va_recv hK hP (ci := 12) (q0 := 0) rfl rfl, z_pre hZ hP hD [0] rfl (by decide)⟩ rfl rfl hl.1 rfl (lv_room (Nat.le_of_ble_eq_true rfl)) dX12_count_89 ⟨Nat.le_of_ble_eq_true rfl, Nat.le_of_ble_eq_true rfl⟩) hP hD hS hA [0] [] rfl rfl (by decide) (by decide) (fun _ H locs hP hD hS => ?_)
  have hP : va_P (dC, dI) vwCl [(h0, .inr (12, [.ref h1, .ref h2, .ref h3, .ref h4, .ref h5, .ref h6, .ref h7, .ref h8, .ref h9, .int 0, .int 0, .int 10, .int 0, .int 0, .int (-9), .int 0, .ref h10, .ref h11, .ref h12, .ref h13, .int 0, .int 0, .int 0, .ref h14, .int 0, .int 0, .int 0, .int (-9), .int 0, .ref h15, .int 0, .int 0, .int 0, .ref h16, .ref h17, .ref h18, .int 0, .int 0]))] H := hP
  have hD : va_D A [(h0, .inr (12, [.ref h1, .ref h2, .ref h3, .ref h4, .ref h5, .ref h6, .ref h7, .ref h8, .ref h9, .int 0, .int 0, .int 10, .int 0, .int 0, .int (-9), .int 0, .ref h10, .ref h11, .ref h12, .ref h13, .int 0, .int 0, .int 0, .ref h14, .int 0, .int 0, .int 0, .int (-9), .int 0, .ref h15, .int 0, .int 0, .int 0, .ref h16, .ref h17, .ref h18, .int 0, .int 0]))] := hD
  have hP9 := hP.sub (ws' := []) [] rfl
  have hD9 := hD.sub (ws' := []) [] (by decide) rfl
  exact W.iret (v := 0) hx hb hr (fun t ht hW => ⟨⟨0, (fun k => [].getD k 0), rfl, rfl, by rw [ht]; exact hP9, hD9⟩, hS.F ht⟩) hS.2.2 dX12_count_92
set_option maxHeartbeats 4000000 in
set_option maxRecDepth 100000 in
theorem kX12_isIn_12 (l : Launch) (dC : Nat → ClassId) (dI : Nat → Nat → Nat) (cI cQ : ClassId) (sz : Nat) : Met l yX12_isIn vsX12_isIn ({ frames := 0, cells := 0, slots := 0, locals := 0 }) (va_Pc [.int 5, .int 11, .int 16] (zB dC dI cI cQ [] sz)) (zQi dC dI (va_A [] sz) (fun ad => []) 0) 0 0 (va_A [] sz) := by
  refine Met.ofW (cc := cX12_isIn) (maxL := 3) (ret := (some .boolean)) (by decide) rfl ?_
  intro p e s m args below meth c s₁ B hml hv
  obtain ⟨rfl, hsz, hP, hZ, hD0⟩ := hv
  obtain ⟨hK, hAO, hN⟩ := id hZ
  have hx := B.exec
  have hb := B.bytes
  have hr := B.returns
  have hts := atoms_spec (ws := vsX12_isIn) B.pre
  have hown : s.vm.findClass RX12 = some m.cls := findClass_of_methodNamed B.named
  have hlocks := B.notSynchronized
  subst hsz
  have hD := hD0.self (sz := s.heap.size)
  generalize hAe : va_A [] s.heap.size = A at hD ⊢
  have hA : ∀ q : Nat, s.heap.size ≤ q → A q := fun q h => by rw [← hAe]; exact Or.inr h
  have hS : va_S A s.heap s.heap [] := va_S.rf
  have hP : va_P (dC, dI) vwCl [] s.heap := hP
  have hl := lv_entry ([.int 5, .int 11, .int 16]) (n := 3) (Nat.le_of_ble_eq_true rfl)
  rw [lg_entry_eq]
  generalize (lg_sl ([.int 5, .int 11, .int 16]) ++ List.replicate (3 - (lg_sl ([.int 5, .int 11, .int 16])).length) Slot.unset).toArray = ls at hl ⊢
  have hl : lv_has ls 3 [(0, .int 5), (1, .int 11), (2, .int 16)] := hl
  refine lv_iload_n hx hb dX12_isIn_0 rfl (lv_at hl 0 rfl) ?_
  refine lv_iload_n hx hb dX12_isIn_1 rfl (lv_at hl 1 rfl) ?_
  refine lv_icmp_lt (tgt := 14) hx hb dX12_isIn_2 (by decide) (fun hc => ?_) (fun hc => ?_)
  rotate_left; exact absurd hc (by decide)
  refine lv_iconst (v := 0) hx hb dX12_isIn_14 (by decide) ?_
  have hP9 := hP.sub (ws' := []) [] rfl
  have hD9 := hD.sub (ws' := []) [] (by decide) rfl
  exact W.zret (v := 0) hx hb hr rfl (fun t ht hW => ⟨⟨0, (fun k => [].getD k 0), rfl, rfl, by rw [ht]; exact hP9, hD9⟩, hS.F ht⟩) hS.2.2 dX12_isIn_15
set_option maxHeartbeats 4000000 in
set_option maxRecDepth 100000 in
theorem kX12_count_6 (l : Launch) (dC : Nat → ClassId) (dI : Nat → Nat → Nat) (cI cQ : ClassId) (h0 h1 h2 h3 h4 h5 h6 h7 h8 h9 h10 h11 h12 h13 h14 h15 h16 h17 h18 : Nat) (sz : Nat) : Met l yX12_count vsX12_count ({ frames := 1, cells := 0, slots := 0, locals := 22 }) (va_Pc [.ref h0, .int 5] (zB dC dI cI cQ [(h0, .inr (12, [.ref h1, .ref h2, .ref h3, .ref h4, .ref h5, .ref h6, .ref h7, .ref h8, .ref h9, .int 0, .int 0, .int 10, .int 0, .int 0, .int (-9), .int 0, .ref h10, .ref h11, .ref h12, .ref h13, .int 0, .int 0, .int 0, .ref h14, .int 0, .int 0, .int 0, .int (-9), .int 0, .ref h15, .int 0, .int 0, .int 0, .ref h16, .ref h17, .ref h18, .int 0, .int 0]))] sz)) (zQi dC dI (va_A [(h0, .inr (12, [.ref h1, .ref h2, .ref h3, .ref h4, .ref h5, .ref h6, .ref h7, .ref h8, .ref h9, .int 0, .int 0, .int 10, .int 0, .int 0, .int (-9), .int 0, .ref h10, .ref h11, .ref h12, .ref h13, .int 0, .int 0, .int 0, .ref h14, .int 0, .int 0, .int 0, .int (-9), .int 0, .ref h15, .int 0, .int 0, .int 0, .ref h16, .ref h17, .ref h18, .int 0, .int 0]))] sz) (fun ad => []) 0) 0 0 (va_A [(h0, .inr (12, [.ref h1, .ref h2, .ref h3, .ref h4, .ref h5, .ref h6, .ref h7, .ref h8, .ref h9, .int 0, .int 0, .int 10, .int 0, .int 0, .int (-9), .int 0, .ref h10, .ref h11, .ref h12, .ref h13, .int 0, .int 0, .int 0, .ref h14, .int 0, .int 0, .int 0, .int (-9), .int 0, .ref h15, .int 0, .int 0, .int 0, .ref h16, .ref h17, .ref h18, .int 0, .int 0]))] sz) := by
  refine Met.ofW (cc := cX12_count) (maxL := 2) (ret := (some .int)) (by decide) rfl ?_
  intro p e s m args below meth c s₁ B hml hv
  obtain ⟨rfl, hsz, hP, hZ, hD0⟩ := hv
  obtain ⟨hK, hAO, hN⟩ := id hZ
  have hx := B.exec
  have hb := B.bytes
  have hr := B.returns
  have hts := atoms_spec (ws := vsX12_count) B.pre
  have hown : s.vm.findClass RX12 = some m.cls := findClass_of_methodNamed B.named
  have hlocks := B.notSynchronized
  subst hsz
  have hD := hD0.self (sz := s.heap.size)
  generalize hAe : va_A [(h0, .inr (12, [.ref h1, .ref h2, .ref h3, .ref h4, .ref h5, .ref h6, .ref h7, .ref h8, .ref h9, .int 0, .int 0, .int 10, .int 0, .int 0, .int (-9), .int 0, .ref h10, .ref h11, .ref h12, .ref h13, .int 0, .int 0, .int 0, .ref h14, .int 0, .int 0, .int 0, .int (-9), .int 0, .ref h15, .int 0, .int 0, .int 0, .ref h16, .ref h17, .ref h18, .int 0, .int 0]))] s.heap.size = A at hD ⊢
  have hA : ∀ q : Nat, s.heap.size ≤ q → A q := fun q h => by rw [← hAe]; exact Or.inr h
  have hS : va_S A s.heap s.heap [] := va_S.rf
  have hP : va_P (dC, dI) vwCl [(h0, .inr (12, [.ref h1, .ref h2, .ref h3, .ref h4, .ref h5, .ref h6, .ref h7, .ref h8, .ref h9, .int 0, .int 0, .int 10, .int 0, .int 0, .int (-9), .int 0, .ref h10, .ref h11, .ref h12, .ref h13, .int 0, .int 0, .int 0, .ref h14, .int 0, .int 0, .int 0, .int (-9), .int 0, .ref h15, .int 0, .int 0, .int 0, .ref h16, .ref h17, .ref h18, .int 0, .int 0]))] s.heap := hP
  have hl := lv_entry ([.ref h0, .int 5]) (n := 2) (Nat.le_of_ble_eq_true rfl)
  rw [lg_entry_eq]
  generalize (lg_sl ([.ref h0, .int 5]) ++ List.replicate (2 - (lg_sl ([.ref h0, .int 5])).length) Slot.unset).toArray = ls at hl ⊢
  have hl : lv_has ls 2 [(0, .ref h0), (1, .int 5)] := hl
  refine lv_iload_n hx hb dX12_count_0 rfl (lv_at hl 1 rfl) ?_
  refine lv_bipush (v := 11) hx hb dX12_count_1 (by decide) ?_
  refine lv_bipush (v := 16) hx hb dX12_count_3 (by decide) ?_
  refine z_calli (wc := []) (wr := [(h0, .inr (12, [.ref h1, .ref h2, .ref h3, .ref h4, .ref h5, .ref h6, .ref h7, .ref h8, .ref h9, .int 0, .int 0, .int 10, .int 0, .int 0, .int (-9), .int 0, .ref h10, .ref h11, .ref h12, .ref h13, .int 0, .int 0, .int 0, .ref h14, .int 0, .int 0, .int 0, .int (-9), .int 0, .ref h15, .int 0, .int 0, .int 0, .ref h16, .ref h17, .ref h18, .int 0, .int 0]))]) (w1 := (fun _ => [])) (va_runS (As := [.int 5, .int 11, .int 16]) (rest := []) ⟨hx, hb, hml, hown, hts⟩ (kX12_isIn_12 l dC dI cI cQ s.heap.size) (va_cwS 3 hts gv_X12_count_X12_isIn_100 rfl rfl rfl (by decide +kernel) ⟨Nat.le_of_ble_eq_true rfl, Nat.le_of_ble_eq_true rfl⟩) ⟨z_blind, z_pre hZ hP hD [] rfl (by decide)⟩ rfl rfl hl.1 rfl (lv_room (Nat.le_of_ble_eq_true rfl)) dX12_count_5 ⟨Nat.le_of_ble_eq_true rfl, Nat.le_of_ble_eq_true rfl⟩) hP hD hS hA [] [0] rfl rfl (by decide) (by decide) (fun _ H locs hP hD hS => ?_)
  have hP : va_P (dC, dI) vwCl [(h0, .inr (12, [.ref h1, .ref h2, .ref h3, .ref h4, .ref h5, .ref h6, .ref h7, .ref h8, .ref h9, .int 0, .int 0, .int 10, .int 0, .int 0, .int (-9), .int 0, .ref h10, .ref h11, .ref h12, .ref h13, .int 0, .int 0, .int 0, .ref h14, .int 0, .int 0, .int 0, .int (-9), .int 0, .ref h15, .int 0, .int 0, .int 0, .ref h16, .ref h17, .ref h18, .int 0, .int 0]))] H := hP
  have hD : va_D A [(h0, .inr (12, [.ref h1, .ref h2, .ref h3, .ref h4, .ref h5, .ref h6, .ref h7, .ref h8, .ref h9, .int 0, .int 0, .int 10, .int 0, .int 0, .int (-9), .int 0, .ref h10, .ref h11, .ref h12, .ref h13, .int 0, .int 0, .int 0, .ref h14, .int 0, .int 0, .int 0, .int (-9), .int 0, .ref h15, .int 0, .int 0, .int 0, .ref h16, .ref h17, .ref h18, .int 0, .int 0]))] := hD
  refine lv_if_eq (tgt := 21) hx hb dX12_count_8 (by decide) (fun hc => ?_) (fun hc => ?_)
  rotate_left; exact absurd hc (by decide)
  refine lv_iload_n hx hb dX12_count_21 rfl (lv_at hl 1 rfl) ?_
  refine lv_tableIn (tgt := 93) hx hb dX12_count_22 (by decide) (by decide) (off := 71) (by decide) (by decide) ?_
  refine lv_aload_n hx hb dX12_count_93 rfl (lv_at hl 0 rfl) ?_
  refine va_get (D := (dC, dI)) (ci := 12) (v := .int 0) (C := RX12) (T := TX12) (N := 38) hx hb hts in_X12_count_X12 hown hK hP 0 rfl rfl 20 (by decide) (hts (.fieldLink RX12 86 "EachOnHisCueModel" "taped" "I") (by decide +kernel)) (fun _ h9 => h9) rfl dX12_count_94 ?_
  have hP9 := hP.sub (ws' := []) [] rfl
  have hD9 := hD.sub (ws' := []) [] (by decide) rfl
  exact W.iret (v := 0) hx hb hr (fun t ht hW => ⟨⟨0, (fun k => [].getD k 0), rfl, rfl, by rw [ht]; exact hP9, hD9⟩, hS.F ht⟩) hS.2.2 dX12_count_97
set_option maxHeartbeats 4000000 in
set_option maxRecDepth 100000 in
theorem kX12_isIn_13 (l : Launch) (dC : Nat → ClassId) (dI : Nat → Nat → Nat) (cI cQ : ClassId) (sz : Nat) : Met l yX12_isIn vsX12_isIn ({ frames := 0, cells := 0, slots := 0, locals := 0 }) (va_Pc [.int 6, .int 11, .int 16] (zB dC dI cI cQ [] sz)) (zQi dC dI (va_A [] sz) (fun ad => []) 0) 0 0 (va_A [] sz) := by
  refine Met.ofW (cc := cX12_isIn) (maxL := 3) (ret := (some .boolean)) (by decide) rfl ?_
  intro p e s m args below meth c s₁ B hml hv
  obtain ⟨rfl, hsz, hP, hZ, hD0⟩ := hv
  obtain ⟨hK, hAO, hN⟩ := id hZ
  have hx := B.exec
  have hb := B.bytes
  have hr := B.returns
  have hts := atoms_spec (ws := vsX12_isIn) B.pre
  have hown : s.vm.findClass RX12 = some m.cls := findClass_of_methodNamed B.named
  have hlocks := B.notSynchronized
  subst hsz
  have hD := hD0.self (sz := s.heap.size)
  generalize hAe : va_A [] s.heap.size = A at hD ⊢
  have hA : ∀ q : Nat, s.heap.size ≤ q → A q := fun q h => by rw [← hAe]; exact Or.inr h
  have hS : va_S A s.heap s.heap [] := va_S.rf
  have hP : va_P (dC, dI) vwCl [] s.heap := hP
  have hl := lv_entry ([.int 6, .int 11, .int 16]) (n := 3) (Nat.le_of_ble_eq_true rfl)
  rw [lg_entry_eq]
  generalize (lg_sl ([.int 6, .int 11, .int 16]) ++ List.replicate (3 - (lg_sl ([.int 6, .int 11, .int 16])).length) Slot.unset).toArray = ls at hl ⊢
  have hl : lv_has ls 3 [(0, .int 6), (1, .int 11), (2, .int 16)] := hl
  refine lv_iload_n hx hb dX12_isIn_0 rfl (lv_at hl 0 rfl) ?_
  refine lv_iload_n hx hb dX12_isIn_1 rfl (lv_at hl 1 rfl) ?_
  refine lv_icmp_lt (tgt := 14) hx hb dX12_isIn_2 (by decide) (fun hc => ?_) (fun hc => ?_)
  rotate_left; exact absurd hc (by decide)
  refine lv_iconst (v := 0) hx hb dX12_isIn_14 (by decide) ?_
  have hP9 := hP.sub (ws' := []) [] rfl
  have hD9 := hD.sub (ws' := []) [] (by decide) rfl
  exact W.zret (v := 0) hx hb hr rfl (fun t ht hW => ⟨⟨0, (fun k => [].getD k 0), rfl, rfl, by rw [ht]; exact hP9, hD9⟩, hS.F ht⟩) hS.2.2 dX12_isIn_15
set_option maxHeartbeats 4000000 in
set_option maxRecDepth 100000 in
theorem kX12_count_7 (l : Launch) (dC : Nat → ClassId) (dI : Nat → Nat → Nat) (cI cQ : ClassId) (h0 h1 h2 h3 h4 h5 h6 h7 h8 h9 h10 h11 h12 h13 h14 h15 h16 h17 h18 : Nat) (sz : Nat) : Met l yX12_count vsX12_count ({ frames := 1, cells := 0, slots := 0, locals := 22 }) (va_Pc [.ref h0, .int 6] (zB dC dI cI cQ [(h0, .inr (12, [.ref h1, .ref h2, .ref h3, .ref h4, .ref h5, .ref h6, .ref h7, .ref h8, .ref h9, .int 0, .int 0, .int 10, .int 0, .int 0, .int (-9), .int 0, .ref h10, .ref h11, .ref h12, .ref h13, .int 0, .int 0, .int 0, .ref h14, .int 0, .int 0, .int 0, .int (-9), .int 0, .ref h15, .int 0, .int 0, .int 0, .ref h16, .ref h17, .ref h18, .int 0, .int 0]))] sz)) (zQi dC dI (va_A [(h0, .inr (12, [.ref h1, .ref h2, .ref h3, .ref h4, .ref h5, .ref h6, .ref h7, .ref h8, .ref h9, .int 0, .int 0, .int 10, .int 0, .int 0, .int (-9), .int 0, .ref h10, .ref h11, .ref h12, .ref h13, .int 0, .int 0, .int 0, .ref h14, .int 0, .int 0, .int 0, .int (-9), .int 0, .ref h15, .int 0, .int 0, .int 0, .ref h16, .ref h17, .ref h18, .int 0, .int 0]))] sz) (fun ad => []) 0) 0 0 (va_A [(h0, .inr (12, [.ref h1, .ref h2, .ref h3, .ref h4, .ref h5, .ref h6, .ref h7, .ref h8, .ref h9, .int 0, .int 0, .int 10, .int 0, .int 0, .int (-9), .int 0, .ref h10, .ref h11, .ref h12, .ref h13, .int 0, .int 0, .int 0, .ref h14, .int 0, .int 0, .int 0, .int (-9), .int 0, .ref h15, .int 0, .int 0, .int 0, .ref h16, .ref h17, .ref h18, .int 0, .int 0]))] sz) := by
  refine Met.ofW (cc := cX12_count) (maxL := 2) (ret := (some .int)) (by decide) rfl ?_
  intro p e s m args below meth c s₁ B hml hv
  obtain ⟨rfl, hsz, hP, hZ, hD0⟩ := hv
  obtain ⟨hK, hAO, hN⟩ := id hZ
  have hx := B.exec
  have hb := B.bytes
  have hr := B.returns
  have hts := atoms_spec (ws := vsX12_count) B.pre
  have hown : s.vm.findClass RX12 = some m.cls := findClass_of_methodNamed B.named
  have hlocks := B.notSynchronized
  subst hsz
  have hD := hD0.self (sz := s.heap.size)
  generalize hAe : va_A [(h0, .inr (12, [.ref h1, .ref h2, .ref h3, .ref h4, .ref h5, .ref h6, .ref h7, .ref h8, .ref h9, .int 0, .int 0, .int 10, .int 0, .int 0, .int (-9), .int 0, .ref h10, .ref h11, .ref h12, .ref h13, .int 0, .int 0, .int 0, .ref h14, .int 0, .int 0, .int 0, .int (-9), .int 0, .ref h15, .int 0, .int 0, .int 0, .ref h16, .ref h17, .ref h18, .int 0, .int 0]))] s.heap.size = A at hD ⊢
  have hA : ∀ q : Nat, s.heap.size ≤ q → A q := fun q h => by rw [← hAe]; exact Or.inr h
  have hS : va_S A s.heap s.heap [] := va_S.rf
  have hP : va_P (dC, dI) vwCl [(h0, .inr (12, [.ref h1, .ref h2, .ref h3, .ref h4, .ref h5, .ref h6, .ref h7, .ref h8, .ref h9, .int 0, .int 0, .int 10, .int 0, .int 0, .int (-9), .int 0, .ref h10, .ref h11, .ref h12, .ref h13, .int 0, .int 0, .int 0, .ref h14, .int 0, .int 0, .int 0, .int (-9), .int 0, .ref h15, .int 0, .int 0, .int 0, .ref h16, .ref h17, .ref h18, .int 0, .int 0]))] s.heap := hP
  have hl := lv_entry ([.ref h0, .int 6]) (n := 2) (Nat.le_of_ble_eq_true rfl)
  rw [lg_entry_eq]
  generalize (lg_sl ([.ref h0, .int 6]) ++ List.replicate (2 - (lg_sl ([.ref h0, .int 6])).length) Slot.unset).toArray = ls at hl ⊢
  have hl : lv_has ls 2 [(0, .ref h0), (1, .int 6)] := hl
  refine lv_iload_n hx hb dX12_count_0 rfl (lv_at hl 1 rfl) ?_
  refine lv_bipush (v := 11) hx hb dX12_count_1 (by decide) ?_
  refine lv_bipush (v := 16) hx hb dX12_count_3 (by decide) ?_
  refine z_calli (wc := []) (wr := [(h0, .inr (12, [.ref h1, .ref h2, .ref h3, .ref h4, .ref h5, .ref h6, .ref h7, .ref h8, .ref h9, .int 0, .int 0, .int 10, .int 0, .int 0, .int (-9), .int 0, .ref h10, .ref h11, .ref h12, .ref h13, .int 0, .int 0, .int 0, .ref h14, .int 0, .int 0, .int 0, .int (-9), .int 0, .ref h15, .int 0, .int 0, .int 0, .ref h16, .ref h17, .ref h18, .int 0, .int 0]))]) (w1 := (fun _ => [])) (va_runS (As := [.int 6, .int 11, .int 16]) (rest := []) ⟨hx, hb, hml, hown, hts⟩ (kX12_isIn_13 l dC dI cI cQ s.heap.size) (va_cwS 3 hts gv_X12_count_X12_isIn_100 rfl rfl rfl (by decide +kernel) ⟨Nat.le_of_ble_eq_true rfl, Nat.le_of_ble_eq_true rfl⟩) ⟨z_blind, z_pre hZ hP hD [] rfl (by decide)⟩ rfl rfl hl.1 rfl (lv_room (Nat.le_of_ble_eq_true rfl)) dX12_count_5 ⟨Nat.le_of_ble_eq_true rfl, Nat.le_of_ble_eq_true rfl⟩) hP hD hS hA [] [0] rfl rfl (by decide) (by decide) (fun _ H locs hP hD hS => ?_)
  have hP : va_P (dC, dI) vwCl [(h0, .inr (12, [.ref h1, .ref h2, .ref h3, .ref h4, .ref h5, .ref h6, .ref h7, .ref h8, .ref h9, .int 0, .int 0, .int 10, .int 0, .int 0, .int (-9), .int 0, .ref h10, .ref h11, .ref h12, .ref h13, .int 0, .int 0, .int 0, .ref h14, .int 0, .int 0, .int 0, .int (-9), .int 0, .ref h15, .int 0, .int 0, .int 0, .ref h16, .ref h17, .ref h18, .int 0, .int 0]))] H := hP
  have hD : va_D A [(h0, .inr (12, [.ref h1, .ref h2, .ref h3, .ref h4, .ref h5, .ref h6, .ref h7, .ref h8, .ref h9, .int 0, .int 0, .int 10, .int 0, .int 0, .int (-9), .int 0, .ref h10, .ref h11, .ref h12, .ref h13, .int 0, .int 0, .int 0, .ref h14, .int 0, .int 0, .int 0, .int (-9), .int 0, .ref h15, .int 0, .int 0, .int 0, .ref h16, .ref h17, .ref h18, .int 0, .int 0]))] := hD
  refine lv_if_eq (tgt := 21) hx hb dX12_count_8 (by decide) (fun hc => ?_) (fun hc => ?_)
  rotate_left; exact absurd hc (by decide)
  refine lv_iload_n hx hb dX12_count_21 rfl (lv_at hl 1 rfl) ?_
  refine lv_tableIn (tgt := 98) hx hb dX12_count_22 (by decide) (by decide) (off := 76) (by decide) (by decide) ?_
  refine lv_aload_n hx hb dX12_count_98 rfl (lv_at hl 0 rfl) ?_
  refine va_get (D := (dC, dI)) (ci := 12) (v := .int 0) (C := RX12) (T := TX12) (N := 38) hx hb hts in_X12_count_X12 hown hK hP 0 rfl rfl 36 (by decide) (hts (.fieldLink RX12 276 "EachOnHisCueModel" "rowMany" "I") (by decide +kernel)) (fun _ h9 => h9) rfl dX12_count_99 ?_
  have hP9 := hP.sub (ws' := []) [] rfl
  have hD9 := hD.sub (ws' := []) [] (by decide) rfl
  exact W.iret (v := 0) hx hb hr (fun t ht hW => ⟨⟨0, (fun k => [].getD k 0), rfl, rfl, by rw [ht]; exact hP9, hD9⟩, hS.F ht⟩) hS.2.2 dX12_count_102
set_option maxHeartbeats 4000000 in
set_option maxRecDepth 100000 in
theorem kX12_isIn_14 (l : Launch) (dC : Nat → ClassId) (dI : Nat → Nat → Nat) (cI cQ : ClassId) (sz : Nat) : Met l yX12_isIn vsX12_isIn ({ frames := 0, cells := 0, slots := 0, locals := 0 }) (va_Pc [.int 7, .int 11, .int 16] (zB dC dI cI cQ [] sz)) (zQi dC dI (va_A [] sz) (fun ad => []) 0) 0 0 (va_A [] sz) := by
  refine Met.ofW (cc := cX12_isIn) (maxL := 3) (ret := (some .boolean)) (by decide) rfl ?_
  intro p e s m args below meth c s₁ B hml hv
  obtain ⟨rfl, hsz, hP, hZ, hD0⟩ := hv
  obtain ⟨hK, hAO, hN⟩ := id hZ
  have hx := B.exec
  have hb := B.bytes
  have hr := B.returns
  have hts := atoms_spec (ws := vsX12_isIn) B.pre
  have hown : s.vm.findClass RX12 = some m.cls := findClass_of_methodNamed B.named
  have hlocks := B.notSynchronized
  subst hsz
  have hD := hD0.self (sz := s.heap.size)
  generalize hAe : va_A [] s.heap.size = A at hD ⊢
  have hA : ∀ q : Nat, s.heap.size ≤ q → A q := fun q h => by rw [← hAe]; exact Or.inr h
  have hS : va_S A s.heap s.heap [] := va_S.rf
  have hP : va_P (dC, dI) vwCl [] s.heap := hP
  have hl := lv_entry ([.int 7, .int 11, .int 16]) (n := 3) (Nat.le_of_ble_eq_true rfl)
  rw [lg_entry_eq]
  generalize (lg_sl ([.int 7, .int 11, .int 16]) ++ List.replicate (3 - (lg_sl ([.int 7, .int 11, .int 16])).length) Slot.unset).toArray = ls at hl ⊢
  have hl : lv_has ls 3 [(0, .int 7), (1, .int 11), (2, .int 16)] := hl
  refine lv_iload_n hx hb dX12_isIn_0 rfl (lv_at hl 0 rfl) ?_
  refine lv_iload_n hx hb dX12_isIn_1 rfl (lv_at hl 1 rfl) ?_
  refine lv_icmp_lt (tgt := 14) hx hb dX12_isIn_2 (by decide) (fun hc => ?_) (fun hc => ?_)
  rotate_left; exact absurd hc (by decide)
  refine lv_iconst (v := 0) hx hb dX12_isIn_14 (by decide) ?_
  have hP9 := hP.sub (ws' := []) [] rfl
  have hD9 := hD.sub (ws' := []) [] (by decide) rfl
  exact W.zret (v := 0) hx hb hr rfl (fun t ht hW => ⟨⟨0, (fun k => [].getD k 0), rfl, rfl, by rw [ht]; exact hP9, hD9⟩, hS.F ht⟩) hS.2.2 dX12_isIn_15
set_option maxHeartbeats 4000000 in
set_option maxRecDepth 100000 in
theorem kX12_count_8 (l : Launch) (dC : Nat → ClassId) (dI : Nat → Nat → Nat) (cI cQ : ClassId) (h0 h1 h2 h3 h4 h5 h6 h7 h8 h9 h10 h11 h12 h13 h14 h15 h16 h17 h18 : Nat) (sz : Nat) : Met l yX12_count vsX12_count ({ frames := 1, cells := 0, slots := 0, locals := 22 }) (va_Pc [.ref h0, .int 7] (zB dC dI cI cQ [(h0, .inr (12, [.ref h1, .ref h2, .ref h3, .ref h4, .ref h5, .ref h6, .ref h7, .ref h8, .ref h9, .int 0, .int 0, .int 10, .int 0, .int 0, .int (-9), .int 0, .ref h10, .ref h11, .ref h12, .ref h13, .int 0, .int 0, .int 0, .ref h14, .int 0, .int 0, .int 0, .int (-9), .int 0, .ref h15, .int 0, .int 0, .int 0, .ref h16, .ref h17, .ref h18, .int 0, .int 0]))] sz)) (zQi dC dI (va_A [(h0, .inr (12, [.ref h1, .ref h2, .ref h3, .ref h4, .ref h5, .ref h6, .ref h7, .ref h8, .ref h9, .int 0, .int 0, .int 10, .int 0, .int 0, .int (-9), .int 0, .ref h10, .ref h11, .ref h12, .ref h13, .int 0, .int 0, .int 0, .ref h14, .int 0, .int 0, .int 0, .int (-9), .int 0, .ref h15, .int 0, .int 0, .int 0, .ref h16, .ref h17, .ref h18, .int 0, .int 0]))] sz) (fun ad => []) 10) 0 0 (va_A [(h0, .inr (12, [.ref h1, .ref h2, .ref h3, .ref h4, .ref h5, .ref h6, .ref h7, .ref h8, .ref h9, .int 0, .int 0, .int 10, .int 0, .int 0, .int (-9), .int 0, .ref h10, .ref h11, .ref h12, .ref h13, .int 0, .int 0, .int 0, .ref h14, .int 0, .int 0, .int 0, .int (-9), .int 0, .ref h15, .int 0, .int 0, .int 0, .ref h16, .ref h17, .ref h18, .int 0, .int 0]))] sz) := by
  refine Met.ofW (cc := cX12_count) (maxL := 2) (ret := (some .int)) (by decide) rfl ?_
  intro p e s m args below meth c s₁ B hml hv
  obtain ⟨rfl, hsz, hP, hZ, hD0⟩ := hv
  obtain ⟨hK, hAO, hN⟩ := id hZ
  have hx := B.exec
  have hb := B.bytes
  have hr := B.returns
  have hts := atoms_spec (ws := vsX12_count) B.pre
  have hown : s.vm.findClass RX12 = some m.cls := findClass_of_methodNamed B.named
  have hlocks := B.notSynchronized
  subst hsz
  have hD := hD0.self (sz := s.heap.size)
  generalize hAe : va_A [(h0, .inr (12, [.ref h1, .ref h2, .ref h3, .ref h4, .ref h5, .ref h6, .ref h7, .ref h8, .ref h9, .int 0, .int 0, .int 10, .int 0, .int 0, .int (-9), .int 0, .ref h10, .ref h11, .ref h12, .ref h13, .int 0, .int 0, .int 0, .ref h14, .int 0, .int 0, .int 0, .int (-9), .int 0, .ref h15, .int 0, .int 0, .int 0, .ref h16, .ref h17, .ref h18, .int 0, .int 0]))] s.heap.size = A at hD ⊢
  have hA : ∀ q : Nat, s.heap.size ≤ q → A q := fun q h => by rw [← hAe]; exact Or.inr h
  have hS : va_S A s.heap s.heap [] := va_S.rf
  have hP : va_P (dC, dI) vwCl [(h0, .inr (12, [.ref h1, .ref h2, .ref h3, .ref h4, .ref h5, .ref h6, .ref h7, .ref h8, .ref h9, .int 0, .int 0, .int 10, .int 0, .int 0, .int (-9), .int 0, .ref h10, .ref h11, .ref h12, .ref h13, .int 0, .int 0, .int 0, .ref h14, .int 0, .int 0, .int 0, .int (-9), .int 0, .ref h15, .int 0, .int 0, .int 0, .ref h16, .ref h17, .ref h18, .int 0, .int 0]))] s.heap := hP
  have hl := lv_entry ([.ref h0, .int 7]) (n := 2) (Nat.le_of_ble_eq_true rfl)
  rw [lg_entry_eq]
  generalize (lg_sl ([.ref h0, .int 7]) ++ List.replicate (2 - (lg_sl ([.ref h0, .int 7])).length) Slot.unset).toArray = ls at hl ⊢
  have hl : lv_has ls 2 [(0, .ref h0), (1, .int 7)] := hl
  refine lv_iload_n hx hb dX12_count_0 rfl (lv_at hl 1 rfl) ?_
  refine lv_bipush (v := 11) hx hb dX12_count_1 (by decide) ?_
  refine lv_bipush (v := 16) hx hb dX12_count_3 (by decide) ?_
  refine z_calli (wc := []) (wr := [(h0, .inr (12, [.ref h1, .ref h2, .ref h3, .ref h4, .ref h5, .ref h6, .ref h7, .ref h8, .ref h9, .int 0, .int 0, .int 10, .int 0, .int 0, .int (-9), .int 0, .ref h10, .ref h11, .ref h12, .ref h13, .int 0, .int 0, .int 0, .ref h14, .int 0, .int 0, .int 0, .int (-9), .int 0, .ref h15, .int 0, .int 0, .int 0, .ref h16, .ref h17, .ref h18, .int 0, .int 0]))]) (w1 := (fun _ => [])) (va_runS (As := [.int 7, .int 11, .int 16]) (rest := []) ⟨hx, hb, hml, hown, hts⟩ (kX12_isIn_14 l dC dI cI cQ s.heap.size) (va_cwS 3 hts gv_X12_count_X12_isIn_100 rfl rfl rfl (by decide +kernel) ⟨Nat.le_of_ble_eq_true rfl, Nat.le_of_ble_eq_true rfl⟩) ⟨z_blind, z_pre hZ hP hD [] rfl (by decide)⟩ rfl rfl hl.1 rfl (lv_room (Nat.le_of_ble_eq_true rfl)) dX12_count_5 ⟨Nat.le_of_ble_eq_true rfl, Nat.le_of_ble_eq_true rfl⟩) hP hD hS hA [] [0] rfl rfl (by decide) (by decide) (fun _ H locs hP hD hS => ?_)
  have hP : va_P (dC, dI) vwCl [(h0, .inr (12, [.ref h1, .ref h2, .ref h3, .ref h4, .ref h5, .ref h6, .ref h7, .ref h8, .ref h9, .int 0, .int 0, .int 10, .int 0, .int 0, .int (-9), .int 0, .ref h10, .ref h11, .ref h12, .ref h13, .int 0, .int 0, .int 0, .ref h14, .int 0, .int 0, .int 0, .int (-9), .int 0, .ref h15, .int 0, .int 0, .int 0, .ref h16, .ref h17, .ref h18, .int 0, .int 0]))] H := hP
  have hD : va_D A [(h0, .inr (12, [.ref h1, .ref h2, .ref h3, .ref h4, .ref h5, .ref h6, .ref h7, .ref h8, .ref h9, .int 0, .int 0, .int 10, .int 0, .int 0, .int (-9), .int 0, .ref h10, .ref h11, .ref h12, .ref h13, .int 0, .int 0, .int 0, .ref h14, .int 0, .int 0, .int 0, .int (-9), .int 0, .ref h15, .int 0, .int 0, .int 0, .ref h16, .ref h17, .ref h18, .int 0, .int 0]))] := hD
  refine lv_if_eq (tgt := 21) hx hb dX12_count_8 (by decide) (fun hc => ?_) (fun hc => ?_)
  rotate_left; exact absurd hc (by decide)
  refine lv_iload_n hx hb dX12_count_21 rfl (lv_at hl 1 rfl) ?_
  refine lv_tableIn (tgt := 103) hx hb dX12_count_22 (by decide) (by decide) (off := 81) (by decide) (by decide) ?_
  refine lv_aload_n hx hb dX12_count_103 rfl (lv_at hl 0 rfl) ?_
  refine va_get (D := (dC, dI)) (ci := 12) (v := .int 10) (C := RX12) (T := TX12) (N := 38) hx hb hts in_X12_count_X12 hown hK hP 0 rfl rfl 11 (by decide) (hts (.fieldLink RX12 37 "EachOnHisCueModel" "lose" "I") (by decide +kernel)) (fun _ h9 => h9) rfl dX12_count_104 ?_
  have hP9 := hP.sub (ws' := []) [] rfl
  have hD9 := hD.sub (ws' := []) [] (by decide) rfl
  exact W.iret (v := 10) hx hb hr (fun t ht hW => ⟨⟨10, (fun k => [].getD k 0), rfl, rfl, by rw [ht]; exact hP9, hD9⟩, hS.F ht⟩) hS.2.2 dX12_count_107
set_option maxHeartbeats 4000000 in
set_option maxRecDepth 100000 in
theorem kX12_isIn_15 (l : Launch) (dC : Nat → ClassId) (dI : Nat → Nat → Nat) (cI cQ : ClassId) (p0 : Int32) (hp0l : 8 ≤ p0.toInt) (hp0h : p0.toInt ≤ 10) (sz : Nat) : Met l yX12_isIn vsX12_isIn ({ frames := 0, cells := 0, slots := 0, locals := 0 }) (va_Pc [.int p0, .int 11, .int 16] (zB dC dI cI cQ [] sz)) (zQi dC dI (va_A [] sz) (fun ad => []) 0) 0 0 (va_A [] sz) := by
  refine Met.ofW (cc := cX12_isIn) (maxL := 3) (ret := (some .boolean)) (by decide) rfl ?_
  intro p e s m args below meth c s₁ B hml hv
  obtain ⟨rfl, hsz, hP, hZ, hD0⟩ := hv
  obtain ⟨hK, hAO, hN⟩ := id hZ
  have hx := B.exec
  have hb := B.bytes
  have hr := B.returns
  have hts := atoms_spec (ws := vsX12_isIn) B.pre
  have hown : s.vm.findClass RX12 = some m.cls := findClass_of_methodNamed B.named
  have hlocks := B.notSynchronized
  subst hsz
  have hD := hD0.self (sz := s.heap.size)
  generalize hAe : va_A [] s.heap.size = A at hD ⊢
  have hA : ∀ q : Nat, s.heap.size ≤ q → A q := fun q h => by rw [← hAe]; exact Or.inr h
  have hS : va_S A s.heap s.heap [] := va_S.rf
  have hP : va_P (dC, dI) vwCl [] s.heap := hP
  have hl := lv_entry ([.int p0, .int 11, .int 16]) (n := 3) (Nat.le_of_ble_eq_true rfl)
  rw [lg_entry_eq]
  generalize (lg_sl ([.int p0, .int 11, .int 16]) ++ List.replicate (3 - (lg_sl ([.int p0, .int 11, .int 16])).length) Slot.unset).toArray = ls at hl ⊢
  have hl : lv_has ls 3 [(0, .int p0), (1, .int 11), (2, .int 16)] := hl
  refine lv_iload_n hx hb dX12_isIn_0 rfl (lv_at hl 0 rfl) ?_
  refine lv_iload_n hx hb dX12_isIn_1 rfl (lv_at hl 1 rfl) ?_
  refine lv_icmp_lt (tgt := 14) hx hb dX12_isIn_2 (by decide) (fun hc => ?_) (fun hc => ?_)
  rotate_left; exact absurd ((fa_lt _ _).mpr (by rw [show (11 : Int32).toInt = 11 from by decide]; omega)) hc
  refine lv_iconst (v := 0) hx hb dX12_isIn_14 (by decide) ?_
  have hP9 := hP.sub (ws' := []) [] rfl
  have hD9 := hD.sub (ws' := []) [] (by decide) rfl
  exact W.zret (v := 0) hx hb hr rfl (fun t ht hW => ⟨⟨0, (fun k => [].getD k 0), rfl, rfl, by rw [ht]; exact hP9, hD9⟩, hS.F ht⟩) hS.2.2 dX12_isIn_15
set_option maxHeartbeats 4000000 in
set_option maxRecDepth 100000 in
theorem kX12_count_9 (l : Launch) (dC : Nat → ClassId) (dI : Nat → Nat → Nat) (cI cQ : ClassId) (h0 : Nat) (p0 : Int32) (hp0l : 8 ≤ p0.toInt) (hp0h : p0.toInt ≤ 10) (sz : Nat) : Met l yX12_count vsX12_count ({ frames := 1, cells := 0, slots := 0, locals := 22 }) (va_Pc [.ref h0, .int p0] (zB dC dI cI cQ [] sz)) (zQi dC dI (va_A [] sz) (fun ad => []) (-9)) 0 0 (va_A [] sz) := by
  refine Met.ofW (cc := cX12_count) (maxL := 2) (ret := (some .int)) (by decide) rfl ?_
  intro p e s m args below meth c s₁ B hml hv
  obtain ⟨rfl, hsz, hP, hZ, hD0⟩ := hv
  obtain ⟨hK, hAO, hN⟩ := id hZ
  have hx := B.exec
  have hb := B.bytes
  have hr := B.returns
  have hts := atoms_spec (ws := vsX12_count) B.pre
  have hown : s.vm.findClass RX12 = some m.cls := findClass_of_methodNamed B.named
  have hlocks := B.notSynchronized
  subst hsz
  have hD := hD0.self (sz := s.heap.size)
  generalize hAe : va_A [] s.heap.size = A at hD ⊢
  have hA : ∀ q : Nat, s.heap.size ≤ q → A q := fun q h => by rw [← hAe]; exact Or.inr h
  have hS : va_S A s.heap s.heap [] := va_S.rf
  have hP : va_P (dC, dI) vwCl [] s.heap := hP
  have hl := lv_entry ([.ref h0, .int p0]) (n := 2) (Nat.le_of_ble_eq_true rfl)
  rw [lg_entry_eq]
  generalize (lg_sl ([.ref h0, .int p0]) ++ List.replicate (2 - (lg_sl ([.ref h0, .int p0])).length) Slot.unset).toArray = ls at hl ⊢
  have hl : lv_has ls 2 [(0, .ref h0), (1, .int p0)] := hl
  refine lv_iload_n hx hb dX12_count_0 rfl (lv_at hl 1 rfl) ?_
  refine lv_bipush (v := 11) hx hb dX12_count_1 (by decide) ?_
  refine lv_bipush (v := 16) hx hb dX12_count_3 (by decide) ?_
  refine z_calli (wc := []) (wr := []) (w1 := (fun _ => [])) (va_runS (As := [.int p0, .int 11, .int 16]) (rest := []) ⟨hx, hb, hml, hown, hts⟩ (kX12_isIn_15 l dC dI cI cQ p0 hp0l hp0h s.heap.size) (va_cwS 3 hts gv_X12_count_X12_isIn_100 rfl rfl rfl (by decide +kernel) ⟨Nat.le_of_ble_eq_true rfl, Nat.le_of_ble_eq_true rfl⟩) ⟨z_blind, z_pre hZ hP hD [] rfl (by decide)⟩ rfl rfl hl.1 rfl (lv_room (Nat.le_of_ble_eq_true rfl)) dX12_count_5 ⟨Nat.le_of_ble_eq_true rfl, Nat.le_of_ble_eq_true rfl⟩) hP hD hS hA [] [] rfl rfl (by decide) (by decide) (fun _ H locs hP hD hS => ?_)
  have hP : va_P (dC, dI) vwCl [] H := hP
  have hD : va_D A [] := hD
  refine lv_if_eq (tgt := 21) hx hb dX12_count_8 (by decide) (fun hc => ?_) (fun hc => ?_)
  rotate_left; exact absurd hc (by decide)
  refine lv_iload_n hx hb dX12_count_21 rfl (lv_at hl 1 rfl) ?_
  refine lv_tableOut (tgt := 108) hx hb dX12_count_22 (by omega) (by decide) ?_
  refine lv_bipush (v := (-9)) hx hb dX12_count_108 (by decide) ?_
  have hP9 := hP.sub (ws' := []) [] rfl
  have hD9 := hD.sub (ws' := []) [] (by decide) rfl
  exact W.iret (v := (-9)) hx hb hr (fun t ht hW => ⟨⟨(-9), (fun k => [].getD k 0), rfl, rfl, by rw [ht]; exact hP9, hD9⟩, hS.F ht⟩) hS.2.2 dX12_count_110
set_option maxHeartbeats 4000000 in
set_option maxRecDepth 100000 in
theorem kX12_isIn_16 (l : Launch) (dC : Nat → ClassId) (dI : Nat → Nat → Nat) (cI cQ : ClassId) (sz : Nat) : Met l yX12_isIn vsX12_isIn ({ frames := 0, cells := 0, slots := 0, locals := 0 }) (va_Pc [.int 11, .int 11, .int 16] (zB dC dI cI cQ [] sz)) (zQi dC dI (va_A [] sz) (fun ad => []) 1) 0 0 (va_A [] sz) := by
  refine Met.ofW (cc := cX12_isIn) (maxL := 3) (ret := (some .boolean)) (by decide) rfl ?_
  intro p e s m args below meth c s₁ B hml hv
  obtain ⟨rfl, hsz, hP, hZ, hD0⟩ := hv
  obtain ⟨hK, hAO, hN⟩ := id hZ
  have hx := B.exec
  have hb := B.bytes
  have hr := B.returns
  have hts := atoms_spec (ws := vsX12_isIn) B.pre
  have hown : s.vm.findClass RX12 = some m.cls := findClass_of_methodNamed B.named
  have hlocks := B.notSynchronized
  subst hsz
  have hD := hD0.self (sz := s.heap.size)
  generalize hAe : va_A [] s.heap.size = A at hD ⊢
  have hA : ∀ q : Nat, s.heap.size ≤ q → A q := fun q h => by rw [← hAe]; exact Or.inr h
  have hS : va_S A s.heap s.heap [] := va_S.rf
  have hP : va_P (dC, dI) vwCl [] s.heap := hP
  have hl := lv_entry ([.int 11, .int 11, .int 16]) (n := 3) (Nat.le_of_ble_eq_true rfl)
  rw [lg_entry_eq]
  generalize (lg_sl ([.int 11, .int 11, .int 16]) ++ List.replicate (3 - (lg_sl ([.int 11, .int 11, .int 16])).length) Slot.unset).toArray = ls at hl ⊢
  have hl : lv_has ls 3 [(0, .int 11), (1, .int 11), (2, .int 16)] := hl
  refine lv_iload_n hx hb dX12_isIn_0 rfl (lv_at hl 0 rfl) ?_
  refine lv_iload_n hx hb dX12_isIn_1 rfl (lv_at hl 1 rfl) ?_
  refine lv_icmp_lt (tgt := 14) hx hb dX12_isIn_2 (by decide) (fun hc => ?_) (fun hc => ?_)
  · exact absurd hc (by decide)
  refine lv_iload_n hx hb dX12_isIn_5 rfl (lv_at hl 0 rfl) ?_
  refine lv_iload_n hx hb dX12_isIn_6 rfl (lv_at hl 2 rfl) ?_
  refine lv_icmp_gt (tgt := 14) hx hb dX12_isIn_7 (by decide) (fun hc => ?_) (fun hc => ?_)
  · exact absurd hc (by decide)
  refine lv_iconst (v := 1) hx hb dX12_isIn_10 (by decide) ?_
  refine lv_goto (tgt := 15) hx hb dX12_isIn_11 (by decide) ?_
  have hP9 := hP.sub (ws' := []) [] rfl
  have hD9 := hD.sub (ws' := []) [] (by decide) rfl
  exact W.zret (v := 1) hx hb hr rfl (fun t ht hW => ⟨⟨1, (fun k => [].getD k 0), rfl, rfl, by rw [ht]; exact hP9, hD9⟩, hS.F ht⟩) hS.2.2 dX12_isIn_15
set_option maxHeartbeats 4000000 in
set_option maxRecDepth 100000 in
theorem kX12_count_10 (l : Launch) (dC : Nat → ClassId) (dI : Nat → Nat → Nat) (cI cQ : ClassId) (h0 h1 h2 h3 h4 h5 h6 h7 h8 h9 h10 h11 h12 h13 h14 h15 h16 h17 h18 : Nat) (sz : Nat) : Met l yX12_count vsX12_count ({ frames := 1, cells := 0, slots := 0, locals := 22 }) (va_Pc [.ref h0, .int 11] (zB dC dI cI cQ [(h0, .inr (12, [.ref h1, .ref h2, .ref h3, .ref h4, .ref h5, .ref h6, .ref h7, .ref h8, .ref h9, .int 0, .int 0, .int 10, .int 0, .int 0, .int (-9), .int 0, .ref h10, .ref h11, .ref h12, .ref h13, .int 0, .int 0, .int 0, .ref h14, .int 0, .int 0, .int 0, .int (-9), .int 0, .ref h15, .int 0, .int 0, .int 0, .ref h16, .ref h17, .ref h18, .int 0, .int 0])), (h1, .inl (cI, 7, .inl (fun _ => 0)))] sz)) (zQi dC dI (va_A [(h0, .inr (12, [.ref h1, .ref h2, .ref h3, .ref h4, .ref h5, .ref h6, .ref h7, .ref h8, .ref h9, .int 0, .int 0, .int 10, .int 0, .int 0, .int (-9), .int 0, .ref h10, .ref h11, .ref h12, .ref h13, .int 0, .int 0, .int 0, .ref h14, .int 0, .int 0, .int 0, .int (-9), .int 0, .ref h15, .int 0, .int 0, .int 0, .ref h16, .ref h17, .ref h18, .int 0, .int 0])), (h1, .inl (cI, 7, .inl (fun _ => 0)))] sz) (fun ad => []) 0) 0 0 (va_A [(h0, .inr (12, [.ref h1, .ref h2, .ref h3, .ref h4, .ref h5, .ref h6, .ref h7, .ref h8, .ref h9, .int 0, .int 0, .int 10, .int 0, .int 0, .int (-9), .int 0, .ref h10, .ref h11, .ref h12, .ref h13, .int 0, .int 0, .int 0, .ref h14, .int 0, .int 0, .int 0, .int (-9), .int 0, .ref h15, .int 0, .int 0, .int 0, .ref h16, .ref h17, .ref h18, .int 0, .int 0])), (h1, .inl (cI, 7, .inl (fun _ => 0)))] sz) := by
  refine Met.ofW (cc := cX12_count) (maxL := 2) (ret := (some .int)) (by decide) rfl ?_
  intro p e s m args below meth c s₁ B hml hv
  obtain ⟨rfl, hsz, hP, hZ, hD0⟩ := hv
  obtain ⟨hK, hAO, hN⟩ := id hZ
  have hx := B.exec
  have hb := B.bytes
  have hr := B.returns
  have hts := atoms_spec (ws := vsX12_count) B.pre
  have hown : s.vm.findClass RX12 = some m.cls := findClass_of_methodNamed B.named
  have hlocks := B.notSynchronized
  subst hsz
  have hD := hD0.self (sz := s.heap.size)
  generalize hAe : va_A [(h0, .inr (12, [.ref h1, .ref h2, .ref h3, .ref h4, .ref h5, .ref h6, .ref h7, .ref h8, .ref h9, .int 0, .int 0, .int 10, .int 0, .int 0, .int (-9), .int 0, .ref h10, .ref h11, .ref h12, .ref h13, .int 0, .int 0, .int 0, .ref h14, .int 0, .int 0, .int 0, .int (-9), .int 0, .ref h15, .int 0, .int 0, .int 0, .ref h16, .ref h17, .ref h18, .int 0, .int 0])), (h1, .inl (cI, 7, .inl (fun _ => 0)))] s.heap.size = A at hD ⊢
  have hA : ∀ q : Nat, s.heap.size ≤ q → A q := fun q h => by rw [← hAe]; exact Or.inr h
  have hS : va_S A s.heap s.heap [] := va_S.rf
  have hP : va_P (dC, dI) vwCl [(h0, .inr (12, [.ref h1, .ref h2, .ref h3, .ref h4, .ref h5, .ref h6, .ref h7, .ref h8, .ref h9, .int 0, .int 0, .int 10, .int 0, .int 0, .int (-9), .int 0, .ref h10, .ref h11, .ref h12, .ref h13, .int 0, .int 0, .int 0, .ref h14, .int 0, .int 0, .int 0, .int (-9), .int 0, .ref h15, .int 0, .int 0, .int 0, .ref h16, .ref h17, .ref h18, .int 0, .int 0])), (h1, .inl (cI, 7, .inl (fun _ => 0)))] s.heap := hP
  have hl := lv_entry ([.ref h0, .int 11]) (n := 2) (Nat.le_of_ble_eq_true rfl)
  rw [lg_entry_eq]
  generalize (lg_sl ([.ref h0, .int 11]) ++ List.replicate (2 - (lg_sl ([.ref h0, .int 11])).length) Slot.unset).toArray = ls at hl ⊢
  have hl : lv_has ls 2 [(0, .ref h0), (1, .int 11)] := hl
  refine lv_iload_n hx hb dX12_count_0 rfl (lv_at hl 1 rfl) ?_
  refine lv_bipush (v := 11) hx hb dX12_count_1 (by decide) ?_
  refine lv_bipush (v := 16) hx hb dX12_count_3 (by decide) ?_
  refine z_calli (wc := []) (wr := [(h0, .inr (12, [.ref h1, .ref h2, .ref h3, .ref h4, .ref h5, .ref h6, .ref h7, .ref h8, .ref h9, .int 0, .int 0, .int 10, .int 0, .int 0, .int (-9), .int 0, .ref h10, .ref h11, .ref h12, .ref h13, .int 0, .int 0, .int 0, .ref h14, .int 0, .int 0, .int 0, .int (-9), .int 0, .ref h15, .int 0, .int 0, .int 0, .ref h16, .ref h17, .ref h18, .int 0, .int 0])), (h1, .inl (cI, 7, .inl (fun _ => 0)))]) (w1 := (fun _ => [])) (va_runS (As := [.int 11, .int 11, .int 16]) (rest := []) ⟨hx, hb, hml, hown, hts⟩ (kX12_isIn_16 l dC dI cI cQ s.heap.size) (va_cwS 3 hts gv_X12_count_X12_isIn_100 rfl rfl rfl (by decide +kernel) ⟨Nat.le_of_ble_eq_true rfl, Nat.le_of_ble_eq_true rfl⟩) ⟨z_blind, z_pre hZ hP hD [] rfl (by decide)⟩ rfl rfl hl.1 rfl (lv_room (Nat.le_of_ble_eq_true rfl)) dX12_count_5 ⟨Nat.le_of_ble_eq_true rfl, Nat.le_of_ble_eq_true rfl⟩) hP hD hS hA [] [0, 1] rfl rfl (by decide) (by decide) (fun _ H locs hP hD hS => ?_)
  have hP : va_P (dC, dI) vwCl [(h0, .inr (12, [.ref h1, .ref h2, .ref h3, .ref h4, .ref h5, .ref h6, .ref h7, .ref h8, .ref h9, .int 0, .int 0, .int 10, .int 0, .int 0, .int (-9), .int 0, .ref h10, .ref h11, .ref h12, .ref h13, .int 0, .int 0, .int 0, .ref h14, .int 0, .int 0, .int 0, .int (-9), .int 0, .ref h15, .int 0, .int 0, .int 0, .ref h16, .ref h17, .ref h18, .int 0, .int 0])), (h1, .inl (cI, 7, .inl (fun _ => 0)))] H := hP
  have hD : va_D A [(h0, .inr (12, [.ref h1, .ref h2, .ref h3, .ref h4, .ref h5, .ref h6, .ref h7, .ref h8, .ref h9, .int 0, .int 0, .int 10, .int 0, .int 0, .int (-9), .int 0, .ref h10, .ref h11, .ref h12, .ref h13, .int 0, .int 0, .int 0, .ref h14, .int 0, .int 0, .int 0, .int (-9), .int 0, .ref h15, .int 0, .int 0, .int 0, .ref h16, .ref h17, .ref h18, .int 0, .int 0])), (h1, .inl (cI, 7, .inl (fun _ => 0)))] := hD
  refine lv_if_eq (tgt := 21) hx hb dX12_count_8 (by decide) (fun hc => ?_) (fun hc => ?_)
  · exact absurd hc (by decide)
  refine lv_aload_n hx hb dX12_count_11 rfl (lv_at hl 0 rfl) ?_
  refine va_get (D := (dC, dI)) (ci := 12) (v := .ref h1) (C := RX12) (T := TX12) (N := 38) hx hb hts in_X12_count_X12 hown hK hP 0 rfl rfl 0 (by decide) (hts (.fieldLink RX12 7 "EachOnHisCueModel" "refused" "[I") (by decide +kernel)) (fun _ h9 => h9) rfl dX12_count_12 ?_
  refine lv_iload_n hx hb dX12_count_15 rfl (lv_at hl 1 rfl) ?_
  refine lv_bipush (v := 10) hx hb dX12_count_16 (by decide) ?_
  refine lv_isub hx hb dX12_count_18 ?_
  refine lv_topi (fun y2 ey2 => ?_)
  obtain rfl : y2 = 1 := ey2.trans (by decide)
  refine va_iald hx hb hK hP 1 0 rfl rfl (by unfold vp_in; decide) dX12_count_19 ?_
  refine lv_topi (fun y3 ey3 => ?_)
  obtain rfl : y3 = 0 := ey3.trans (by first | rfl | decide)
  have hP9 := hP.sub (ws' := []) [] rfl
  have hD9 := hD.sub (ws' := []) [] (by decide) rfl
  exact W.iret (v := 0) hx hb hr (fun t ht hW => ⟨⟨0, (fun k => [].getD k 0), rfl, rfl, by rw [ht]; exact hP9, hD9⟩, hS.F ht⟩) hS.2.2 dX12_count_20
set_option maxHeartbeats 4000000 in
set_option maxRecDepth 100000 in
theorem kX12_isIn_17 (l : Launch) (dC : Nat → ClassId) (dI : Nat → Nat → Nat) (cI cQ : ClassId) (sz : Nat) : Met l yX12_isIn vsX12_isIn ({ frames := 0, cells := 0, slots := 0, locals := 0 }) (va_Pc [.int 12, .int 11, .int 16] (zB dC dI cI cQ [] sz)) (zQi dC dI (va_A [] sz) (fun ad => []) 1) 0 0 (va_A [] sz) := by
  refine Met.ofW (cc := cX12_isIn) (maxL := 3) (ret := (some .boolean)) (by decide) rfl ?_
  intro p e s m args below meth c s₁ B hml hv
  obtain ⟨rfl, hsz, hP, hZ, hD0⟩ := hv
  obtain ⟨hK, hAO, hN⟩ := id hZ
  have hx := B.exec
  have hb := B.bytes
  have hr := B.returns
  have hts := atoms_spec (ws := vsX12_isIn) B.pre
  have hown : s.vm.findClass RX12 = some m.cls := findClass_of_methodNamed B.named
  have hlocks := B.notSynchronized
  subst hsz
  have hD := hD0.self (sz := s.heap.size)
  generalize hAe : va_A [] s.heap.size = A at hD ⊢
  have hA : ∀ q : Nat, s.heap.size ≤ q → A q := fun q h => by rw [← hAe]; exact Or.inr h
  have hS : va_S A s.heap s.heap [] := va_S.rf
  have hP : va_P (dC, dI) vwCl [] s.heap := hP
  have hl := lv_entry ([.int 12, .int 11, .int 16]) (n := 3) (Nat.le_of_ble_eq_true rfl)
  rw [lg_entry_eq]
  generalize (lg_sl ([.int 12, .int 11, .int 16]) ++ List.replicate (3 - (lg_sl ([.int 12, .int 11, .int 16])).length) Slot.unset).toArray = ls at hl ⊢
  have hl : lv_has ls 3 [(0, .int 12), (1, .int 11), (2, .int 16)] := hl
  refine lv_iload_n hx hb dX12_isIn_0 rfl (lv_at hl 0 rfl) ?_
  refine lv_iload_n hx hb dX12_isIn_1 rfl (lv_at hl 1 rfl) ?_
  refine lv_icmp_lt (tgt := 14) hx hb dX12_isIn_2 (by decide) (fun hc => ?_) (fun hc => ?_)
  · exact absurd hc (by decide)
  refine lv_iload_n hx hb dX12_isIn_5 rfl (lv_at hl 0 rfl) ?_
  refine lv_iload_n hx hb dX12_isIn_6 rfl (lv_at hl 2 rfl) ?_
  refine lv_icmp_gt (tgt := 14) hx hb dX12_isIn_7 (by decide) (fun hc => ?_) (fun hc => ?_)
  · exact absurd hc (by decide)
  refine lv_iconst (v := 1) hx hb dX12_isIn_10 (by decide) ?_
  refine lv_goto (tgt := 15) hx hb dX12_isIn_11 (by decide) ?_
  have hP9 := hP.sub (ws' := []) [] rfl
  have hD9 := hD.sub (ws' := []) [] (by decide) rfl
  exact W.zret (v := 1) hx hb hr rfl (fun t ht hW => ⟨⟨1, (fun k => [].getD k 0), rfl, rfl, by rw [ht]; exact hP9, hD9⟩, hS.F ht⟩) hS.2.2 dX12_isIn_15
set_option maxHeartbeats 4000000 in
set_option maxRecDepth 100000 in
theorem kX12_count_11 (l : Launch) (dC : Nat → ClassId) (dI : Nat → Nat → Nat) (cI cQ : ClassId) (h0 h1 h2 h3 h4 h5 h6 h7 h8 h9 h10 h11 h12 h13 h14 h15 h16 h17 h18 : Nat) (sz : Nat) : Met l yX12_count vsX12_count ({ frames := 1, cells := 0, slots := 0, locals := 22 }) (va_Pc [.ref h0, .int 12] (zB dC dI cI cQ [(h0, .inr (12, [.ref h1, .ref h2, .ref h3, .ref h4, .ref h5, .ref h6, .ref h7, .ref h8, .ref h9, .int 0, .int 0, .int 10, .int 0, .int 0, .int (-9), .int 0, .ref h10, .ref h11, .ref h12, .ref h13, .int 0, .int 0, .int 0, .ref h14, .int 0, .int 0, .int 0, .int (-9), .int 0, .ref h15, .int 0, .int 0, .int 0, .ref h16, .ref h17, .ref h18, .int 0, .int 0])), (h1, .inl (cI, 7, .inl (fun _ => 0)))] sz)) (zQi dC dI (va_A [(h0, .inr (12, [.ref h1, .ref h2, .ref h3, .ref h4, .ref h5, .ref h6, .ref h7, .ref h8, .ref h9, .int 0, .int 0, .int 10, .int 0, .int 0, .int (-9), .int 0, .ref h10, .ref h11, .ref h12, .ref h13, .int 0, .int 0, .int 0, .ref h14, .int 0, .int 0, .int 0, .int (-9), .int 0, .ref h15, .int 0, .int 0, .int 0, .ref h16, .ref h17, .ref h18, .int 0, .int 0])), (h1, .inl (cI, 7, .inl (fun _ => 0)))] sz) (fun ad => []) 0) 0 0 (va_A [(h0, .inr (12, [.ref h1, .ref h2, .ref h3, .ref h4, .ref h5, .ref h6, .ref h7, .ref h8, .ref h9, .int 0, .int 0, .int 10, .int 0, .int 0, .int (-9), .int 0, .ref h10, .ref h11, .ref h12, .ref h13, .int 0, .int 0, .int 0, .ref h14, .int 0, .int 0, .int 0, .int (-9), .int 0, .ref h15, .int 0, .int 0, .int 0, .ref h16, .ref h17, .ref h18, .int 0, .int 0])), (h1, .inl (cI, 7, .inl (fun _ => 0)))] sz) := by
  refine Met.ofW (cc := cX12_count) (maxL := 2) (ret := (some .int)) (by decide) rfl ?_
  intro p e s m args below meth c s₁ B hml hv
  obtain ⟨rfl, hsz, hP, hZ, hD0⟩ := hv
  obtain ⟨hK, hAO, hN⟩ := id hZ
  have hx := B.exec
  have hb := B.bytes
  have hr := B.returns
  have hts := atoms_spec (ws := vsX12_count) B.pre
  have hown : s.vm.findClass RX12 = some m.cls := findClass_of_methodNamed B.named
  have hlocks := B.notSynchronized
  subst hsz
  have hD := hD0.self (sz := s.heap.size)
  generalize hAe : va_A [(h0, .inr (12, [.ref h1, .ref h2, .ref h3, .ref h4, .ref h5, .ref h6, .ref h7, .ref h8, .ref h9, .int 0, .int 0, .int 10, .int 0, .int 0, .int (-9), .int 0, .ref h10, .ref h11, .ref h12, .ref h13, .int 0, .int 0, .int 0, .ref h14, .int 0, .int 0, .int 0, .int (-9), .int 0, .ref h15, .int 0, .int 0, .int 0, .ref h16, .ref h17, .ref h18, .int 0, .int 0])), (h1, .inl (cI, 7, .inl (fun _ => 0)))] s.heap.size = A at hD ⊢
  have hA : ∀ q : Nat, s.heap.size ≤ q → A q := fun q h => by rw [← hAe]; exact Or.inr h
  have hS : va_S A s.heap s.heap [] := va_S.rf
  have hP : va_P (dC, dI) vwCl [(h0, .inr (12, [.ref h1, .ref h2, .ref h3, .ref h4, .ref h5, .ref h6, .ref h7, .ref h8, .ref h9, .int 0, .int 0, .int 10, .int 0, .int 0, .int (-9), .int 0, .ref h10, .ref h11, .ref h12, .ref h13, .int 0, .int 0, .int 0, .ref h14, .int 0, .int 0, .int 0, .int (-9), .int 0, .ref h15, .int 0, .int 0, .int 0, .ref h16, .ref h17, .ref h18, .int 0, .int 0])), (h1, .inl (cI, 7, .inl (fun _ => 0)))] s.heap := hP
  have hl := lv_entry ([.ref h0, .int 12]) (n := 2) (Nat.le_of_ble_eq_true rfl)
  rw [lg_entry_eq]
  generalize (lg_sl ([.ref h0, .int 12]) ++ List.replicate (2 - (lg_sl ([.ref h0, .int 12])).length) Slot.unset).toArray = ls at hl ⊢
  have hl : lv_has ls 2 [(0, .ref h0), (1, .int 12)] := hl
  refine lv_iload_n hx hb dX12_count_0 rfl (lv_at hl 1 rfl) ?_
  refine lv_bipush (v := 11) hx hb dX12_count_1 (by decide) ?_
  refine lv_bipush (v := 16) hx hb dX12_count_3 (by decide) ?_
  refine z_calli (wc := []) (wr := [(h0, .inr (12, [.ref h1, .ref h2, .ref h3, .ref h4, .ref h5, .ref h6, .ref h7, .ref h8, .ref h9, .int 0, .int 0, .int 10, .int 0, .int 0, .int (-9), .int 0, .ref h10, .ref h11, .ref h12, .ref h13, .int 0, .int 0, .int 0, .ref h14, .int 0, .int 0, .int 0, .int (-9), .int 0, .ref h15, .int 0, .int 0, .int 0, .ref h16, .ref h17, .ref h18, .int 0, .int 0])), (h1, .inl (cI, 7, .inl (fun _ => 0)))]) (w1 := (fun _ => [])) (va_runS (As := [.int 12, .int 11, .int 16]) (rest := []) ⟨hx, hb, hml, hown, hts⟩ (kX12_isIn_17 l dC dI cI cQ s.heap.size) (va_cwS 3 hts gv_X12_count_X12_isIn_100 rfl rfl rfl (by decide +kernel) ⟨Nat.le_of_ble_eq_true rfl, Nat.le_of_ble_eq_true rfl⟩) ⟨z_blind, z_pre hZ hP hD [] rfl (by decide)⟩ rfl rfl hl.1 rfl (lv_room (Nat.le_of_ble_eq_true rfl)) dX12_count_5 ⟨Nat.le_of_ble_eq_true rfl, Nat.le_of_ble_eq_true rfl⟩) hP hD hS hA [] [0, 1] rfl rfl (by decide) (by decide) (fun _ H locs hP hD hS => ?_)
  have hP : va_P (dC, dI) vwCl [(h0, .inr (12, [.ref h1, .ref h2, .ref h3, .ref h4, .ref h5, .ref h6, .ref h7, .ref h8, .ref h9, .int 0, .int 0, .int 10, .int 0, .int 0, .int (-9), .int 0, .ref h10, .ref h11, .ref h12, .ref h13, .int 0, .int 0, .int 0, .ref h14, .int 0, .int 0, .int 0, .int (-9), .int 0, .ref h15, .int 0, .int 0, .int 0, .ref h16, .ref h17, .ref h18, .int 0, .int 0])), (h1, .inl (cI, 7, .inl (fun _ => 0)))] H := hP
  have hD : va_D A [(h0, .inr (12, [.ref h1, .ref h2, .ref h3, .ref h4, .ref h5, .ref h6, .ref h7, .ref h8, .ref h9, .int 0, .int 0, .int 10, .int 0, .int 0, .int (-9), .int 0, .ref h10, .ref h11, .ref h12, .ref h13, .int 0, .int 0, .int 0, .ref h14, .int 0, .int 0, .int 0, .int (-9), .int 0, .ref h15, .int 0, .int 0, .int 0, .ref h16, .ref h17, .ref h18, .int 0, .int 0])), (h1, .inl (cI, 7, .inl (fun _ => 0)))] := hD
  refine lv_if_eq (tgt := 21) hx hb dX12_count_8 (by decide) (fun hc => ?_) (fun hc => ?_)
  · exact absurd hc (by decide)
  refine lv_aload_n hx hb dX12_count_11 rfl (lv_at hl 0 rfl) ?_
  refine va_get (D := (dC, dI)) (ci := 12) (v := .ref h1) (C := RX12) (T := TX12) (N := 38) hx hb hts in_X12_count_X12 hown hK hP 0 rfl rfl 0 (by decide) (hts (.fieldLink RX12 7 "EachOnHisCueModel" "refused" "[I") (by decide +kernel)) (fun _ h9 => h9) rfl dX12_count_12 ?_
  refine lv_iload_n hx hb dX12_count_15 rfl (lv_at hl 1 rfl) ?_
  refine lv_bipush (v := 10) hx hb dX12_count_16 (by decide) ?_
  refine lv_isub hx hb dX12_count_18 ?_
  refine lv_topi (fun y2 ey2 => ?_)
  obtain rfl : y2 = 2 := ey2.trans (by decide)
  refine va_iald hx hb hK hP 1 0 rfl rfl (by unfold vp_in; decide) dX12_count_19 ?_
  refine lv_topi (fun y3 ey3 => ?_)
  obtain rfl : y3 = 0 := ey3.trans (by first | rfl | decide)
  have hP9 := hP.sub (ws' := []) [] rfl
  have hD9 := hD.sub (ws' := []) [] (by decide) rfl
  exact W.iret (v := 0) hx hb hr (fun t ht hW => ⟨⟨0, (fun k => [].getD k 0), rfl, rfl, by rw [ht]; exact hP9, hD9⟩, hS.F ht⟩) hS.2.2 dX12_count_20
set_option maxHeartbeats 4000000 in
set_option maxRecDepth 100000 in
theorem kX12_isIn_18 (l : Launch) (dC : Nat → ClassId) (dI : Nat → Nat → Nat) (cI cQ : ClassId) (sz : Nat) : Met l yX12_isIn vsX12_isIn ({ frames := 0, cells := 0, slots := 0, locals := 0 }) (va_Pc [.int 13, .int 11, .int 16] (zB dC dI cI cQ [] sz)) (zQi dC dI (va_A [] sz) (fun ad => []) 1) 0 0 (va_A [] sz) := by
  refine Met.ofW (cc := cX12_isIn) (maxL := 3) (ret := (some .boolean)) (by decide) rfl ?_
  intro p e s m args below meth c s₁ B hml hv
  obtain ⟨rfl, hsz, hP, hZ, hD0⟩ := hv
  obtain ⟨hK, hAO, hN⟩ := id hZ
  have hx := B.exec
  have hb := B.bytes
  have hr := B.returns
  have hts := atoms_spec (ws := vsX12_isIn) B.pre
  have hown : s.vm.findClass RX12 = some m.cls := findClass_of_methodNamed B.named
  have hlocks := B.notSynchronized
  subst hsz
  have hD := hD0.self (sz := s.heap.size)
  generalize hAe : va_A [] s.heap.size = A at hD ⊢
  have hA : ∀ q : Nat, s.heap.size ≤ q → A q := fun q h => by rw [← hAe]; exact Or.inr h
  have hS : va_S A s.heap s.heap [] := va_S.rf
  have hP : va_P (dC, dI) vwCl [] s.heap := hP
  have hl := lv_entry ([.int 13, .int 11, .int 16]) (n := 3) (Nat.le_of_ble_eq_true rfl)
  rw [lg_entry_eq]
  generalize (lg_sl ([.int 13, .int 11, .int 16]) ++ List.replicate (3 - (lg_sl ([.int 13, .int 11, .int 16])).length) Slot.unset).toArray = ls at hl ⊢
  have hl : lv_has ls 3 [(0, .int 13), (1, .int 11), (2, .int 16)] := hl
  refine lv_iload_n hx hb dX12_isIn_0 rfl (lv_at hl 0 rfl) ?_
  refine lv_iload_n hx hb dX12_isIn_1 rfl (lv_at hl 1 rfl) ?_
  refine lv_icmp_lt (tgt := 14) hx hb dX12_isIn_2 (by decide) (fun hc => ?_) (fun hc => ?_)
  · exact absurd hc (by decide)
  refine lv_iload_n hx hb dX12_isIn_5 rfl (lv_at hl 0 rfl) ?_
  refine lv_iload_n hx hb dX12_isIn_6 rfl (lv_at hl 2 rfl) ?_
  refine lv_icmp_gt (tgt := 14) hx hb dX12_isIn_7 (by decide) (fun hc => ?_) (fun hc => ?_)
  · exact absurd hc (by decide)
  refine lv_iconst (v := 1) hx hb dX12_isIn_10 (by decide) ?_
  refine lv_goto (tgt := 15) hx hb dX12_isIn_11 (by decide) ?_
  have hP9 := hP.sub (ws' := []) [] rfl
  have hD9 := hD.sub (ws' := []) [] (by decide) rfl
  exact W.zret (v := 1) hx hb hr rfl (fun t ht hW => ⟨⟨1, (fun k => [].getD k 0), rfl, rfl, by rw [ht]; exact hP9, hD9⟩, hS.F ht⟩) hS.2.2 dX12_isIn_15
set_option maxHeartbeats 4000000 in
set_option maxRecDepth 100000 in
theorem kX12_count_12 (l : Launch) (dC : Nat → ClassId) (dI : Nat → Nat → Nat) (cI cQ : ClassId) (h0 h1 h2 h3 h4 h5 h6 h7 h8 h9 h10 h11 h12 h13 h14 h15 h16 h17 h18 : Nat) (sz : Nat) : Met l yX12_count vsX12_count ({ frames := 1, cells := 0, slots := 0, locals := 22 }) (va_Pc [.ref h0, .int 13] (zB dC dI cI cQ [(h0, .inr (12, [.ref h1, .ref h2, .ref h3, .ref h4, .ref h5, .ref h6, .ref h7, .ref h8, .ref h9, .int 0, .int 0, .int 10, .int 0, .int 0, .int (-9), .int 0, .ref h10, .ref h11, .ref h12, .ref h13, .int 0, .int 0, .int 0, .ref h14, .int 0, .int 0, .int 0, .int (-9), .int 0, .ref h15, .int 0, .int 0, .int 0, .ref h16, .ref h17, .ref h18, .int 0, .int 0])), (h1, .inl (cI, 7, .inl (fun _ => 0)))] sz)) (zQi dC dI (va_A [(h0, .inr (12, [.ref h1, .ref h2, .ref h3, .ref h4, .ref h5, .ref h6, .ref h7, .ref h8, .ref h9, .int 0, .int 0, .int 10, .int 0, .int 0, .int (-9), .int 0, .ref h10, .ref h11, .ref h12, .ref h13, .int 0, .int 0, .int 0, .ref h14, .int 0, .int 0, .int 0, .int (-9), .int 0, .ref h15, .int 0, .int 0, .int 0, .ref h16, .ref h17, .ref h18, .int 0, .int 0])), (h1, .inl (cI, 7, .inl (fun _ => 0)))] sz) (fun ad => []) 0) 0 0 (va_A [(h0, .inr (12, [.ref h1, .ref h2, .ref h3, .ref h4, .ref h5, .ref h6, .ref h7, .ref h8, .ref h9, .int 0, .int 0, .int 10, .int 0, .int 0, .int (-9), .int 0, .ref h10, .ref h11, .ref h12, .ref h13, .int 0, .int 0, .int 0, .ref h14, .int 0, .int 0, .int 0, .int (-9), .int 0, .ref h15, .int 0, .int 0, .int 0, .ref h16, .ref h17, .ref h18, .int 0, .int 0])), (h1, .inl (cI, 7, .inl (fun _ => 0)))] sz) := by
  refine Met.ofW (cc := cX12_count) (maxL := 2) (ret := (some .int)) (by decide) rfl ?_
  intro p e s m args below meth c s₁ B hml hv
  obtain ⟨rfl, hsz, hP, hZ, hD0⟩ := hv
  obtain ⟨hK, hAO, hN⟩ := id hZ
  have hx := B.exec
  have hb := B.bytes
  have hr := B.returns
  have hts := atoms_spec (ws := vsX12_count) B.pre
  have hown : s.vm.findClass RX12 = some m.cls := findClass_of_methodNamed B.named
  have hlocks := B.notSynchronized
  subst hsz
  have hD := hD0.self (sz := s.heap.size)
  generalize hAe : va_A [(h0, .inr (12, [.ref h1, .ref h2, .ref h3, .ref h4, .ref h5, .ref h6, .ref h7, .ref h8, .ref h9, .int 0, .int 0, .int 10, .int 0, .int 0, .int (-9), .int 0, .ref h10, .ref h11, .ref h12, .ref h13, .int 0, .int 0, .int 0, .ref h14, .int 0, .int 0, .int 0, .int (-9), .int 0, .ref h15, .int 0, .int 0, .int 0, .ref h16, .ref h17, .ref h18, .int 0, .int 0])), (h1, .inl (cI, 7, .inl (fun _ => 0)))] s.heap.size = A at hD ⊢
  have hA : ∀ q : Nat, s.heap.size ≤ q → A q := fun q h => by rw [← hAe]; exact Or.inr h
  have hS : va_S A s.heap s.heap [] := va_S.rf
  have hP : va_P (dC, dI) vwCl [(h0, .inr (12, [.ref h1, .ref h2, .ref h3, .ref h4, .ref h5, .ref h6, .ref h7, .ref h8, .ref h9, .int 0, .int 0, .int 10, .int 0, .int 0, .int (-9), .int 0, .ref h10, .ref h11, .ref h12, .ref h13, .int 0, .int 0, .int 0, .ref h14, .int 0, .int 0, .int 0, .int (-9), .int 0, .ref h15, .int 0, .int 0, .int 0, .ref h16, .ref h17, .ref h18, .int 0, .int 0])), (h1, .inl (cI, 7, .inl (fun _ => 0)))] s.heap := hP
  have hl := lv_entry ([.ref h0, .int 13]) (n := 2) (Nat.le_of_ble_eq_true rfl)
  rw [lg_entry_eq]
  generalize (lg_sl ([.ref h0, .int 13]) ++ List.replicate (2 - (lg_sl ([.ref h0, .int 13])).length) Slot.unset).toArray = ls at hl ⊢
  have hl : lv_has ls 2 [(0, .ref h0), (1, .int 13)] := hl
  refine lv_iload_n hx hb dX12_count_0 rfl (lv_at hl 1 rfl) ?_
  refine lv_bipush (v := 11) hx hb dX12_count_1 (by decide) ?_
  refine lv_bipush (v := 16) hx hb dX12_count_3 (by decide) ?_
  refine z_calli (wc := []) (wr := [(h0, .inr (12, [.ref h1, .ref h2, .ref h3, .ref h4, .ref h5, .ref h6, .ref h7, .ref h8, .ref h9, .int 0, .int 0, .int 10, .int 0, .int 0, .int (-9), .int 0, .ref h10, .ref h11, .ref h12, .ref h13, .int 0, .int 0, .int 0, .ref h14, .int 0, .int 0, .int 0, .int (-9), .int 0, .ref h15, .int 0, .int 0, .int 0, .ref h16, .ref h17, .ref h18, .int 0, .int 0])), (h1, .inl (cI, 7, .inl (fun _ => 0)))]) (w1 := (fun _ => [])) (va_runS (As := [.int 13, .int 11, .int 16]) (rest := []) ⟨hx, hb, hml, hown, hts⟩ (kX12_isIn_18 l dC dI cI cQ s.heap.size) (va_cwS 3 hts gv_X12_count_X12_isIn_100 rfl rfl rfl (by decide +kernel) ⟨Nat.le_of_ble_eq_true rfl, Nat.le_of_ble_eq_true rfl⟩) ⟨z_blind, z_pre hZ hP hD [] rfl (by decide)⟩ rfl rfl hl.1 rfl (lv_room (Nat.le_of_ble_eq_true rfl)) dX12_count_5 ⟨Nat.le_of_ble_eq_true rfl, Nat.le_of_ble_eq_true rfl⟩) hP hD hS hA [] [0, 1] rfl rfl (by decide) (by decide) (fun _ H locs hP hD hS => ?_)
  have hP : va_P (dC, dI) vwCl [(h0, .inr (12, [.ref h1, .ref h2, .ref h3, .ref h4, .ref h5, .ref h6, .ref h7, .ref h8, .ref h9, .int 0, .int 0, .int 10, .int 0, .int 0, .int (-9), .int 0, .ref h10, .ref h11, .ref h12, .ref h13, .int 0, .int 0, .int 0, .ref h14, .int 0, .int 0, .int 0, .int (-9), .int 0, .ref h15, .int 0, .int 0, .int 0, .ref h16, .ref h17, .ref h18, .int 0, .int 0])), (h1, .inl (cI, 7, .inl (fun _ => 0)))] H := hP
  have hD : va_D A [(h0, .inr (12, [.ref h1, .ref h2, .ref h3, .ref h4, .ref h5, .ref h6, .ref h7, .ref h8, .ref h9, .int 0, .int 0, .int 10, .int 0, .int 0, .int (-9), .int 0, .ref h10, .ref h11, .ref h12, .ref h13, .int 0, .int 0, .int 0, .ref h14, .int 0, .int 0, .int 0, .int (-9), .int 0, .ref h15, .int 0, .int 0, .int 0, .ref h16, .ref h17, .ref h18, .int 0, .int 0])), (h1, .inl (cI, 7, .inl (fun _ => 0)))] := hD
  refine lv_if_eq (tgt := 21) hx hb dX12_count_8 (by decide) (fun hc => ?_) (fun hc => ?_)
  · exact absurd hc (by decide)
  refine lv_aload_n hx hb dX12_count_11 rfl (lv_at hl 0 rfl) ?_
  refine va_get (D := (dC, dI)) (ci := 12) (v := .ref h1) (C := RX12) (T := TX12) (N := 38) hx hb hts in_X12_count_X12 hown hK hP 0 rfl rfl 0 (by decide) (hts (.fieldLink RX12 7 "EachOnHisCueModel" "refused" "[I") (by decide +kernel)) (fun _ h9 => h9) rfl dX12_count_12 ?_
  refine lv_iload_n hx hb dX12_count_15 rfl (lv_at hl 1 rfl) ?_
  refine lv_bipush (v := 10) hx hb dX12_count_16 (by decide) ?_
  refine lv_isub hx hb dX12_count_18 ?_
  refine lv_topi (fun y2 ey2 => ?_)
  obtain rfl : y2 = 3 := ey2.trans (by decide)
  refine va_iald hx hb hK hP 1 0 rfl rfl (by unfold vp_in; decide) dX12_count_19 ?_
  refine lv_topi (fun y3 ey3 => ?_)
  obtain rfl : y3 = 0 := ey3.trans (by first | rfl | decide)
  have hP9 := hP.sub (ws' := []) [] rfl
  have hD9 := hD.sub (ws' := []) [] (by decide) rfl
  exact W.iret (v := 0) hx hb hr (fun t ht hW => ⟨⟨0, (fun k => [].getD k 0), rfl, rfl, by rw [ht]; exact hP9, hD9⟩, hS.F ht⟩) hS.2.2 dX12_count_20
set_option maxHeartbeats 4000000 in
set_option maxRecDepth 100000 in
theorem kX12_isIn_19 (l : Launch) (dC : Nat → ClassId) (dI : Nat → Nat → Nat) (cI cQ : ClassId) (sz : Nat) : Met l yX12_isIn vsX12_isIn ({ frames := 0, cells := 0, slots := 0, locals := 0 }) (va_Pc [.int 14, .int 11, .int 16] (zB dC dI cI cQ [] sz)) (zQi dC dI (va_A [] sz) (fun ad => []) 1) 0 0 (va_A [] sz) := by
  refine Met.ofW (cc := cX12_isIn) (maxL := 3) (ret := (some .boolean)) (by decide) rfl ?_
  intro p e s m args below meth c s₁ B hml hv
  obtain ⟨rfl, hsz, hP, hZ, hD0⟩ := hv
  obtain ⟨hK, hAO, hN⟩ := id hZ
  have hx := B.exec
  have hb := B.bytes
  have hr := B.returns
  have hts := atoms_spec (ws := vsX12_isIn) B.pre
  have hown : s.vm.findClass RX12 = some m.cls := findClass_of_methodNamed B.named
  have hlocks := B.notSynchronized
  subst hsz
  have hD := hD0.self (sz := s.heap.size)
  generalize hAe : va_A [] s.heap.size = A at hD ⊢
  have hA : ∀ q : Nat, s.heap.size ≤ q → A q := fun q h => by rw [← hAe]; exact Or.inr h
  have hS : va_S A s.heap s.heap [] := va_S.rf
  have hP : va_P (dC, dI) vwCl [] s.heap := hP
  have hl := lv_entry ([.int 14, .int 11, .int 16]) (n := 3) (Nat.le_of_ble_eq_true rfl)
  rw [lg_entry_eq]
  generalize (lg_sl ([.int 14, .int 11, .int 16]) ++ List.replicate (3 - (lg_sl ([.int 14, .int 11, .int 16])).length) Slot.unset).toArray = ls at hl ⊢
  have hl : lv_has ls 3 [(0, .int 14), (1, .int 11), (2, .int 16)] := hl
  refine lv_iload_n hx hb dX12_isIn_0 rfl (lv_at hl 0 rfl) ?_
  refine lv_iload_n hx hb dX12_isIn_1 rfl (lv_at hl 1 rfl) ?_
  refine lv_icmp_lt (tgt := 14) hx hb dX12_isIn_2 (by decide) (fun hc => ?_) (fun hc => ?_)
  · exact absurd hc (by decide)
  refine lv_iload_n hx hb dX12_isIn_5 rfl (lv_at hl 0 rfl) ?_
  refine lv_iload_n hx hb dX12_isIn_6 rfl (lv_at hl 2 rfl) ?_
  refine lv_icmp_gt (tgt := 14) hx hb dX12_isIn_7 (by decide) (fun hc => ?_) (fun hc => ?_)
  · exact absurd hc (by decide)
  refine lv_iconst (v := 1) hx hb dX12_isIn_10 (by decide) ?_
  refine lv_goto (tgt := 15) hx hb dX12_isIn_11 (by decide) ?_
  have hP9 := hP.sub (ws' := []) [] rfl
  have hD9 := hD.sub (ws' := []) [] (by decide) rfl
  exact W.zret (v := 1) hx hb hr rfl (fun t ht hW => ⟨⟨1, (fun k => [].getD k 0), rfl, rfl, by rw [ht]; exact hP9, hD9⟩, hS.F ht⟩) hS.2.2 dX12_isIn_15
set_option maxHeartbeats 4000000 in
set_option maxRecDepth 100000 in
theorem kX12_count_13 (l : Launch) (dC : Nat → ClassId) (dI : Nat → Nat → Nat) (cI cQ : ClassId) (h0 h1 h2 h3 h4 h5 h6 h7 h8 h9 h10 h11 h12 h13 h14 h15 h16 h17 h18 : Nat) (sz : Nat) : Met l yX12_count vsX12_count ({ frames := 1, cells := 0, slots := 0, locals := 22 }) (va_Pc [.ref h0, .int 14] (zB dC dI cI cQ [(h0, .inr (12, [.ref h1, .ref h2, .ref h3, .ref h4, .ref h5, .ref h6, .ref h7, .ref h8, .ref h9, .int 0, .int 0, .int 10, .int 0, .int 0, .int (-9), .int 0, .ref h10, .ref h11, .ref h12, .ref h13, .int 0, .int 0, .int 0, .ref h14, .int 0, .int 0, .int 0, .int (-9), .int 0, .ref h15, .int 0, .int 0, .int 0, .ref h16, .ref h17, .ref h18, .int 0, .int 0])), (h1, .inl (cI, 7, .inl (fun _ => 0)))] sz)) (zQi dC dI (va_A [(h0, .inr (12, [.ref h1, .ref h2, .ref h3, .ref h4, .ref h5, .ref h6, .ref h7, .ref h8, .ref h9, .int 0, .int 0, .int 10, .int 0, .int 0, .int (-9), .int 0, .ref h10, .ref h11, .ref h12, .ref h13, .int 0, .int 0, .int 0, .ref h14, .int 0, .int 0, .int 0, .int (-9), .int 0, .ref h15, .int 0, .int 0, .int 0, .ref h16, .ref h17, .ref h18, .int 0, .int 0])), (h1, .inl (cI, 7, .inl (fun _ => 0)))] sz) (fun ad => []) 0) 0 0 (va_A [(h0, .inr (12, [.ref h1, .ref h2, .ref h3, .ref h4, .ref h5, .ref h6, .ref h7, .ref h8, .ref h9, .int 0, .int 0, .int 10, .int 0, .int 0, .int (-9), .int 0, .ref h10, .ref h11, .ref h12, .ref h13, .int 0, .int 0, .int 0, .ref h14, .int 0, .int 0, .int 0, .int (-9), .int 0, .ref h15, .int 0, .int 0, .int 0, .ref h16, .ref h17, .ref h18, .int 0, .int 0])), (h1, .inl (cI, 7, .inl (fun _ => 0)))] sz) := by
  refine Met.ofW (cc := cX12_count) (maxL := 2) (ret := (some .int)) (by decide) rfl ?_
  intro p e s m args below meth c s₁ B hml hv
  obtain ⟨rfl, hsz, hP, hZ, hD0⟩ := hv
  obtain ⟨hK, hAO, hN⟩ := id hZ
  have hx := B.exec
  have hb := B.bytes
  have hr := B.returns
  have hts := atoms_spec (ws := vsX12_count) B.pre
  have hown : s.vm.findClass RX12 = some m.cls := findClass_of_methodNamed B.named
  have hlocks := B.notSynchronized
  subst hsz
  have hD := hD0.self (sz := s.heap.size)
  generalize hAe : va_A [(h0, .inr (12, [.ref h1, .ref h2, .ref h3, .ref h4, .ref h5, .ref h6, .ref h7, .ref h8, .ref h9, .int 0, .int 0, .int 10, .int 0, .int 0, .int (-9), .int 0, .ref h10, .ref h11, .ref h12, .ref h13, .int 0, .int 0, .int 0, .ref h14, .int 0, .int 0, .int 0, .int (-9), .int 0, .ref h15, .int 0, .int 0, .int 0, .ref h16, .ref h17, .ref h18, .int 0, .int 0])), (h1, .inl (cI, 7, .inl (fun _ => 0)))] s.heap.size = A at hD ⊢
  have hA : ∀ q : Nat, s.heap.size ≤ q → A q := fun q h => by rw [← hAe]; exact Or.inr h
  have hS : va_S A s.heap s.heap [] := va_S.rf
  have hP : va_P (dC, dI) vwCl [(h0, .inr (12, [.ref h1, .ref h2, .ref h3, .ref h4, .ref h5, .ref h6, .ref h7, .ref h8, .ref h9, .int 0, .int 0, .int 10, .int 0, .int 0, .int (-9), .int 0, .ref h10, .ref h11, .ref h12, .ref h13, .int 0, .int 0, .int 0, .ref h14, .int 0, .int 0, .int 0, .int (-9), .int 0, .ref h15, .int 0, .int 0, .int 0, .ref h16, .ref h17, .ref h18, .int 0, .int 0])), (h1, .inl (cI, 7, .inl (fun _ => 0)))] s.heap := hP
  have hl := lv_entry ([.ref h0, .int 14]) (n := 2) (Nat.le_of_ble_eq_true rfl)
  rw [lg_entry_eq]
  generalize (lg_sl ([.ref h0, .int 14]) ++ List.replicate (2 - (lg_sl ([.ref h0, .int 14])).length) Slot.unset).toArray = ls at hl ⊢
  have hl : lv_has ls 2 [(0, .ref h0), (1, .int 14)] := hl
  refine lv_iload_n hx hb dX12_count_0 rfl (lv_at hl 1 rfl) ?_
  refine lv_bipush (v := 11) hx hb dX12_count_1 (by decide) ?_
  refine lv_bipush (v := 16) hx hb dX12_count_3 (by decide) ?_
  refine z_calli (wc := []) (wr := [(h0, .inr (12, [.ref h1, .ref h2, .ref h3, .ref h4, .ref h5, .ref h6, .ref h7, .ref h8, .ref h9, .int 0, .int 0, .int 10, .int 0, .int 0, .int (-9), .int 0, .ref h10, .ref h11, .ref h12, .ref h13, .int 0, .int 0, .int 0, .ref h14, .int 0, .int 0, .int 0, .int (-9), .int 0, .ref h15, .int 0, .int 0, .int 0, .ref h16, .ref h17, .ref h18, .int 0, .int 0])), (h1, .inl (cI, 7, .inl (fun _ => 0)))]) (w1 := (fun _ => [])) (va_runS (As := [.int 14, .int 11, .int 16]) (rest := []) ⟨hx, hb, hml, hown, hts⟩ (kX12_isIn_19 l dC dI cI cQ s.heap.size) (va_cwS 3 hts gv_X12_count_X12_isIn_100 rfl rfl rfl (by decide +kernel) ⟨Nat.le_of_ble_eq_true rfl, Nat.le_of_ble_eq_true rfl⟩) ⟨z_blind, z_pre hZ hP hD [] rfl (by decide)⟩ rfl rfl hl.1 rfl (lv_room (Nat.le_of_ble_eq_true rfl)) dX12_count_5 ⟨Nat.le_of_ble_eq_true rfl, Nat.le_of_ble_eq_true rfl⟩) hP hD hS hA [] [0, 1] rfl rfl (by decide) (by decide) (fun _ H locs hP hD hS => ?_)
  have hP : va_P (dC, dI) vwCl [(h0, .inr (12, [.ref h1, .ref h2, .ref h3, .ref h4, .ref h5, .ref h6, .ref h7, .ref h8, .ref h9, .int 0, .int 0, .int 10, .int 0, .int 0, .int (-9), .int 0, .ref h10, .ref h11, .ref h12, .ref h13, .int 0, .int 0, .int 0, .ref h14, .int 0, .int 0, .int 0, .int (-9), .int 0, .ref h15, .int 0, .int 0, .int 0, .ref h16, .ref h17, .ref h18, .int 0, .int 0])), (h1, .inl (cI, 7, .inl (fun _ => 0)))] H := hP
  have hD : va_D A [(h0, .inr (12, [.ref h1, .ref h2, .ref h3, .ref h4, .ref h5, .ref h6, .ref h7, .ref h8, .ref h9, .int 0, .int 0, .int 10, .int 0, .int 0, .int (-9), .int 0, .ref h10, .ref h11, .ref h12, .ref h13, .int 0, .int 0, .int 0, .ref h14, .int 0, .int 0, .int 0, .int (-9), .int 0, .ref h15, .int 0, .int 0, .int 0, .ref h16, .ref h17, .ref h18, .int 0, .int 0])), (h1, .inl (cI, 7, .inl (fun _ => 0)))] := hD
  refine lv_if_eq (tgt := 21) hx hb dX12_count_8 (by decide) (fun hc => ?_) (fun hc => ?_)
  · exact absurd hc (by decide)
  refine lv_aload_n hx hb dX12_count_11 rfl (lv_at hl 0 rfl) ?_
  refine va_get (D := (dC, dI)) (ci := 12) (v := .ref h1) (C := RX12) (T := TX12) (N := 38) hx hb hts in_X12_count_X12 hown hK hP 0 rfl rfl 0 (by decide) (hts (.fieldLink RX12 7 "EachOnHisCueModel" "refused" "[I") (by decide +kernel)) (fun _ h9 => h9) rfl dX12_count_12 ?_
  refine lv_iload_n hx hb dX12_count_15 rfl (lv_at hl 1 rfl) ?_
  refine lv_bipush (v := 10) hx hb dX12_count_16 (by decide) ?_
  refine lv_isub hx hb dX12_count_18 ?_
  refine lv_topi (fun y2 ey2 => ?_)
  obtain rfl : y2 = 4 := ey2.trans (by decide)
  refine va_iald hx hb hK hP 1 0 rfl rfl (by unfold vp_in; decide) dX12_count_19 ?_
  refine lv_topi (fun y3 ey3 => ?_)
  obtain rfl : y3 = 0 := ey3.trans (by first | rfl | decide)
  have hP9 := hP.sub (ws' := []) [] rfl
  have hD9 := hD.sub (ws' := []) [] (by decide) rfl
  exact W.iret (v := 0) hx hb hr (fun t ht hW => ⟨⟨0, (fun k => [].getD k 0), rfl, rfl, by rw [ht]; exact hP9, hD9⟩, hS.F ht⟩) hS.2.2 dX12_count_20
set_option maxHeartbeats 4000000 in
set_option maxRecDepth 100000 in
theorem kX12_isIn_20 (l : Launch) (dC : Nat → ClassId) (dI : Nat → Nat → Nat) (cI cQ : ClassId) (sz : Nat) : Met l yX12_isIn vsX12_isIn ({ frames := 0, cells := 0, slots := 0, locals := 0 }) (va_Pc [.int 15, .int 11, .int 16] (zB dC dI cI cQ [] sz)) (zQi dC dI (va_A [] sz) (fun ad => []) 1) 0 0 (va_A [] sz) := by
  refine Met.ofW (cc := cX12_isIn) (maxL := 3) (ret := (some .boolean)) (by decide) rfl ?_
  intro p e s m args below meth c s₁ B hml hv
  obtain ⟨rfl, hsz, hP, hZ, hD0⟩ := hv
  obtain ⟨hK, hAO, hN⟩ := id hZ
  have hx := B.exec
  have hb := B.bytes
  have hr := B.returns
  have hts := atoms_spec (ws := vsX12_isIn) B.pre
  have hown : s.vm.findClass RX12 = some m.cls := findClass_of_methodNamed B.named
  have hlocks := B.notSynchronized
  subst hsz
  have hD := hD0.self (sz := s.heap.size)
  generalize hAe : va_A [] s.heap.size = A at hD ⊢
  have hA : ∀ q : Nat, s.heap.size ≤ q → A q := fun q h => by rw [← hAe]; exact Or.inr h
  have hS : va_S A s.heap s.heap [] := va_S.rf
  have hP : va_P (dC, dI) vwCl [] s.heap := hP
  have hl := lv_entry ([.int 15, .int 11, .int 16]) (n := 3) (Nat.le_of_ble_eq_true rfl)
  rw [lg_entry_eq]
  generalize (lg_sl ([.int 15, .int 11, .int 16]) ++ List.replicate (3 - (lg_sl ([.int 15, .int 11, .int 16])).length) Slot.unset).toArray = ls at hl ⊢
  have hl : lv_has ls 3 [(0, .int 15), (1, .int 11), (2, .int 16)] := hl
  refine lv_iload_n hx hb dX12_isIn_0 rfl (lv_at hl 0 rfl) ?_
  refine lv_iload_n hx hb dX12_isIn_1 rfl (lv_at hl 1 rfl) ?_
  refine lv_icmp_lt (tgt := 14) hx hb dX12_isIn_2 (by decide) (fun hc => ?_) (fun hc => ?_)
  · exact absurd hc (by decide)
  refine lv_iload_n hx hb dX12_isIn_5 rfl (lv_at hl 0 rfl) ?_
  refine lv_iload_n hx hb dX12_isIn_6 rfl (lv_at hl 2 rfl) ?_
  refine lv_icmp_gt (tgt := 14) hx hb dX12_isIn_7 (by decide) (fun hc => ?_) (fun hc => ?_)
  · exact absurd hc (by decide)
  refine lv_iconst (v := 1) hx hb dX12_isIn_10 (by decide) ?_
  refine lv_goto (tgt := 15) hx hb dX12_isIn_11 (by decide) ?_
  have hP9 := hP.sub (ws' := []) [] rfl
  have hD9 := hD.sub (ws' := []) [] (by decide) rfl
  exact W.zret (v := 1) hx hb hr rfl (fun t ht hW => ⟨⟨1, (fun k => [].getD k 0), rfl, rfl, by rw [ht]; exact hP9, hD9⟩, hS.F ht⟩) hS.2.2 dX12_isIn_15
set_option maxHeartbeats 4000000 in
set_option maxRecDepth 100000 in
theorem kX12_count_14 (l : Launch) (dC : Nat → ClassId) (dI : Nat → Nat → Nat) (cI cQ : ClassId) (h0 h1 h2 h3 h4 h5 h6 h7 h8 h9 h10 h11 h12 h13 h14 h15 h16 h17 h18 : Nat) (sz : Nat) : Met l yX12_count vsX12_count ({ frames := 1, cells := 0, slots := 0, locals := 22 }) (va_Pc [.ref h0, .int 15] (zB dC dI cI cQ [(h0, .inr (12, [.ref h1, .ref h2, .ref h3, .ref h4, .ref h5, .ref h6, .ref h7, .ref h8, .ref h9, .int 0, .int 0, .int 10, .int 0, .int 0, .int (-9), .int 0, .ref h10, .ref h11, .ref h12, .ref h13, .int 0, .int 0, .int 0, .ref h14, .int 0, .int 0, .int 0, .int (-9), .int 0, .ref h15, .int 0, .int 0, .int 0, .ref h16, .ref h17, .ref h18, .int 0, .int 0])), (h1, .inl (cI, 7, .inl (fun _ => 0)))] sz)) (zQi dC dI (va_A [(h0, .inr (12, [.ref h1, .ref h2, .ref h3, .ref h4, .ref h5, .ref h6, .ref h7, .ref h8, .ref h9, .int 0, .int 0, .int 10, .int 0, .int 0, .int (-9), .int 0, .ref h10, .ref h11, .ref h12, .ref h13, .int 0, .int 0, .int 0, .ref h14, .int 0, .int 0, .int 0, .int (-9), .int 0, .ref h15, .int 0, .int 0, .int 0, .ref h16, .ref h17, .ref h18, .int 0, .int 0])), (h1, .inl (cI, 7, .inl (fun _ => 0)))] sz) (fun ad => []) 0) 0 0 (va_A [(h0, .inr (12, [.ref h1, .ref h2, .ref h3, .ref h4, .ref h5, .ref h6, .ref h7, .ref h8, .ref h9, .int 0, .int 0, .int 10, .int 0, .int 0, .int (-9), .int 0, .ref h10, .ref h11, .ref h12, .ref h13, .int 0, .int 0, .int 0, .ref h14, .int 0, .int 0, .int 0, .int (-9), .int 0, .ref h15, .int 0, .int 0, .int 0, .ref h16, .ref h17, .ref h18, .int 0, .int 0])), (h1, .inl (cI, 7, .inl (fun _ => 0)))] sz) := by
  refine Met.ofW (cc := cX12_count) (maxL := 2) (ret := (some .int)) (by decide) rfl ?_
  intro p e s m args below meth c s₁ B hml hv
  obtain ⟨rfl, hsz, hP, hZ, hD0⟩ := hv
  obtain ⟨hK, hAO, hN⟩ := id hZ
  have hx := B.exec
  have hb := B.bytes
  have hr := B.returns
  have hts := atoms_spec (ws := vsX12_count) B.pre
  have hown : s.vm.findClass RX12 = some m.cls := findClass_of_methodNamed B.named
  have hlocks := B.notSynchronized
  subst hsz
  have hD := hD0.self (sz := s.heap.size)
  generalize hAe : va_A [(h0, .inr (12, [.ref h1, .ref h2, .ref h3, .ref h4, .ref h5, .ref h6, .ref h7, .ref h8, .ref h9, .int 0, .int 0, .int 10, .int 0, .int 0, .int (-9), .int 0, .ref h10, .ref h11, .ref h12, .ref h13, .int 0, .int 0, .int 0, .ref h14, .int 0, .int 0, .int 0, .int (-9), .int 0, .ref h15, .int 0, .int 0, .int 0, .ref h16, .ref h17, .ref h18, .int 0, .int 0])), (h1, .inl (cI, 7, .inl (fun _ => 0)))] s.heap.size = A at hD ⊢
  have hA : ∀ q : Nat, s.heap.size ≤ q → A q := fun q h => by rw [← hAe]; exact Or.inr h
  have hS : va_S A s.heap s.heap [] := va_S.rf
  have hP : va_P (dC, dI) vwCl [(h0, .inr (12, [.ref h1, .ref h2, .ref h3, .ref h4, .ref h5, .ref h6, .ref h7, .ref h8, .ref h9, .int 0, .int 0, .int 10, .int 0, .int 0, .int (-9), .int 0, .ref h10, .ref h11, .ref h12, .ref h13, .int 0, .int 0, .int 0, .ref h14, .int 0, .int 0, .int 0, .int (-9), .int 0, .ref h15, .int 0, .int 0, .int 0, .ref h16, .ref h17, .ref h18, .int 0, .int 0])), (h1, .inl (cI, 7, .inl (fun _ => 0)))] s.heap := hP
  have hl := lv_entry ([.ref h0, .int 15]) (n := 2) (Nat.le_of_ble_eq_true rfl)
  rw [lg_entry_eq]
  generalize (lg_sl ([.ref h0, .int 15]) ++ List.replicate (2 - (lg_sl ([.ref h0, .int 15])).length) Slot.unset).toArray = ls at hl ⊢
  have hl : lv_has ls 2 [(0, .ref h0), (1, .int 15)] := hl
  refine lv_iload_n hx hb dX12_count_0 rfl (lv_at hl 1 rfl) ?_
  refine lv_bipush (v := 11) hx hb dX12_count_1 (by decide) ?_
  refine lv_bipush (v := 16) hx hb dX12_count_3 (by decide) ?_
  refine z_calli (wc := []) (wr := [(h0, .inr (12, [.ref h1, .ref h2, .ref h3, .ref h4, .ref h5, .ref h6, .ref h7, .ref h8, .ref h9, .int 0, .int 0, .int 10, .int 0, .int 0, .int (-9), .int 0, .ref h10, .ref h11, .ref h12, .ref h13, .int 0, .int 0, .int 0, .ref h14, .int 0, .int 0, .int 0, .int (-9), .int 0, .ref h15, .int 0, .int 0, .int 0, .ref h16, .ref h17, .ref h18, .int 0, .int 0])), (h1, .inl (cI, 7, .inl (fun _ => 0)))]) (w1 := (fun _ => [])) (va_runS (As := [.int 15, .int 11, .int 16]) (rest := []) ⟨hx, hb, hml, hown, hts⟩ (kX12_isIn_20 l dC dI cI cQ s.heap.size) (va_cwS 3 hts gv_X12_count_X12_isIn_100 rfl rfl rfl (by decide +kernel) ⟨Nat.le_of_ble_eq_true rfl, Nat.le_of_ble_eq_true rfl⟩) ⟨z_blind, z_pre hZ hP hD [] rfl (by decide)⟩ rfl rfl hl.1 rfl (lv_room (Nat.le_of_ble_eq_true rfl)) dX12_count_5 ⟨Nat.le_of_ble_eq_true rfl, Nat.le_of_ble_eq_true rfl⟩) hP hD hS hA [] [0, 1] rfl rfl (by decide) (by decide) (fun _ H locs hP hD hS => ?_)
  have hP : va_P (dC, dI) vwCl [(h0, .inr (12, [.ref h1, .ref h2, .ref h3, .ref h4, .ref h5, .ref h6, .ref h7, .ref h8, .ref h9, .int 0, .int 0, .int 10, .int 0, .int 0, .int (-9), .int 0, .ref h10, .ref h11, .ref h12, .ref h13, .int 0, .int 0, .int 0, .ref h14, .int 0, .int 0, .int 0, .int (-9), .int 0, .ref h15, .int 0, .int 0, .int 0, .ref h16, .ref h17, .ref h18, .int 0, .int 0])), (h1, .inl (cI, 7, .inl (fun _ => 0)))] H := hP
  have hD : va_D A [(h0, .inr (12, [.ref h1, .ref h2, .ref h3, .ref h4, .ref h5, .ref h6, .ref h7, .ref h8, .ref h9, .int 0, .int 0, .int 10, .int 0, .int 0, .int (-9), .int 0, .ref h10, .ref h11, .ref h12, .ref h13, .int 0, .int 0, .int 0, .ref h14, .int 0, .int 0, .int 0, .int (-9), .int 0, .ref h15, .int 0, .int 0, .int 0, .ref h16, .ref h17, .ref h18, .int 0, .int 0])), (h1, .inl (cI, 7, .inl (fun _ => 0)))] := hD
  refine lv_if_eq (tgt := 21) hx hb dX12_count_8 (by decide) (fun hc => ?_) (fun hc => ?_)
  · exact absurd hc (by decide)
  refine lv_aload_n hx hb dX12_count_11 rfl (lv_at hl 0 rfl) ?_
  refine va_get (D := (dC, dI)) (ci := 12) (v := .ref h1) (C := RX12) (T := TX12) (N := 38) hx hb hts in_X12_count_X12 hown hK hP 0 rfl rfl 0 (by decide) (hts (.fieldLink RX12 7 "EachOnHisCueModel" "refused" "[I") (by decide +kernel)) (fun _ h9 => h9) rfl dX12_count_12 ?_
  refine lv_iload_n hx hb dX12_count_15 rfl (lv_at hl 1 rfl) ?_
  refine lv_bipush (v := 10) hx hb dX12_count_16 (by decide) ?_
  refine lv_isub hx hb dX12_count_18 ?_
  refine lv_topi (fun y2 ey2 => ?_)
  obtain rfl : y2 = 5 := ey2.trans (by decide)
  refine va_iald hx hb hK hP 1 0 rfl rfl (by unfold vp_in; decide) dX12_count_19 ?_
  refine lv_topi (fun y3 ey3 => ?_)
  obtain rfl : y3 = 0 := ey3.trans (by first | rfl | decide)
  have hP9 := hP.sub (ws' := []) [] rfl
  have hD9 := hD.sub (ws' := []) [] (by decide) rfl
  exact W.iret (v := 0) hx hb hr (fun t ht hW => ⟨⟨0, (fun k => [].getD k 0), rfl, rfl, by rw [ht]; exact hP9, hD9⟩, hS.F ht⟩) hS.2.2 dX12_count_20
set_option maxHeartbeats 4000000 in
set_option maxRecDepth 100000 in
theorem kX12_isIn_21 (l : Launch) (dC : Nat → ClassId) (dI : Nat → Nat → Nat) (cI cQ : ClassId) (sz : Nat) : Met l yX12_isIn vsX12_isIn ({ frames := 0, cells := 0, slots := 0, locals := 0 }) (va_Pc [.int 16, .int 11, .int 16] (zB dC dI cI cQ [] sz)) (zQi dC dI (va_A [] sz) (fun ad => []) 1) 0 0 (va_A [] sz) := by
  refine Met.ofW (cc := cX12_isIn) (maxL := 3) (ret := (some .boolean)) (by decide) rfl ?_
  intro p e s m args below meth c s₁ B hml hv
  obtain ⟨rfl, hsz, hP, hZ, hD0⟩ := hv
  obtain ⟨hK, hAO, hN⟩ := id hZ
  have hx := B.exec
  have hb := B.bytes
  have hr := B.returns
  have hts := atoms_spec (ws := vsX12_isIn) B.pre
  have hown : s.vm.findClass RX12 = some m.cls := findClass_of_methodNamed B.named
  have hlocks := B.notSynchronized
  subst hsz
  have hD := hD0.self (sz := s.heap.size)
  generalize hAe : va_A [] s.heap.size = A at hD ⊢
  have hA : ∀ q : Nat, s.heap.size ≤ q → A q := fun q h => by rw [← hAe]; exact Or.inr h
  have hS : va_S A s.heap s.heap [] := va_S.rf
  have hP : va_P (dC, dI) vwCl [] s.heap := hP
  have hl := lv_entry ([.int 16, .int 11, .int 16]) (n := 3) (Nat.le_of_ble_eq_true rfl)
  rw [lg_entry_eq]
  generalize (lg_sl ([.int 16, .int 11, .int 16]) ++ List.replicate (3 - (lg_sl ([.int 16, .int 11, .int 16])).length) Slot.unset).toArray = ls at hl ⊢
  have hl : lv_has ls 3 [(0, .int 16), (1, .int 11), (2, .int 16)] := hl
  refine lv_iload_n hx hb dX12_isIn_0 rfl (lv_at hl 0 rfl) ?_
  refine lv_iload_n hx hb dX12_isIn_1 rfl (lv_at hl 1 rfl) ?_
  refine lv_icmp_lt (tgt := 14) hx hb dX12_isIn_2 (by decide) (fun hc => ?_) (fun hc => ?_)
  · exact absurd hc (by decide)
  refine lv_iload_n hx hb dX12_isIn_5 rfl (lv_at hl 0 rfl) ?_
  refine lv_iload_n hx hb dX12_isIn_6 rfl (lv_at hl 2 rfl) ?_
  refine lv_icmp_gt (tgt := 14) hx hb dX12_isIn_7 (by decide) (fun hc => ?_) (fun hc => ?_)
  · exact absurd hc (by decide)
  refine lv_iconst (v := 1) hx hb dX12_isIn_10 (by decide) ?_
  refine lv_goto (tgt := 15) hx hb dX12_isIn_11 (by decide) ?_
  have hP9 := hP.sub (ws' := []) [] rfl
  have hD9 := hD.sub (ws' := []) [] (by decide) rfl
  exact W.zret (v := 1) hx hb hr rfl (fun t ht hW => ⟨⟨1, (fun k => [].getD k 0), rfl, rfl, by rw [ht]; exact hP9, hD9⟩, hS.F ht⟩) hS.2.2 dX12_isIn_15
set_option maxHeartbeats 4000000 in
set_option maxRecDepth 100000 in
theorem kX12_count_15 (l : Launch) (dC : Nat → ClassId) (dI : Nat → Nat → Nat) (cI cQ : ClassId) (h0 h1 h2 h3 h4 h5 h6 h7 h8 h9 h10 h11 h12 h13 h14 h15 h16 h17 h18 : Nat) (sz : Nat) : Met l yX12_count vsX12_count ({ frames := 1, cells := 0, slots := 0, locals := 22 }) (va_Pc [.ref h0, .int 16] (zB dC dI cI cQ [(h0, .inr (12, [.ref h1, .ref h2, .ref h3, .ref h4, .ref h5, .ref h6, .ref h7, .ref h8, .ref h9, .int 0, .int 0, .int 10, .int 0, .int 0, .int (-9), .int 0, .ref h10, .ref h11, .ref h12, .ref h13, .int 0, .int 0, .int 0, .ref h14, .int 0, .int 0, .int 0, .int (-9), .int 0, .ref h15, .int 0, .int 0, .int 0, .ref h16, .ref h17, .ref h18, .int 0, .int 0])), (h1, .inl (cI, 7, .inl (fun _ => 0)))] sz)) (zQi dC dI (va_A [(h0, .inr (12, [.ref h1, .ref h2, .ref h3, .ref h4, .ref h5, .ref h6, .ref h7, .ref h8, .ref h9, .int 0, .int 0, .int 10, .int 0, .int 0, .int (-9), .int 0, .ref h10, .ref h11, .ref h12, .ref h13, .int 0, .int 0, .int 0, .ref h14, .int 0, .int 0, .int 0, .int (-9), .int 0, .ref h15, .int 0, .int 0, .int 0, .ref h16, .ref h17, .ref h18, .int 0, .int 0])), (h1, .inl (cI, 7, .inl (fun _ => 0)))] sz) (fun ad => []) 0) 0 0 (va_A [(h0, .inr (12, [.ref h1, .ref h2, .ref h3, .ref h4, .ref h5, .ref h6, .ref h7, .ref h8, .ref h9, .int 0, .int 0, .int 10, .int 0, .int 0, .int (-9), .int 0, .ref h10, .ref h11, .ref h12, .ref h13, .int 0, .int 0, .int 0, .ref h14, .int 0, .int 0, .int 0, .int (-9), .int 0, .ref h15, .int 0, .int 0, .int 0, .ref h16, .ref h17, .ref h18, .int 0, .int 0])), (h1, .inl (cI, 7, .inl (fun _ => 0)))] sz) := by
  refine Met.ofW (cc := cX12_count) (maxL := 2) (ret := (some .int)) (by decide) rfl ?_
  intro p e s m args below meth c s₁ B hml hv
  obtain ⟨rfl, hsz, hP, hZ, hD0⟩ := hv
  obtain ⟨hK, hAO, hN⟩ := id hZ
  have hx := B.exec
  have hb := B.bytes
  have hr := B.returns
  have hts := atoms_spec (ws := vsX12_count) B.pre
  have hown : s.vm.findClass RX12 = some m.cls := findClass_of_methodNamed B.named
  have hlocks := B.notSynchronized
  subst hsz
  have hD := hD0.self (sz := s.heap.size)
  generalize hAe : va_A [(h0, .inr (12, [.ref h1, .ref h2, .ref h3, .ref h4, .ref h5, .ref h6, .ref h7, .ref h8, .ref h9, .int 0, .int 0, .int 10, .int 0, .int 0, .int (-9), .int 0, .ref h10, .ref h11, .ref h12, .ref h13, .int 0, .int 0, .int 0, .ref h14, .int 0, .int 0, .int 0, .int (-9), .int 0, .ref h15, .int 0, .int 0, .int 0, .ref h16, .ref h17, .ref h18, .int 0, .int 0])), (h1, .inl (cI, 7, .inl (fun _ => 0)))] s.heap.size = A at hD ⊢
  have hA : ∀ q : Nat, s.heap.size ≤ q → A q := fun q h => by rw [← hAe]; exact Or.inr h
  have hS : va_S A s.heap s.heap [] := va_S.rf
  have hP : va_P (dC, dI) vwCl [(h0, .inr (12, [.ref h1, .ref h2, .ref h3, .ref h4, .ref h5, .ref h6, .ref h7, .ref h8, .ref h9, .int 0, .int 0, .int 10, .int 0, .int 0, .int (-9), .int 0, .ref h10, .ref h11, .ref h12, .ref h13, .int 0, .int 0, .int 0, .ref h14, .int 0, .int 0, .int 0, .int (-9), .int 0, .ref h15, .int 0, .int 0, .int 0, .ref h16, .ref h17, .ref h18, .int 0, .int 0])), (h1, .inl (cI, 7, .inl (fun _ => 0)))] s.heap := hP
  have hl := lv_entry ([.ref h0, .int 16]) (n := 2) (Nat.le_of_ble_eq_true rfl)
  rw [lg_entry_eq]
  generalize (lg_sl ([.ref h0, .int 16]) ++ List.replicate (2 - (lg_sl ([.ref h0, .int 16])).length) Slot.unset).toArray = ls at hl ⊢
  have hl : lv_has ls 2 [(0, .ref h0), (1, .int 16)] := hl
  refine lv_iload_n hx hb dX12_count_0 rfl (lv_at hl 1 rfl) ?_
  refine lv_bipush (v := 11) hx hb dX12_count_1 (by decide) ?_
  refine lv_bipush (v := 16) hx hb dX12_count_3 (by decide) ?_
  refine z_calli (wc := []) (wr := [(h0, .inr (12, [.ref h1, .ref h2, .ref h3, .ref h4, .ref h5, .ref h6, .ref h7, .ref h8, .ref h9, .int 0, .int 0, .int 10, .int 0, .int 0, .int (-9), .int 0, .ref h10, .ref h11, .ref h12, .ref h13, .int 0, .int 0, .int 0, .ref h14, .int 0, .int 0, .int 0, .int (-9), .int 0, .ref h15, .int 0, .int 0, .int 0, .ref h16, .ref h17, .ref h18, .int 0, .int 0])), (h1, .inl (cI, 7, .inl (fun _ => 0)))]) (w1 := (fun _ => [])) (va_runS (As := [.int 16, .int 11, .int 16]) (rest := []) ⟨hx, hb, hml, hown, hts⟩ (kX12_isIn_21 l dC dI cI cQ s.heap.size) (va_cwS 3 hts gv_X12_count_X12_isIn_100 rfl rfl rfl (by decide +kernel) ⟨Nat.le_of_ble_eq_true rfl, Nat.le_of_ble_eq_true rfl⟩) ⟨z_blind, z_pre hZ hP hD [] rfl (by decide)⟩ rfl rfl hl.1 rfl (lv_room (Nat.le_of_ble_eq_true rfl)) dX12_count_5 ⟨Nat.le_of_ble_eq_true rfl, Nat.le_of_ble_eq_true rfl⟩) hP hD hS hA [] [0, 1] rfl rfl (by decide) (by decide) (fun _ H locs hP hD hS => ?_)
  have hP : va_P (dC, dI) vwCl [(h0, .inr (12, [.ref h1, .ref h2, .ref h3, .ref h4, .ref h5, .ref h6, .ref h7, .ref h8, .ref h9, .int 0, .int 0, .int 10, .int 0, .int 0, .int (-9), .int 0, .ref h10, .ref h11, .ref h12, .ref h13, .int 0, .int 0, .int 0, .ref h14, .int 0, .int 0, .int 0, .int (-9), .int 0, .ref h15, .int 0, .int 0, .int 0, .ref h16, .ref h17, .ref h18, .int 0, .int 0])), (h1, .inl (cI, 7, .inl (fun _ => 0)))] H := hP
  have hD : va_D A [(h0, .inr (12, [.ref h1, .ref h2, .ref h3, .ref h4, .ref h5, .ref h6, .ref h7, .ref h8, .ref h9, .int 0, .int 0, .int 10, .int 0, .int 0, .int (-9), .int 0, .ref h10, .ref h11, .ref h12, .ref h13, .int 0, .int 0, .int 0, .ref h14, .int 0, .int 0, .int 0, .int (-9), .int 0, .ref h15, .int 0, .int 0, .int 0, .ref h16, .ref h17, .ref h18, .int 0, .int 0])), (h1, .inl (cI, 7, .inl (fun _ => 0)))] := hD
  refine lv_if_eq (tgt := 21) hx hb dX12_count_8 (by decide) (fun hc => ?_) (fun hc => ?_)
  · exact absurd hc (by decide)
  refine lv_aload_n hx hb dX12_count_11 rfl (lv_at hl 0 rfl) ?_
  refine va_get (D := (dC, dI)) (ci := 12) (v := .ref h1) (C := RX12) (T := TX12) (N := 38) hx hb hts in_X12_count_X12 hown hK hP 0 rfl rfl 0 (by decide) (hts (.fieldLink RX12 7 "EachOnHisCueModel" "refused" "[I") (by decide +kernel)) (fun _ h9 => h9) rfl dX12_count_12 ?_
  refine lv_iload_n hx hb dX12_count_15 rfl (lv_at hl 1 rfl) ?_
  refine lv_bipush (v := 10) hx hb dX12_count_16 (by decide) ?_
  refine lv_isub hx hb dX12_count_18 ?_
  refine lv_topi (fun y2 ey2 => ?_)
  obtain rfl : y2 = 6 := ey2.trans (by decide)
  refine va_iald hx hb hK hP 1 0 rfl rfl (by unfold vp_in; decide) dX12_count_19 ?_
  refine lv_topi (fun y3 ey3 => ?_)
  obtain rfl : y3 = 0 := ey3.trans (by first | rfl | decide)
  have hP9 := hP.sub (ws' := []) [] rfl
  have hD9 := hD.sub (ws' := []) [] (by decide) rfl
  exact W.iret (v := 0) hx hb hr (fun t ht hW => ⟨⟨0, (fun k => [].getD k 0), rfl, rfl, by rw [ht]; exact hP9, hD9⟩, hS.F ht⟩) hS.2.2 dX12_count_20
