set_option maxHeartbeats 4000000 in
set_option maxRecDepth 100000 in
theorem kX12_isPlayer (l : Launch) (dC : Nat → ClassId) (dI : Nat → Nat → Nat) (cI cQ : ClassId) (h0 : Nat) (p0 : Int32) (hp0l : -2147483648 ≤ p0.toInt) (hp0h : p0.toInt ≤ -1) (sz : Nat) : Met l yX12_isPlayer vsX12_isPlayer ({ frames := 0, cells := 0, slots := 0, locals := 0 }) (va_Pc [.ref h0, .int p0] (zB dC dI cI cQ [] sz)) (zQi dC dI (va_A [] sz) (fun ad => []) 0) 0 0 (va_A [] sz) := by
  refine Met.ofW (cc := cX12_isPlayer) (maxL := 2) (ret := (some .boolean)) (by decide) rfl ?_
  intro p e s m args below meth c s₁ B hml hv
  obtain ⟨rfl, hsz, hP, hZ, hD0⟩ := hv
  obtain ⟨hK, hAO, hN⟩ := id hZ
  have hx := B.exec
  have hb := B.bytes
  have hr := B.returns
  have hts := atoms_spec (ws := vsX12_isPlayer) B.pre
  have hown : s.vm.findClass RX12 = some m.cls := findClass_of_methodNamed B.named
  have hlocks := B.notSynchronized
  subst hsz
  have hD := hD0.self (sz := s.heap.size)
  generalize hAe : va_A [] s.heap.size = A at hD ⊢
  have hA : ∀ q : Nat, s.heap.size ≤ q → A q := fun q h => by rw [← hAe]; exact Or.inr h
  have hS : va_S A s.heap s.heap [] := va_S.rf
  have hP : va_P (dC, dI) vwCl [] s.heap := hP
  have hl := lv_entry ([.ref h0, .int p0]) (n := 2) (Nat.le_of_ble_eq_true rfl)
  rw [lg_entry_eq]
  generalize (lg_sl ([.ref h0, .int p0]) ++ List.replicate (2 - (lg_sl ([.ref h0, .int p0])).length) Slot.unset).toArray = ls at hl ⊢
  have hl : lv_has ls 2 [(0, .ref h0), (1, .int p0)] := hl
  refine lv_iload_n hx hb dX12_isPlayer_0 rfl (lv_at hl 1 rfl) ?_
  refine lv_if_lt (tgt := 16) hx hb dX12_isPlayer_1 (by decide) (fun hc => ?_) (fun hc => ?_)
  rotate_left; exact absurd ((fa_lt _ _).mpr (by rw [show (0 : Int32).toInt = 0 from by decide]; omega)) hc
  refine lv_iconst (v := 0) hx hb dX12_isPlayer_16 (by decide) ?_
  have hP9 := hP.sub (ws' := []) [] rfl
  have hD9 := hD.sub (ws' := []) [] (by decide) rfl
  exact W.zret (v := 0) hx hb hr rfl (fun t ht hW => ⟨⟨0, (fun k => [].getD k 0), rfl, rfl, by rw [ht]; exact hP9, hD9⟩, hS.F ht⟩) hS.2.2 dX12_isPlayer_17
set_option maxHeartbeats 4000000 in
set_option maxRecDepth 100000 in
theorem kX12_no_2 (l : Launch) (dC : Nat → ClassId) (dI : Nat → Nat → Nat) (cI cQ : ClassId) (h0 h1 h2 h3 h4 h5 h6 h7 h8 h9 h10 h11 h12 h13 h14 h15 h16 h17 h18 : Nat) (sz : Nat) : Met l yX12_no vsX12_no ({ frames := 0, cells := 0, slots := 0, locals := 0 }) (va_Pc [.ref h0, .int (-1)] (zB dC dI cI cQ [(h0, .inr (12, [.ref h1, .ref h2, .ref h3, .ref h4, .ref h5, .ref h6, .ref h7, .ref h8, .ref h9, .int 0, .int 0, .int 10, .int 0, .int 0, .int (-9), .int 0, .ref h10, .ref h11, .ref h12, .ref h13, .int 0, .int 0, .int 0, .ref h14, .int 0, .int 0, .int 0, .int (-9), .int 0, .ref h15, .int 0, .int 0, .int 0, .ref h16, .ref h17, .ref h18, .int 0, .int 0])), (h1, .inl (cI, 7, .inl (fun _ => 0)))] sz)) (zQi dC dI (va_A [(h0, .inr (12, [.ref h1, .ref h2, .ref h3, .ref h4, .ref h5, .ref h6, .ref h7, .ref h8, .ref h9, .int 0, .int 0, .int 10, .int 0, .int 0, .int (-9), .int 0, .ref h10, .ref h11, .ref h12, .ref h13, .int 0, .int 0, .int 0, .ref h14, .int 0, .int 0, .int 0, .int (-9), .int 0, .ref h15, .int 0, .int 0, .int 0, .ref h16, .ref h17, .ref h18, .int 0, .int 0])), (h1, .inl (cI, 7, .inl (fun _ => 0)))] sz) (fun ad => [(h0, .inr (12, [.ref h1, .ref h2, .ref h3, .ref h4, .ref h5, .ref h6, .ref h7, .ref h8, .ref h9, .int 0, .int 0, .int 10, .int 0, .int 0, .int (-9), .int 0, .ref h10, .ref h11, .ref h12, .ref h13, .int 0, .int 0, .int 0, .ref h14, .int 0, .int 0, .int 0, .int (-9), .int 0, .ref h15, .int 0, .int 0, .int 0, .ref h16, .ref h17, .ref h18, .int 0, .int 0])), (h1, .inl (cI, 7, .inl (upd (fun _ => 0) 1 1)))]) (-1)) 0 0 (va_A [(h0, .inr (12, [.ref h1, .ref h2, .ref h3, .ref h4, .ref h5, .ref h6, .ref h7, .ref h8, .ref h9, .int 0, .int 0, .int 10, .int 0, .int 0, .int (-9), .int 0, .ref h10, .ref h11, .ref h12, .ref h13, .int 0, .int 0, .int 0, .ref h14, .int 0, .int 0, .int 0, .int (-9), .int 0, .ref h15, .int 0, .int 0, .int 0, .ref h16, .ref h17, .ref h18, .int 0, .int 0])), (h1, .inl (cI, 7, .inl (fun _ => 0)))] sz) := by
  refine Met.ofW (cc := cX12_no) (maxL := 2) (ret := (some .int)) (by decide) rfl ?_
  intro p e s m args below meth c s₁ B hml hv
  obtain ⟨rfl, hsz, hP, hZ, hD0⟩ := hv
  obtain ⟨hK, hAO, hN⟩ := id hZ
  have hx := B.exec
  have hb := B.bytes
  have hr := B.returns
  have hts := atoms_spec (ws := vsX12_no) B.pre
  have hown : s.vm.findClass RX12 = some m.cls := findClass_of_methodNamed B.named
  have hlocks := B.notSynchronized
  subst hsz
  have hD := hD0.self (sz := s.heap.size)
  generalize hAe : va_A [(h0, .inr (12, [.ref h1, .ref h2, .ref h3, .ref h4, .ref h5, .ref h6, .ref h7, .ref h8, .ref h9, .int 0, .int 0, .int 10, .int 0, .int 0, .int (-9), .int 0, .ref h10, .ref h11, .ref h12, .ref h13, .int 0, .int 0, .int 0, .ref h14, .int 0, .int 0, .int 0, .int (-9), .int 0, .ref h15, .int 0, .int 0, .int 0, .ref h16, .ref h17, .ref h18, .int 0, .int 0])), (h1, .inl (cI, 7, .inl (fun _ => 0)))] s.heap.size = A at hD ⊢
  have hA : ∀ q : Nat, s.heap.size ≤ q → A q := fun q h => by rw [← hAe]; exact Or.inr h
  have hS : va_S A s.heap s.heap [] := va_S.rf
  have hP : va_P (dC, dI) vwCl [(h0, .inr (12, [.ref h1, .ref h2, .ref h3, .ref h4, .ref h5, .ref h6, .ref h7, .ref h8, .ref h9, .int 0, .int 0, .int 10, .int 0, .int 0, .int (-9), .int 0, .ref h10, .ref h11, .ref h12, .ref h13, .int 0, .int 0, .int 0, .ref h14, .int 0, .int 0, .int 0, .int (-9), .int 0, .ref h15, .int 0, .int 0, .int 0, .ref h16, .ref h17, .ref h18, .int 0, .int 0])), (h1, .inl (cI, 7, .inl (fun _ => 0)))] s.heap := hP
  have hl := lv_entry ([.ref h0, .int (-1)]) (n := 2) (Nat.le_of_ble_eq_true rfl)
  rw [lg_entry_eq]
  generalize (lg_sl ([.ref h0, .int (-1)]) ++ List.replicate (2 - (lg_sl ([.ref h0, .int (-1)])).length) Slot.unset).toArray = ls at hl ⊢
  have hl : lv_has ls 2 [(0, .ref h0), (1, .int (-1))] := hl
  refine lv_aload_n hx hb dX12_no_0 rfl (lv_at hl 0 rfl) ?_
  refine va_get (D := (dC, dI)) (ci := 12) (v := .ref h1) (C := RX12) (T := TX12) (N := 38) hx hb hts in_X12_no_X12 hown hK hP 0 rfl rfl 0 (by decide) (hts (.fieldLink RX12 7 "EachOnHisCueModel" "refused" "[I") (by decide +kernel)) (fun _ h9 => h9) rfl dX12_no_1 ?_
  refine lv_iload_n hx hb dX12_no_4 rfl (lv_at hl 1 rfl) ?_
  refine lv_ineg hx hb dX12_no_5 ?_
  refine lv_topi (fun y1 ey1 => ?_)
  obtain rfl : y1 = 1 := ey1.trans (by decide)
  refine lv_dup2_11 hx hb dX12_no_6 rfl rfl ?_
  refine va_iald hx hb hK hP 1 0 rfl rfl (by unfold vp_in; decide) dX12_no_7 ?_
  refine lv_topi (fun y2 ey2 => ?_)
  obtain rfl : y2 = 0 := ey2.trans (by first | rfl | decide)
  refine lv_iconst (v := 1) hx hb dX12_no_8 (by decide) ?_
  refine lv_iadd hx hb dX12_no_9 ?_
  refine lv_topi (fun y3 ey3 => ?_)
  obtain rfl : y3 = 1 := ey3.trans (by decide)
  refine va_iast hx hb hK hP hD hS 1 0 rfl rfl (by unfold vp_in; decide) dX12_no_10 (fun H locs hP hD hS => ?_)
  have hP : va_P (dC, dI) vwCl [(h0, .inr (12, [.ref h1, .ref h2, .ref h3, .ref h4, .ref h5, .ref h6, .ref h7, .ref h8, .ref h9, .int 0, .int 0, .int 10, .int 0, .int 0, .int (-9), .int 0, .ref h10, .ref h11, .ref h12, .ref h13, .int 0, .int 0, .int 0, .ref h14, .int 0, .int 0, .int 0, .int (-9), .int 0, .ref h15, .int 0, .int 0, .int 0, .ref h16, .ref h17, .ref h18, .int 0, .int 0])), (h1, .inl (cI, 7, .inl (upd (fun _ => 0) 1 1)))] H := hP
  have hD : va_D A [(h0, .inr (12, [.ref h1, .ref h2, .ref h3, .ref h4, .ref h5, .ref h6, .ref h7, .ref h8, .ref h9, .int 0, .int 0, .int 10, .int 0, .int 0, .int (-9), .int 0, .ref h10, .ref h11, .ref h12, .ref h13, .int 0, .int 0, .int 0, .ref h14, .int 0, .int 0, .int 0, .int (-9), .int 0, .ref h15, .int 0, .int 0, .int 0, .ref h16, .ref h17, .ref h18, .int 0, .int 0])), (h1, .inl (cI, 7, .inl (upd (fun _ => 0) 1 1)))] := hD
  refine lv_iload_n hx hb dX12_no_11 rfl (lv_at hl 1 rfl) ?_
  have hP9 := hP.sub (ws' := [(h0, .inr (12, [.ref h1, .ref h2, .ref h3, .ref h4, .ref h5, .ref h6, .ref h7, .ref h8, .ref h9, .int 0, .int 0, .int 10, .int 0, .int 0, .int (-9), .int 0, .ref h10, .ref h11, .ref h12, .ref h13, .int 0, .int 0, .int 0, .ref h14, .int 0, .int 0, .int 0, .int (-9), .int 0, .ref h15, .int 0, .int 0, .int 0, .ref h16, .ref h17, .ref h18, .int 0, .int 0])), (h1, .inl (cI, 7, .inl (upd (fun _ => 0) 1 1)))]) [0, 1] rfl
  have hD9 := hD.sub (ws' := [(h0, .inr (12, [.ref h1, .ref h2, .ref h3, .ref h4, .ref h5, .ref h6, .ref h7, .ref h8, .ref h9, .int 0, .int 0, .int 10, .int 0, .int 0, .int (-9), .int 0, .ref h10, .ref h11, .ref h12, .ref h13, .int 0, .int 0, .int 0, .ref h14, .int 0, .int 0, .int 0, .int (-9), .int 0, .ref h15, .int 0, .int 0, .int 0, .ref h16, .ref h17, .ref h18, .int 0, .int 0])), (h1, .inl (cI, 7, .inl (upd (fun _ => 0) 1 1)))]) [0, 1] (by decide) rfl
  exact W.iret (v := (-1)) hx hb hr (fun t ht hW => ⟨⟨(-1), (fun k => [].getD k 0), rfl, rfl, by rw [ht]; exact hP9, hD9⟩, hS.F ht⟩) hS.2.2 dX12_no_12
set_option maxHeartbeats 4000000 in
set_option maxRecDepth 100000 in
theorem kX12_player (l : Launch) (dC : Nat → ClassId) (dI : Nat → Nat → Nat) (cI cQ : ClassId) (h0 h1 h2 h3 h4 h5 h6 h7 h8 h9 h10 h11 h12 h13 h14 h15 h16 h17 h18 : Nat) (p0 : Int32) (hp0l : -2147483648 ≤ p0.toInt) (hp0h : p0.toInt ≤ -1) (p1 : Int32) (hp1l : -2147483648 ≤ p1.toInt) (hp1h : p1.toInt ≤ 2147483647) (sz : Nat) : Met l yX12_player vsX12_player ({ frames := 1, cells := 0, slots := 0, locals := 21 }) (va_Pc [.ref h0, .int p0, .int p1] (zB dC dI cI cQ [(h0, .inr (12, [.ref h1, .ref h2, .ref h3, .ref h4, .ref h5, .ref h6, .ref h7, .ref h8, .ref h9, .int 0, .int 0, .int 10, .int 0, .int 0, .int (-9), .int 0, .ref h10, .ref h11, .ref h12, .ref h13, .int 0, .int 0, .int 0, .ref h14, .int 0, .int 0, .int 0, .int (-9), .int 0, .ref h15, .int 0, .int 0, .int 0, .ref h16, .ref h17, .ref h18, .int 0, .int 0])), (h1, .inl (cI, 7, .inl (fun _ => 0)))] sz)) (zQi dC dI (va_A [(h0, .inr (12, [.ref h1, .ref h2, .ref h3, .ref h4, .ref h5, .ref h6, .ref h7, .ref h8, .ref h9, .int 0, .int 0, .int 10, .int 0, .int 0, .int (-9), .int 0, .ref h10, .ref h11, .ref h12, .ref h13, .int 0, .int 0, .int 0, .ref h14, .int 0, .int 0, .int 0, .int (-9), .int 0, .ref h15, .int 0, .int 0, .int 0, .ref h16, .ref h17, .ref h18, .int 0, .int 0])), (h1, .inl (cI, 7, .inl (fun _ => 0)))] sz) (fun ad => []) (-1)) 0 0 (va_A [(h0, .inr (12, [.ref h1, .ref h2, .ref h3, .ref h4, .ref h5, .ref h6, .ref h7, .ref h8, .ref h9, .int 0, .int 0, .int 10, .int 0, .int 0, .int (-9), .int 0, .ref h10, .ref h11, .ref h12, .ref h13, .int 0, .int 0, .int 0, .ref h14, .int 0, .int 0, .int 0, .int (-9), .int 0, .ref h15, .int 0, .int 0, .int 0, .ref h16, .ref h17, .ref h18, .int 0, .int 0])), (h1, .inl (cI, 7, .inl (fun _ => 0)))] sz) := by
  refine Met.ofW (cc := cX12_player) (maxL := 3) (ret := (some .int)) (by decide) rfl ?_
  intro p e s m args below meth c s₁ B hml hv
  obtain ⟨rfl, hsz, hP, hZ, hD0⟩ := hv
  obtain ⟨hK, hAO, hN⟩ := id hZ
  have hx := B.exec
  have hb := B.bytes
  have hr := B.returns
  have hts := atoms_spec (ws := vsX12_player) B.pre
  have hown : s.vm.findClass RX12 = some m.cls := findClass_of_methodNamed B.named
  have hlocks := B.notSynchronized
  subst hsz
  have hD := hD0.self (sz := s.heap.size)
  generalize hAe : va_A [(h0, .inr (12, [.ref h1, .ref h2, .ref h3, .ref h4, .ref h5, .ref h6, .ref h7, .ref h8, .ref h9, .int 0, .int 0, .int 10, .int 0, .int 0, .int (-9), .int 0, .ref h10, .ref h11, .ref h12, .ref h13, .int 0, .int 0, .int 0, .ref h14, .int 0, .int 0, .int 0, .int (-9), .int 0, .ref h15, .int 0, .int 0, .int 0, .ref h16, .ref h17, .ref h18, .int 0, .int 0])), (h1, .inl (cI, 7, .inl (fun _ => 0)))] s.heap.size = A at hD ⊢
  have hA : ∀ q : Nat, s.heap.size ≤ q → A q := fun q h => by rw [← hAe]; exact Or.inr h
  have hS : va_S A s.heap s.heap [] := va_S.rf
  have hP : va_P (dC, dI) vwCl [(h0, .inr (12, [.ref h1, .ref h2, .ref h3, .ref h4, .ref h5, .ref h6, .ref h7, .ref h8, .ref h9, .int 0, .int 0, .int 10, .int 0, .int 0, .int (-9), .int 0, .ref h10, .ref h11, .ref h12, .ref h13, .int 0, .int 0, .int 0, .ref h14, .int 0, .int 0, .int 0, .int (-9), .int 0, .ref h15, .int 0, .int 0, .int 0, .ref h16, .ref h17, .ref h18, .int 0, .int 0])), (h1, .inl (cI, 7, .inl (fun _ => 0)))] s.heap := hP
  have hl := lv_entry ([.ref h0, .int p0, .int p1]) (n := 3) (Nat.le_of_ble_eq_true rfl)
  rw [lg_entry_eq]
  generalize (lg_sl ([.ref h0, .int p0, .int p1]) ++ List.replicate (3 - (lg_sl ([.ref h0, .int p0, .int p1])).length) Slot.unset).toArray = ls at hl ⊢
  have hl : lv_has ls 3 [(0, .ref h0), (1, .int p0), (2, .int p1)] := hl
  refine lv_aload_n hx hb dX12_player_0 rfl (lv_at hl 0 rfl) ?_
  refine lv_iload_n hx hb dX12_player_1 rfl (lv_at hl 1 rfl) ?_
  refine z_calli (wc := []) (wr := [(h0, .inr (12, [.ref h1, .ref h2, .ref h3, .ref h4, .ref h5, .ref h6, .ref h7, .ref h8, .ref h9, .int 0, .int 0, .int 10, .int 0, .int 0, .int (-9), .int 0, .ref h10, .ref h11, .ref h12, .ref h13, .int 0, .int 0, .int 0, .ref h14, .int 0, .int 0, .int 0, .int (-9), .int 0, .ref h15, .int 0, .int 0, .int 0, .ref h16, .ref h17, .ref h18, .int 0, .int 0])), (h1, .inl (cI, 7, .inl (fun _ => 0)))]) (w1 := (fun _ => [])) (va_runV (As := [.int p0]) (rest := []) ⟨hx, hb, hml, hown, hts⟩ (kX12_isPlayer l dC dI cI cQ h0 p0 hp0l hp0h s.heap.size) (cwV 1 hts gv_X12_player_X12_isPlayer_117 rfl rfl rfl (by decide +kernel) ⟨Nat.le_of_ble_eq_true rfl, Nat.le_of_ble_eq_true rfl⟩) ⟨z_blind, va_recv hK hP (ci := 12) (q0 := 0) rfl rfl, z_pre hZ hP hD [] rfl (by decide)⟩ rfl rfl hl.1 rfl (lv_room (Nat.le_of_ble_eq_true rfl)) dX12_player_2 ⟨Nat.le_of_ble_eq_true rfl, Nat.le_of_ble_eq_true rfl⟩) hP hD hS hA [] [0, 1] rfl rfl (by decide) (by decide) (fun _ H locs hP hD hS => ?_)
  have hP : va_P (dC, dI) vwCl [(h0, .inr (12, [.ref h1, .ref h2, .ref h3, .ref h4, .ref h5, .ref h6, .ref h7, .ref h8, .ref h9, .int 0, .int 0, .int 10, .int 0, .int 0, .int (-9), .int 0, .ref h10, .ref h11, .ref h12, .ref h13, .int 0, .int 0, .int 0, .ref h14, .int 0, .int 0, .int 0, .int (-9), .int 0, .ref h15, .int 0, .int 0, .int 0, .ref h16, .ref h17, .ref h18, .int 0, .int 0])), (h1, .inl (cI, 7, .inl (fun _ => 0)))] H := hP
  have hD : va_D A [(h0, .inr (12, [.ref h1, .ref h2, .ref h3, .ref h4, .ref h5, .ref h6, .ref h7, .ref h8, .ref h9, .int 0, .int 0, .int 10, .int 0, .int 0, .int (-9), .int 0, .ref h10, .ref h11, .ref h12, .ref h13, .int 0, .int 0, .int 0, .ref h14, .int 0, .int 0, .int 0, .int (-9), .int 0, .ref h15, .int 0, .int 0, .int 0, .ref h16, .ref h17, .ref h18, .int 0, .int 0])), (h1, .inl (cI, 7, .inl (fun _ => 0)))] := hD
  refine lv_if_ne (tgt := 14) hx hb dX12_player_5 (by decide) (fun hc => ?_) (fun hc => ?_)
  · exact absurd hc (by decide)
  refine lv_aload_n hx hb dX12_player_8 rfl (lv_at hl 0 rfl) ?_
  refine lv_iconst (v := (-1)) hx hb dX12_player_9 (by decide) ?_
  refine z_calli (wc := [(h0, .inr (12, [.ref h1, .ref h2, .ref h3, .ref h4, .ref h5, .ref h6, .ref h7, .ref h8, .ref h9, .int 0, .int 0, .int 10, .int 0, .int 0, .int (-9), .int 0, .ref h10, .ref h11, .ref h12, .ref h13, .int 0, .int 0, .int 0, .ref h14, .int 0, .int 0, .int 0, .int (-9), .int 0, .ref h15, .int 0, .int 0, .int 0, .ref h16, .ref h17, .ref h18, .int 0, .int 0])), (h1, .inl (cI, 7, .inl (fun _ => 0)))]) (wr := []) (w1 := (fun _ => [(h0, .inr (12, [.ref h1, .ref h2, .ref h3, .ref h4, .ref h5, .ref h6, .ref h7, .ref h8, .ref h9, .int 0, .int 0, .int 10, .int 0, .int 0, .int (-9), .int 0, .ref h10, .ref h11, .ref h12, .ref h13, .int 0, .int 0, .int 0, .ref h14, .int 0, .int 0, .int 0, .int (-9), .int 0, .ref h15, .int 0, .int 0, .int 0, .ref h16, .ref h17, .ref h18, .int 0, .int 0])), (h1, .inl (cI, 7, .inl (upd (fun _ => 0) 1 1)))])) (va_runV (As := [.int (-1)]) (rest := []) ⟨hx, hb, hml, hown, hts⟩ (kX12_no_2 l dC dI cI cQ h0 h1 h2 h3 h4 h5 h6 h7 h8 h9 h10 h11 h12 h13 h14 h15 h16 h17 h18 H.size) (cwV 1 hts gv_X12_player_X12_no_89 rfl rfl rfl (by decide +kernel) ⟨Nat.le_of_ble_eq_true rfl, Nat.le_of_ble_eq_true rfl⟩) ⟨z_blind, va_recv hK hP (ci := 12) (q0 := 0) rfl rfl, z_pre hZ hP hD [0, 1] rfl (by decide)⟩ rfl rfl hl.1 rfl (lv_room (Nat.le_of_ble_eq_true rfl)) dX12_player_10 ⟨Nat.le_of_ble_eq_true rfl, Nat.le_of_ble_eq_true rfl⟩) hP hD hS hA [0, 1] [] rfl rfl (by decide) (by decide) (fun _ H locs hP hD hS => ?_)
  have hP : va_P (dC, dI) vwCl [(h0, .inr (12, [.ref h1, .ref h2, .ref h3, .ref h4, .ref h5, .ref h6, .ref h7, .ref h8, .ref h9, .int 0, .int 0, .int 10, .int 0, .int 0, .int (-9), .int 0, .ref h10, .ref h11, .ref h12, .ref h13, .int 0, .int 0, .int 0, .ref h14, .int 0, .int 0, .int 0, .int (-9), .int 0, .ref h15, .int 0, .int 0, .int 0, .ref h16, .ref h17, .ref h18, .int 0, .int 0])), (h1, .inl (cI, 7, .inl (upd (fun _ => 0) 1 1)))] H := hP
  have hD : va_D A [(h0, .inr (12, [.ref h1, .ref h2, .ref h3, .ref h4, .ref h5, .ref h6, .ref h7, .ref h8, .ref h9, .int 0, .int 0, .int 10, .int 0, .int 0, .int (-9), .int 0, .ref h10, .ref h11, .ref h12, .ref h13, .int 0, .int 0, .int 0, .ref h14, .int 0, .int 0, .int 0, .int (-9), .int 0, .ref h15, .int 0, .int 0, .int 0, .ref h16, .ref h17, .ref h18, .int 0, .int 0])), (h1, .inl (cI, 7, .inl (upd (fun _ => 0) 1 1)))] := hD
  have hP9 := hP.sub (ws' := []) [] rfl
  have hD9 := hD.sub (ws' := []) [] (by decide) rfl
  exact W.iret (v := (-1)) hx hb hr (fun t ht hW => ⟨⟨(-1), (fun k => [].getD k 0), rfl, rfl, by rw [ht]; exact hP9, hD9⟩, hS.F ht⟩) hS.2.2 dX12_player_13
set_option maxHeartbeats 4000000 in
set_option maxRecDepth 100000 in
theorem kX12_isPlayer_1 (l : Launch) (dC : Nat → ClassId) (dI : Nat → Nat → Nat) (cI cQ : ClassId) (h0 h1 h2 h3 h4 h5 h6 h7 h8 h9 h10 h11 h12 h13 h14 h15 h16 h17 h18 : Nat) (p0 : Int32) (hp0l : 0 ≤ p0.toInt) (hp0h : p0.toInt ≤ 2147483647) (sz : Nat) : Met l yX12_isPlayer vsX12_isPlayer ({ frames := 0, cells := 0, slots := 0, locals := 0 }) (va_Pc [.ref h0, .int p0] (zB dC dI cI cQ [(h0, .inr (12, [.ref h1, .ref h2, .ref h3, .ref h4, .ref h5, .ref h6, .ref h7, .ref h8, .ref h9, .int 0, .int 0, .int 10, .int 0, .int 0, .int (-9), .int 0, .ref h10, .ref h11, .ref h12, .ref h13, .int 0, .int 0, .int 0, .ref h14, .int 0, .int 0, .int 0, .int (-9), .int 0, .ref h15, .int 0, .int 0, .int 0, .ref h16, .ref h17, .ref h18, .int 0, .int 0]))] sz)) (zQi dC dI (va_A [(h0, .inr (12, [.ref h1, .ref h2, .ref h3, .ref h4, .ref h5, .ref h6, .ref h7, .ref h8, .ref h9, .int 0, .int 0, .int 10, .int 0, .int 0, .int (-9), .int 0, .ref h10, .ref h11, .ref h12, .ref h13, .int 0, .int 0, .int 0, .ref h14, .int 0, .int 0, .int 0, .int (-9), .int 0, .ref h15, .int 0, .int 0, .int 0, .ref h16, .ref h17, .ref h18, .int 0, .int 0]))] sz) (fun ad => [(h0, .inr (12, [.ref h1, .ref h2, .ref h3, .ref h4, .ref h5, .ref h6, .ref h7, .ref h8, .ref h9, .int 0, .int 0, .int 10, .int 0, .int 0, .int (-9), .int 0, .ref h10, .ref h11, .ref h12, .ref h13, .int 0, .int 0, .int 0, .ref h14, .int 0, .int 0, .int 0, .int (-9), .int 0, .ref h15, .int 0, .int 0, .int 0, .ref h16, .ref h17, .ref h18, .int 0, .int 0]))]) 0) 0 0 (va_A [(h0, .inr (12, [.ref h1, .ref h2, .ref h3, .ref h4, .ref h5, .ref h6, .ref h7, .ref h8, .ref h9, .int 0, .int 0, .int 10, .int 0, .int 0, .int (-9), .int 0, .ref h10, .ref h11, .ref h12, .ref h13, .int 0, .int 0, .int 0, .ref h14, .int 0, .int 0, .int 0, .int (-9), .int 0, .ref h15, .int 0, .int 0, .int 0, .ref h16, .ref h17, .ref h18, .int 0, .int 0]))] sz) := by
  refine Met.ofW (cc := cX12_isPlayer) (maxL := 2) (ret := (some .boolean)) (by decide) rfl ?_
  intro p e s m args below meth c s₁ B hml hv
  obtain ⟨rfl, hsz, hP, hZ, hD0⟩ := hv
  obtain ⟨hK, hAO, hN⟩ := id hZ
  have hx := B.exec
  have hb := B.bytes
  have hr := B.returns
  have hts := atoms_spec (ws := vsX12_isPlayer) B.pre
  have hown : s.vm.findClass RX12 = some m.cls := findClass_of_methodNamed B.named
  have hlocks := B.notSynchronized
  subst hsz
  have hD := hD0.self (sz := s.heap.size)
  generalize hAe : va_A [(h0, .inr (12, [.ref h1, .ref h2, .ref h3, .ref h4, .ref h5, .ref h6, .ref h7, .ref h8, .ref h9, .int 0, .int 0, .int 10, .int 0, .int 0, .int (-9), .int 0, .ref h10, .ref h11, .ref h12, .ref h13, .int 0, .int 0, .int 0, .ref h14, .int 0, .int 0, .int 0, .int (-9), .int 0, .ref h15, .int 0, .int 0, .int 0, .ref h16, .ref h17, .ref h18, .int 0, .int 0]))] s.heap.size = A at hD ⊢
  have hA : ∀ q : Nat, s.heap.size ≤ q → A q := fun q h => by rw [← hAe]; exact Or.inr h
  have hS : va_S A s.heap s.heap [] := va_S.rf
  have hP : va_P (dC, dI) vwCl [(h0, .inr (12, [.ref h1, .ref h2, .ref h3, .ref h4, .ref h5, .ref h6, .ref h7, .ref h8, .ref h9, .int 0, .int 0, .int 10, .int 0, .int 0, .int (-9), .int 0, .ref h10, .ref h11, .ref h12, .ref h13, .int 0, .int 0, .int 0, .ref h14, .int 0, .int 0, .int 0, .int (-9), .int 0, .ref h15, .int 0, .int 0, .int 0, .ref h16, .ref h17, .ref h18, .int 0, .int 0]))] s.heap := hP
  have hl := lv_entry ([.ref h0, .int p0]) (n := 2) (Nat.le_of_ble_eq_true rfl)
  rw [lg_entry_eq]
  generalize (lg_sl ([.ref h0, .int p0]) ++ List.replicate (2 - (lg_sl ([.ref h0, .int p0])).length) Slot.unset).toArray = ls at hl ⊢
  have hl : lv_has ls 2 [(0, .ref h0), (1, .int p0)] := hl
  refine lv_iload_n hx hb dX12_isPlayer_0 rfl (lv_at hl 1 rfl) ?_
  refine lv_if_lt (tgt := 16) hx hb dX12_isPlayer_1 (by decide) (fun hc => ?_) (fun hc => ?_)
  · exact absurd ((fa_lt _ _).mp hc) (by rw [show (0 : Int32).toInt = 0 from by decide]; omega)
  refine lv_iload_n hx hb dX12_isPlayer_4 rfl (lv_at hl 1 rfl) ?_
  refine lv_aload_n hx hb dX12_isPlayer_5 rfl (lv_at hl 0 rfl) ?_
  refine va_get (D := (dC, dI)) (ci := 12) (v := .int 0) (C := RX12) (T := TX12) (N := 38) hx hb hts in_X12_isPlayer_X12 hown hK hP 0 rfl rfl 9 (by decide) (hts (.fieldLink RX12 76 "EachOnHisCueModel" "players" "I") (by decide +kernel)) (fun _ h9 => h9) rfl dX12_isPlayer_6 ?_
  refine lv_icmp_ge (tgt := 16) hx hb dX12_isPlayer_9 (by decide) (fun hc => ?_) (fun hc => ?_)
  rotate_left; exact absurd ((fa_le _ _).mpr (by rw [show (0 : Int32).toInt = 0 from by decide]; omega)) hc
  refine lv_iconst (v := 0) hx hb dX12_isPlayer_16 (by decide) ?_
  have hP9 := hP.sub (ws' := [(h0, .inr (12, [.ref h1, .ref h2, .ref h3, .ref h4, .ref h5, .ref h6, .ref h7, .ref h8, .ref h9, .int 0, .int 0, .int 10, .int 0, .int 0, .int (-9), .int 0, .ref h10, .ref h11, .ref h12, .ref h13, .int 0, .int 0, .int 0, .ref h14, .int 0, .int 0, .int 0, .int (-9), .int 0, .ref h15, .int 0, .int 0, .int 0, .ref h16, .ref h17, .ref h18, .int 0, .int 0]))]) [0] rfl
  have hD9 := hD.sub (ws' := [(h0, .inr (12, [.ref h1, .ref h2, .ref h3, .ref h4, .ref h5, .ref h6, .ref h7, .ref h8, .ref h9, .int 0, .int 0, .int 10, .int 0, .int 0, .int (-9), .int 0, .ref h10, .ref h11, .ref h12, .ref h13, .int 0, .int 0, .int 0, .ref h14, .int 0, .int 0, .int 0, .int (-9), .int 0, .ref h15, .int 0, .int 0, .int 0, .ref h16, .ref h17, .ref h18, .int 0, .int 0]))]) [0] (by decide) rfl
  exact W.zret (v := 0) hx hb hr rfl (fun t ht hW => ⟨⟨0, (fun k => [].getD k 0), rfl, rfl, by rw [ht]; exact hP9, hD9⟩, hS.F ht⟩) hS.2.2 dX12_isPlayer_17
set_option maxHeartbeats 4000000 in
set_option maxRecDepth 100000 in
theorem kX12_no_3 (l : Launch) (dC : Nat → ClassId) (dI : Nat → Nat → Nat) (cI cQ : ClassId) (h0 h1 h2 h3 h4 h5 h6 h7 h8 h9 h10 h11 h12 h13 h14 h15 h16 h17 h18 : Nat) (sz : Nat) : Met l yX12_no vsX12_no ({ frames := 0, cells := 0, slots := 0, locals := 0 }) (va_Pc [.ref h0, .int (-1)] (zB dC dI cI cQ [(h1, .inl (cI, 7, .inl (fun _ => 0))), (h0, .inr (12, [.ref h1, .ref h2, .ref h3, .ref h4, .ref h5, .ref h6, .ref h7, .ref h8, .ref h9, .int 0, .int 0, .int 10, .int 0, .int 0, .int (-9), .int 0, .ref h10, .ref h11, .ref h12, .ref h13, .int 0, .int 0, .int 0, .ref h14, .int 0, .int 0, .int 0, .int (-9), .int 0, .ref h15, .int 0, .int 0, .int 0, .ref h16, .ref h17, .ref h18, .int 0, .int 0]))] sz)) (zQi dC dI (va_A [(h1, .inl (cI, 7, .inl (fun _ => 0))), (h0, .inr (12, [.ref h1, .ref h2, .ref h3, .ref h4, .ref h5, .ref h6, .ref h7, .ref h8, .ref h9, .int 0, .int 0, .int 10, .int 0, .int 0, .int (-9), .int 0, .ref h10, .ref h11, .ref h12, .ref h13, .int 0, .int 0, .int 0, .ref h14, .int 0, .int 0, .int 0, .int (-9), .int 0, .ref h15, .int 0, .int 0, .int 0, .ref h16, .ref h17, .ref h18, .int 0, .int 0]))] sz) (fun ad => [(h1, .inl (cI, 7, .inl (upd (fun _ => 0) 1 1))), (h0, .inr (12, [.ref h1, .ref h2, .ref h3, .ref h4, .ref h5, .ref h6, .ref h7, .ref h8, .ref h9, .int 0, .int 0, .int 10, .int 0, .int 0, .int (-9), .int 0, .ref h10, .ref h11, .ref h12, .ref h13, .int 0, .int 0, .int 0, .ref h14, .int 0, .int 0, .int 0, .int (-9), .int 0, .ref h15, .int 0, .int 0, .int 0, .ref h16, .ref h17, .ref h18, .int 0, .int 0]))]) (-1)) 0 0 (va_A [(h1, .inl (cI, 7, .inl (fun _ => 0))), (h0, .inr (12, [.ref h1, .ref h2, .ref h3, .ref h4, .ref h5, .ref h6, .ref h7, .ref h8, .ref h9, .int 0, .int 0, .int 10, .int 0, .int 0, .int (-9), .int 0, .ref h10, .ref h11, .ref h12, .ref h13, .int 0, .int 0, .int 0, .ref h14, .int 0, .int 0, .int 0, .int (-9), .int 0, .ref h15, .int 0, .int 0, .int 0, .ref h16, .ref h17, .ref h18, .int 0, .int 0]))] sz) := by
  refine Met.ofW (cc := cX12_no) (maxL := 2) (ret := (some .int)) (by decide) rfl ?_
  intro p e s m args below meth c s₁ B hml hv
  obtain ⟨rfl, hsz, hP, hZ, hD0⟩ := hv
  obtain ⟨hK, hAO, hN⟩ := id hZ
  have hx := B.exec
  have hb := B.bytes
  have hr := B.returns
  have hts := atoms_spec (ws := vsX12_no) B.pre
  have hown : s.vm.findClass RX12 = some m.cls := findClass_of_methodNamed B.named
  have hlocks := B.notSynchronized
  subst hsz
  have hD := hD0.self (sz := s.heap.size)
  generalize hAe : va_A [(h1, .inl (cI, 7, .inl (fun _ => 0))), (h0, .inr (12, [.ref h1, .ref h2, .ref h3, .ref h4, .ref h5, .ref h6, .ref h7, .ref h8, .ref h9, .int 0, .int 0, .int 10, .int 0, .int 0, .int (-9), .int 0, .ref h10, .ref h11, .ref h12, .ref h13, .int 0, .int 0, .int 0, .ref h14, .int 0, .int 0, .int 0, .int (-9), .int 0, .ref h15, .int 0, .int 0, .int 0, .ref h16, .ref h17, .ref h18, .int 0, .int 0]))] s.heap.size = A at hD ⊢
  have hA : ∀ q : Nat, s.heap.size ≤ q → A q := fun q h => by rw [← hAe]; exact Or.inr h
  have hS : va_S A s.heap s.heap [] := va_S.rf
  have hP : va_P (dC, dI) vwCl [(h1, .inl (cI, 7, .inl (fun _ => 0))), (h0, .inr (12, [.ref h1, .ref h2, .ref h3, .ref h4, .ref h5, .ref h6, .ref h7, .ref h8, .ref h9, .int 0, .int 0, .int 10, .int 0, .int 0, .int (-9), .int 0, .ref h10, .ref h11, .ref h12, .ref h13, .int 0, .int 0, .int 0, .ref h14, .int 0, .int 0, .int 0, .int (-9), .int 0, .ref h15, .int 0, .int 0, .int 0, .ref h16, .ref h17, .ref h18, .int 0, .int 0]))] s.heap := hP
  have hl := lv_entry ([.ref h0, .int (-1)]) (n := 2) (Nat.le_of_ble_eq_true rfl)
  rw [lg_entry_eq]
  generalize (lg_sl ([.ref h0, .int (-1)]) ++ List.replicate (2 - (lg_sl ([.ref h0, .int (-1)])).length) Slot.unset).toArray = ls at hl ⊢
  have hl : lv_has ls 2 [(0, .ref h0), (1, .int (-1))] := hl
  refine lv_aload_n hx hb dX12_no_0 rfl (lv_at hl 0 rfl) ?_
  refine va_get (D := (dC, dI)) (ci := 12) (v := .ref h1) (C := RX12) (T := TX12) (N := 38) hx hb hts in_X12_no_X12 hown hK hP 1 rfl rfl 0 (by decide) (hts (.fieldLink RX12 7 "EachOnHisCueModel" "refused" "[I") (by decide +kernel)) (fun _ h9 => h9) rfl dX12_no_1 ?_
  refine lv_iload_n hx hb dX12_no_4 rfl (lv_at hl 1 rfl) ?_
  refine lv_ineg hx hb dX12_no_5 ?_
  refine lv_topi (fun y1 ey1 => ?_)
  obtain rfl : y1 = 1 := ey1.trans (by decide)
  refine lv_dup2_11 hx hb dX12_no_6 rfl rfl ?_
  refine va_iald hx hb hK hP 0 0 rfl rfl (by unfold vp_in; decide) dX12_no_7 ?_
  refine lv_topi (fun y2 ey2 => ?_)
  obtain rfl : y2 = 0 := ey2.trans (by first | rfl | decide)
  refine lv_iconst (v := 1) hx hb dX12_no_8 (by decide) ?_
  refine lv_iadd hx hb dX12_no_9 ?_
  refine lv_topi (fun y3 ey3 => ?_)
  obtain rfl : y3 = 1 := ey3.trans (by decide)
  refine va_iast hx hb hK hP hD hS 0 0 rfl rfl (by unfold vp_in; decide) dX12_no_10 (fun H locs hP hD hS => ?_)
  have hP : va_P (dC, dI) vwCl [(h1, .inl (cI, 7, .inl (upd (fun _ => 0) 1 1))), (h0, .inr (12, [.ref h1, .ref h2, .ref h3, .ref h4, .ref h5, .ref h6, .ref h7, .ref h8, .ref h9, .int 0, .int 0, .int 10, .int 0, .int 0, .int (-9), .int 0, .ref h10, .ref h11, .ref h12, .ref h13, .int 0, .int 0, .int 0, .ref h14, .int 0, .int 0, .int 0, .int (-9), .int 0, .ref h15, .int 0, .int 0, .int 0, .ref h16, .ref h17, .ref h18, .int 0, .int 0]))] H := hP
  have hD : va_D A [(h1, .inl (cI, 7, .inl (upd (fun _ => 0) 1 1))), (h0, .inr (12, [.ref h1, .ref h2, .ref h3, .ref h4, .ref h5, .ref h6, .ref h7, .ref h8, .ref h9, .int 0, .int 0, .int 10, .int 0, .int 0, .int (-9), .int 0, .ref h10, .ref h11, .ref h12, .ref h13, .int 0, .int 0, .int 0, .ref h14, .int 0, .int 0, .int 0, .int (-9), .int 0, .ref h15, .int 0, .int 0, .int 0, .ref h16, .ref h17, .ref h18, .int 0, .int 0]))] := hD
  refine lv_iload_n hx hb dX12_no_11 rfl (lv_at hl 1 rfl) ?_
  have hP9 := hP.sub (ws' := [(h1, .inl (cI, 7, .inl (upd (fun _ => 0) 1 1))), (h0, .inr (12, [.ref h1, .ref h2, .ref h3, .ref h4, .ref h5, .ref h6, .ref h7, .ref h8, .ref h9, .int 0, .int 0, .int 10, .int 0, .int 0, .int (-9), .int 0, .ref h10, .ref h11, .ref h12, .ref h13, .int 0, .int 0, .int 0, .ref h14, .int 0, .int 0, .int 0, .int (-9), .int 0, .ref h15, .int 0, .int 0, .int 0, .ref h16, .ref h17, .ref h18, .int 0, .int 0]))]) [0, 1] rfl
  have hD9 := hD.sub (ws' := [(h1, .inl (cI, 7, .inl (upd (fun _ => 0) 1 1))), (h0, .inr (12, [.ref h1, .ref h2, .ref h3, .ref h4, .ref h5, .ref h6, .ref h7, .ref h8, .ref h9, .int 0, .int 0, .int 10, .int 0, .int 0, .int (-9), .int 0, .ref h10, .ref h11, .ref h12, .ref h13, .int 0, .int 0, .int 0, .ref h14, .int 0, .int 0, .int 0, .int (-9), .int 0, .ref h15, .int 0, .int 0, .int 0, .ref h16, .ref h17, .ref h18, .int 0, .int 0]))]) [0, 1] (by decide) rfl
  exact W.iret (v := (-1)) hx hb hr (fun t ht hW => ⟨⟨(-1), (fun k => [].getD k 0), rfl, rfl, by rw [ht]; exact hP9, hD9⟩, hS.F ht⟩) hS.2.2 dX12_no_12
set_option maxHeartbeats 4000000 in
set_option maxRecDepth 100000 in
theorem kX12_player_1 (l : Launch) (dC : Nat → ClassId) (dI : Nat → Nat → Nat) (cI cQ : ClassId) (h0 h1 h2 h3 h4 h5 h6 h7 h8 h9 h10 h11 h12 h13 h14 h15 h16 h17 h18 : Nat) (p0 : Int32) (hp0l : 0 ≤ p0.toInt) (hp0h : p0.toInt ≤ 2147483647) (p1 : Int32) (hp1l : -2147483648 ≤ p1.toInt) (hp1h : p1.toInt ≤ 2147483647) (sz : Nat) : Met l yX12_player vsX12_player ({ frames := 1, cells := 0, slots := 0, locals := 21 }) (va_Pc [.ref h0, .int p0, .int p1] (zB dC dI cI cQ [(h0, .inr (12, [.ref h1, .ref h2, .ref h3, .ref h4, .ref h5, .ref h6, .ref h7, .ref h8, .ref h9, .int 0, .int 0, .int 10, .int 0, .int 0, .int (-9), .int 0, .ref h10, .ref h11, .ref h12, .ref h13, .int 0, .int 0, .int 0, .ref h14, .int 0, .int 0, .int 0, .int (-9), .int 0, .ref h15, .int 0, .int 0, .int 0, .ref h16, .ref h17, .ref h18, .int 0, .int 0])), (h1, .inl (cI, 7, .inl (fun _ => 0)))] sz)) (zQi dC dI (va_A [(h0, .inr (12, [.ref h1, .ref h2, .ref h3, .ref h4, .ref h5, .ref h6, .ref h7, .ref h8, .ref h9, .int 0, .int 0, .int 10, .int 0, .int 0, .int (-9), .int 0, .ref h10, .ref h11, .ref h12, .ref h13, .int 0, .int 0, .int 0, .ref h14, .int 0, .int 0, .int 0, .int (-9), .int 0, .ref h15, .int 0, .int 0, .int 0, .ref h16, .ref h17, .ref h18, .int 0, .int 0])), (h1, .inl (cI, 7, .inl (fun _ => 0)))] sz) (fun ad => []) (-1)) 0 0 (va_A [(h0, .inr (12, [.ref h1, .ref h2, .ref h3, .ref h4, .ref h5, .ref h6, .ref h7, .ref h8, .ref h9, .int 0, .int 0, .int 10, .int 0, .int 0, .int (-9), .int 0, .ref h10, .ref h11, .ref h12, .ref h13, .int 0, .int 0, .int 0, .ref h14, .int 0, .int 0, .int 0, .int (-9), .int 0, .ref h15, .int 0, .int 0, .int 0, .ref h16, .ref h17, .ref h18, .int 0, .int 0])), (h1, .inl (cI, 7, .inl (fun _ => 0)))] sz) := by
  refine Met.ofW (cc := cX12_player) (maxL := 3) (ret := (some .int)) (by decide) rfl ?_
  intro p e s m args below meth c s₁ B hml hv
  obtain ⟨rfl, hsz, hP, hZ, hD0⟩ := hv
  obtain ⟨hK, hAO, hN⟩ := id hZ
  have hx := B.exec
  have hb := B.bytes
  have hr := B.returns
  have hts := atoms_spec (ws := vsX12_player) B.pre
  have hown : s.vm.findClass RX12 = some m.cls := findClass_of_methodNamed B.named
  have hlocks := B.notSynchronized
  subst hsz
  have hD := hD0.self (sz := s.heap.size)
  generalize hAe : va_A [(h0, .inr (12, [.ref h1, .ref h2, .ref h3, .ref h4, .ref h5, .ref h6, .ref h7, .ref h8, .ref h9, .int 0, .int 0, .int 10, .int 0, .int 0, .int (-9), .int 0, .ref h10, .ref h11, .ref h12, .ref h13, .int 0, .int 0, .int 0, .ref h14, .int 0, .int 0, .int 0, .int (-9), .int 0, .ref h15, .int 0, .int 0, .int 0, .ref h16, .ref h17, .ref h18, .int 0, .int 0])), (h1, .inl (cI, 7, .inl (fun _ => 0)))] s.heap.size = A at hD ⊢
  have hA : ∀ q : Nat, s.heap.size ≤ q → A q := fun q h => by rw [← hAe]; exact Or.inr h
  have hS : va_S A s.heap s.heap [] := va_S.rf
  have hP : va_P (dC, dI) vwCl [(h0, .inr (12, [.ref h1, .ref h2, .ref h3, .ref h4, .ref h5, .ref h6, .ref h7, .ref h8, .ref h9, .int 0, .int 0, .int 10, .int 0, .int 0, .int (-9), .int 0, .ref h10, .ref h11, .ref h12, .ref h13, .int 0, .int 0, .int 0, .ref h14, .int 0, .int 0, .int 0, .int (-9), .int 0, .ref h15, .int 0, .int 0, .int 0, .ref h16, .ref h17, .ref h18, .int 0, .int 0])), (h1, .inl (cI, 7, .inl (fun _ => 0)))] s.heap := hP
  have hl := lv_entry ([.ref h0, .int p0, .int p1]) (n := 3) (Nat.le_of_ble_eq_true rfl)
  rw [lg_entry_eq]
  generalize (lg_sl ([.ref h0, .int p0, .int p1]) ++ List.replicate (3 - (lg_sl ([.ref h0, .int p0, .int p1])).length) Slot.unset).toArray = ls at hl ⊢
  have hl : lv_has ls 3 [(0, .ref h0), (1, .int p0), (2, .int p1)] := hl
  refine lv_aload_n hx hb dX12_player_0 rfl (lv_at hl 0 rfl) ?_
  refine lv_iload_n hx hb dX12_player_1 rfl (lv_at hl 1 rfl) ?_
  refine z_calli (wc := [(h0, .inr (12, [.ref h1, .ref h2, .ref h3, .ref h4, .ref h5, .ref h6, .ref h7, .ref h8, .ref h9, .int 0, .int 0, .int 10, .int 0, .int 0, .int (-9), .int 0, .ref h10, .ref h11, .ref h12, .ref h13, .int 0, .int 0, .int 0, .ref h14, .int 0, .int 0, .int 0, .int (-9), .int 0, .ref h15, .int 0, .int 0, .int 0, .ref h16, .ref h17, .ref h18, .int 0, .int 0]))]) (wr := [(h1, .inl (cI, 7, .inl (fun _ => 0)))]) (w1 := (fun _ => [(h0, .inr (12, [.ref h1, .ref h2, .ref h3, .ref h4, .ref h5, .ref h6, .ref h7, .ref h8, .ref h9, .int 0, .int 0, .int 10, .int 0, .int 0, .int (-9), .int 0, .ref h10, .ref h11, .ref h12, .ref h13, .int 0, .int 0, .int 0, .ref h14, .int 0, .int 0, .int 0, .int (-9), .int 0, .ref h15, .int 0, .int 0, .int 0, .ref h16, .ref h17, .ref h18, .int 0, .int 0]))])) (va_runV (As := [.int p0]) (rest := []) ⟨hx, hb, hml, hown, hts⟩ (kX12_isPlayer_1 l dC dI cI cQ h0 h1 h2 h3 h4 h5 h6 h7 h8 h9 h10 h11 h12 h13 h14 h15 h16 h17 h18 p0 hp0l hp0h s.heap.size) (cwV 1 hts gv_X12_player_X12_isPlayer_117 rfl rfl rfl (by decide +kernel) ⟨Nat.le_of_ble_eq_true rfl, Nat.le_of_ble_eq_true rfl⟩) ⟨z_blind, va_recv hK hP (ci := 12) (q0 := 0) rfl rfl, z_pre hZ hP hD [0] rfl (by decide)⟩ rfl rfl hl.1 rfl (lv_room (Nat.le_of_ble_eq_true rfl)) dX12_player_2 ⟨Nat.le_of_ble_eq_true rfl, Nat.le_of_ble_eq_true rfl⟩) hP hD hS hA [0] [1] rfl rfl (by decide) (by decide) (fun _ H locs hP hD hS => ?_)
  have hP : va_P (dC, dI) vwCl [(h1, .inl (cI, 7, .inl (fun _ => 0))), (h0, .inr (12, [.ref h1, .ref h2, .ref h3, .ref h4, .ref h5, .ref h6, .ref h7, .ref h8, .ref h9, .int 0, .int 0, .int 10, .int 0, .int 0, .int (-9), .int 0, .ref h10, .ref h11, .ref h12, .ref h13, .int 0, .int 0, .int 0, .ref h14, .int 0, .int 0, .int 0, .int (-9), .int 0, .ref h15, .int 0, .int 0, .int 0, .ref h16, .ref h17, .ref h18, .int 0, .int 0]))] H := hP
  have hD : va_D A [(h1, .inl (cI, 7, .inl (fun _ => 0))), (h0, .inr (12, [.ref h1, .ref h2, .ref h3, .ref h4, .ref h5, .ref h6, .ref h7, .ref h8, .ref h9, .int 0, .int 0, .int 10, .int 0, .int 0, .int (-9), .int 0, .ref h10, .ref h11, .ref h12, .ref h13, .int 0, .int 0, .int 0, .ref h14, .int 0, .int 0, .int 0, .int (-9), .int 0, .ref h15, .int 0, .int 0, .int 0, .ref h16, .ref h17, .ref h18, .int 0, .int 0]))] := hD
  refine lv_if_ne (tgt := 14) hx hb dX12_player_5 (by decide) (fun hc => ?_) (fun hc => ?_)
  · exact absurd hc (by decide)
  refine lv_aload_n hx hb dX12_player_8 rfl (lv_at hl 0 rfl) ?_
  refine lv_iconst (v := (-1)) hx hb dX12_player_9 (by decide) ?_
  refine z_calli (wc := [(h1, .inl (cI, 7, .inl (fun _ => 0))), (h0, .inr (12, [.ref h1, .ref h2, .ref h3, .ref h4, .ref h5, .ref h6, .ref h7, .ref h8, .ref h9, .int 0, .int 0, .int 10, .int 0, .int 0, .int (-9), .int 0, .ref h10, .ref h11, .ref h12, .ref h13, .int 0, .int 0, .int 0, .ref h14, .int 0, .int 0, .int 0, .int (-9), .int 0, .ref h15, .int 0, .int 0, .int 0, .ref h16, .ref h17, .ref h18, .int 0, .int 0]))]) (wr := []) (w1 := (fun _ => [(h1, .inl (cI, 7, .inl (upd (fun _ => 0) 1 1))), (h0, .inr (12, [.ref h1, .ref h2, .ref h3, .ref h4, .ref h5, .ref h6, .ref h7, .ref h8, .ref h9, .int 0, .int 0, .int 10, .int 0, .int 0, .int (-9), .int 0, .ref h10, .ref h11, .ref h12, .ref h13, .int 0, .int 0, .int 0, .ref h14, .int 0, .int 0, .int 0, .int (-9), .int 0, .ref h15, .int 0, .int 0, .int 0, .ref h16, .ref h17, .ref h18, .int 0, .int 0]))])) (va_runV (As := [.int (-1)]) (rest := []) ⟨hx, hb, hml, hown, hts⟩ (kX12_no_3 l dC dI cI cQ h0 h1 h2 h3 h4 h5 h6 h7 h8 h9 h10 h11 h12 h13 h14 h15 h16 h17 h18 H.size) (cwV 1 hts gv_X12_player_X12_no_89 rfl rfl rfl (by decide +kernel) ⟨Nat.le_of_ble_eq_true rfl, Nat.le_of_ble_eq_true rfl⟩) ⟨z_blind, va_recv hK hP (ci := 12) (q0 := 1) rfl rfl, z_pre hZ hP hD [0, 1] rfl (by decide)⟩ rfl rfl hl.1 rfl (lv_room (Nat.le_of_ble_eq_true rfl)) dX12_player_10 ⟨Nat.le_of_ble_eq_true rfl, Nat.le_of_ble_eq_true rfl⟩) hP hD hS hA [0, 1] [] rfl rfl (by decide) (by decide) (fun _ H locs hP hD hS => ?_)
  have hP : va_P (dC, dI) vwCl [(h1, .inl (cI, 7, .inl (upd (fun _ => 0) 1 1))), (h0, .inr (12, [.ref h1, .ref h2, .ref h3, .ref h4, .ref h5, .ref h6, .ref h7, .ref h8, .ref h9, .int 0, .int 0, .int 10, .int 0, .int 0, .int (-9), .int 0, .ref h10, .ref h11, .ref h12, .ref h13, .int 0, .int 0, .int 0, .ref h14, .int 0, .int 0, .int 0, .int (-9), .int 0, .ref h15, .int 0, .int 0, .int 0, .ref h16, .ref h17, .ref h18, .int 0, .int 0]))] H := hP
  have hD : va_D A [(h1, .inl (cI, 7, .inl (upd (fun _ => 0) 1 1))), (h0, .inr (12, [.ref h1, .ref h2, .ref h3, .ref h4, .ref h5, .ref h6, .ref h7, .ref h8, .ref h9, .int 0, .int 0, .int 10, .int 0, .int 0, .int (-9), .int 0, .ref h10, .ref h11, .ref h12, .ref h13, .int 0, .int 0, .int 0, .ref h14, .int 0, .int 0, .int 0, .int (-9), .int 0, .ref h15, .int 0, .int 0, .int 0, .ref h16, .ref h17, .ref h18, .int 0, .int 0]))] := hD
  have hP9 := hP.sub (ws' := []) [] rfl
  have hD9 := hD.sub (ws' := []) [] (by decide) rfl
  exact W.iret (v := (-1)) hx hb hr (fun t ht hW => ⟨⟨(-1), (fun k => [].getD k 0), rfl, rfl, by rw [ht]; exact hP9, hD9⟩, hS.F ht⟩) hS.2.2 dX12_player_13
set_option maxHeartbeats 4000000 in
set_option maxRecDepth 100000 in
theorem kX12_isLine (l : Launch) (dC : Nat → ClassId) (dI : Nat → Nat → Nat) (cI cQ : ClassId) (h0 : Nat) (p0 : Int32) (hp0l : -2147483648 ≤ p0.toInt) (hp0h : p0.toInt ≤ -1) (sz : Nat) : Met l yX12_isLine vsX12_isLine ({ frames := 0, cells := 0, slots := 0, locals := 0 }) (va_Pc [.ref h0, .int p0] (zB dC dI cI cQ [] sz)) (zQi dC dI (va_A [] sz) (fun ad => []) 0) 0 0 (va_A [] sz) := by
  refine Met.ofW (cc := cX12_isLine) (maxL := 2) (ret := (some .boolean)) (by decide) rfl ?_
  intro p e s m args below meth c s₁ B hml hv
  obtain ⟨rfl, hsz, hP, hZ, hD0⟩ := hv
  obtain ⟨hK, hAO, hN⟩ := id hZ
  have hx := B.exec
  have hb := B.bytes
  have hr := B.returns
  have hts := atoms_spec (ws := vsX12_isLine) B.pre
  have hown : s.vm.findClass RX12 = some m.cls := findClass_of_methodNamed B.named
  have hlocks := B.notSynchronized
  subst hsz
  have hD := hD0.self (sz := s.heap.size)
  generalize hAe : va_A [] s.heap.size = A at hD ⊢
  have hA : ∀ q : Nat, s.heap.size ≤ q → A q := fun q h => by rw [← hAe]; exact Or.inr h
  have hS : va_S A s.heap s.heap [] := va_S.rf
  have hP : va_P (dC, dI) vwCl [] s.heap := hP
  have hl := lv_entry ([.ref h0, .int p0]) (n := 2) (Nat.le_of_ble_eq_true rfl)
  rw [lg_entry_eq]
  generalize (lg_sl ([.ref h0, .int p0]) ++ List.replicate (2 - (lg_sl ([.ref h0, .int p0])).length) Slot.unset).toArray = ls at hl ⊢
  have hl : lv_has ls 2 [(0, .ref h0), (1, .int p0)] := hl
  refine lv_iload_n hx hb dX12_isLine_0 rfl (lv_at hl 1 rfl) ?_
  refine lv_if_lt (tgt := 16) hx hb dX12_isLine_1 (by decide) (fun hc => ?_) (fun hc => ?_)
  rotate_left; exact absurd ((fa_lt _ _).mpr (by rw [show (0 : Int32).toInt = 0 from by decide]; omega)) hc
  refine lv_iconst (v := 0) hx hb dX12_isLine_16 (by decide) ?_
  have hP9 := hP.sub (ws' := []) [] rfl
  have hD9 := hD.sub (ws' := []) [] (by decide) rfl
  exact W.zret (v := 0) hx hb hr rfl (fun t ht hW => ⟨⟨0, (fun k => [].getD k 0), rfl, rfl, by rw [ht]; exact hP9, hD9⟩, hS.F ht⟩) hS.2.2 dX12_isLine_17
set_option maxHeartbeats 4000000 in
set_option maxRecDepth 100000 in
theorem kX12_line (l : Launch) (dC : Nat → ClassId) (dI : Nat → Nat → Nat) (cI cQ : ClassId) (h0 h1 h2 h3 h4 h5 h6 h7 h8 h9 h10 h11 h12 h13 h14 h15 h16 h17 h18 : Nat) (p0 : Int32) (hp0l : -2147483648 ≤ p0.toInt) (hp0h : p0.toInt ≤ -1) (p1 : Int32) (hp1l : -2147483648 ≤ p1.toInt) (hp1h : p1.toInt ≤ 2147483647) (sz : Nat) : Met l yX12_line vsX12_line ({ frames := 1, cells := 0, slots := 0, locals := 21 }) (va_Pc [.ref h0, .int p0, .int p1] (zB dC dI cI cQ [(h0, .inr (12, [.ref h1, .ref h2, .ref h3, .ref h4, .ref h5, .ref h6, .ref h7, .ref h8, .ref h9, .int 0, .int 0, .int 10, .int 0, .int 0, .int (-9), .int 0, .ref h10, .ref h11, .ref h12, .ref h13, .int 0, .int 0, .int 0, .ref h14, .int 0, .int 0, .int 0, .int (-9), .int 0, .ref h15, .int 0, .int 0, .int 0, .ref h16, .ref h17, .ref h18, .int 0, .int 0])), (h1, .inl (cI, 7, .inl (fun _ => 0)))] sz)) (zQi dC dI (va_A [(h0, .inr (12, [.ref h1, .ref h2, .ref h3, .ref h4, .ref h5, .ref h6, .ref h7, .ref h8, .ref h9, .int 0, .int 0, .int 10, .int 0, .int 0, .int (-9), .int 0, .ref h10, .ref h11, .ref h12, .ref h13, .int 0, .int 0, .int 0, .ref h14, .int 0, .int 0, .int 0, .int (-9), .int 0, .ref h15, .int 0, .int 0, .int 0, .ref h16, .ref h17, .ref h18, .int 0, .int 0])), (h1, .inl (cI, 7, .inl (fun _ => 0)))] sz) (fun ad => []) (-1)) 0 0 (va_A [(h0, .inr (12, [.ref h1, .ref h2, .ref h3, .ref h4, .ref h5, .ref h6, .ref h7, .ref h8, .ref h9, .int 0, .int 0, .int 10, .int 0, .int 0, .int (-9), .int 0, .ref h10, .ref h11, .ref h12, .ref h13, .int 0, .int 0, .int 0, .ref h14, .int 0, .int 0, .int 0, .int (-9), .int 0, .ref h15, .int 0, .int 0, .int 0, .ref h16, .ref h17, .ref h18, .int 0, .int 0])), (h1, .inl (cI, 7, .inl (fun _ => 0)))] sz) := by
  refine Met.ofW (cc := cX12_line) (maxL := 3) (ret := (some .int)) (by decide) rfl ?_
  intro p e s m args below meth c s₁ B hml hv
  obtain ⟨rfl, hsz, hP, hZ, hD0⟩ := hv
  obtain ⟨hK, hAO, hN⟩ := id hZ
  have hx := B.exec
  have hb := B.bytes
  have hr := B.returns
  have hts := atoms_spec (ws := vsX12_line) B.pre
  have hown : s.vm.findClass RX12 = some m.cls := findClass_of_methodNamed B.named
  have hlocks := B.notSynchronized
  subst hsz
  have hD := hD0.self (sz := s.heap.size)
  generalize hAe : va_A [(h0, .inr (12, [.ref h1, .ref h2, .ref h3, .ref h4, .ref h5, .ref h6, .ref h7, .ref h8, .ref h9, .int 0, .int 0, .int 10, .int 0, .int 0, .int (-9), .int 0, .ref h10, .ref h11, .ref h12, .ref h13, .int 0, .int 0, .int 0, .ref h14, .int 0, .int 0, .int 0, .int (-9), .int 0, .ref h15, .int 0, .int 0, .int 0, .ref h16, .ref h17, .ref h18, .int 0, .int 0])), (h1, .inl (cI, 7, .inl (fun _ => 0)))] s.heap.size = A at hD ⊢
  have hA : ∀ q : Nat, s.heap.size ≤ q → A q := fun q h => by rw [← hAe]; exact Or.inr h
  have hS : va_S A s.heap s.heap [] := va_S.rf
  have hP : va_P (dC, dI) vwCl [(h0, .inr (12, [.ref h1, .ref h2, .ref h3, .ref h4, .ref h5, .ref h6, .ref h7, .ref h8, .ref h9, .int 0, .int 0, .int 10, .int 0, .int 0, .int (-9), .int 0, .ref h10, .ref h11, .ref h12, .ref h13, .int 0, .int 0, .int 0, .ref h14, .int 0, .int 0, .int 0, .int (-9), .int 0, .ref h15, .int 0, .int 0, .int 0, .ref h16, .ref h17, .ref h18, .int 0, .int 0])), (h1, .inl (cI, 7, .inl (fun _ => 0)))] s.heap := hP
  have hl := lv_entry ([.ref h0, .int p0, .int p1]) (n := 3) (Nat.le_of_ble_eq_true rfl)
  rw [lg_entry_eq]
  generalize (lg_sl ([.ref h0, .int p0, .int p1]) ++ List.replicate (3 - (lg_sl ([.ref h0, .int p0, .int p1])).length) Slot.unset).toArray = ls at hl ⊢
  have hl : lv_has ls 3 [(0, .ref h0), (1, .int p0), (2, .int p1)] := hl
  refine lv_aload_n hx hb dX12_line_0 rfl (lv_at hl 0 rfl) ?_
  refine lv_iload_n hx hb dX12_line_1 rfl (lv_at hl 1 rfl) ?_
  refine z_calli (wc := []) (wr := [(h0, .inr (12, [.ref h1, .ref h2, .ref h3, .ref h4, .ref h5, .ref h6, .ref h7, .ref h8, .ref h9, .int 0, .int 0, .int 10, .int 0, .int 0, .int (-9), .int 0, .ref h10, .ref h11, .ref h12, .ref h13, .int 0, .int 0, .int 0, .ref h14, .int 0, .int 0, .int 0, .int (-9), .int 0, .ref h15, .int 0, .int 0, .int 0, .ref h16, .ref h17, .ref h18, .int 0, .int 0])), (h1, .inl (cI, 7, .inl (fun _ => 0)))]) (w1 := (fun _ => [])) (va_runV (As := [.int p0]) (rest := []) ⟨hx, hb, hml, hown, hts⟩ (kX12_isLine l dC dI cI cQ h0 p0 hp0l hp0h s.heap.size) (cwV 1 hts gv_X12_line_X12_isLine_169 rfl rfl rfl (by decide +kernel) ⟨Nat.le_of_ble_eq_true rfl, Nat.le_of_ble_eq_true rfl⟩) ⟨z_blind, va_recv hK hP (ci := 12) (q0 := 0) rfl rfl, z_pre hZ hP hD [] rfl (by decide)⟩ rfl rfl hl.1 rfl (lv_room (Nat.le_of_ble_eq_true rfl)) dX12_line_2 ⟨Nat.le_of_ble_eq_true rfl, Nat.le_of_ble_eq_true rfl⟩) hP hD hS hA [] [0, 1] rfl rfl (by decide) (by decide) (fun _ H locs hP hD hS => ?_)
  have hP : va_P (dC, dI) vwCl [(h0, .inr (12, [.ref h1, .ref h2, .ref h3, .ref h4, .ref h5, .ref h6, .ref h7, .ref h8, .ref h9, .int 0, .int 0, .int 10, .int 0, .int 0, .int (-9), .int 0, .ref h10, .ref h11, .ref h12, .ref h13, .int 0, .int 0, .int 0, .ref h14, .int 0, .int 0, .int 0, .int (-9), .int 0, .ref h15, .int 0, .int 0, .int 0, .ref h16, .ref h17, .ref h18, .int 0, .int 0])), (h1, .inl (cI, 7, .inl (fun _ => 0)))] H := hP
  have hD : va_D A [(h0, .inr (12, [.ref h1, .ref h2, .ref h3, .ref h4, .ref h5, .ref h6, .ref h7, .ref h8, .ref h9, .int 0, .int 0, .int 10, .int 0, .int 0, .int (-9), .int 0, .ref h10, .ref h11, .ref h12, .ref h13, .int 0, .int 0, .int 0, .ref h14, .int 0, .int 0, .int 0, .int (-9), .int 0, .ref h15, .int 0, .int 0, .int 0, .ref h16, .ref h17, .ref h18, .int 0, .int 0])), (h1, .inl (cI, 7, .inl (fun _ => 0)))] := hD
  refine lv_if_ne (tgt := 14) hx hb dX12_line_5 (by decide) (fun hc => ?_) (fun hc => ?_)
  · exact absurd hc (by decide)
  refine lv_aload_n hx hb dX12_line_8 rfl (lv_at hl 0 rfl) ?_
  refine lv_iconst (v := (-1)) hx hb dX12_line_9 (by decide) ?_
  refine z_calli (wc := [(h0, .inr (12, [.ref h1, .ref h2, .ref h3, .ref h4, .ref h5, .ref h6, .ref h7, .ref h8, .ref h9, .int 0, .int 0, .int 10, .int 0, .int 0, .int (-9), .int 0, .ref h10, .ref h11, .ref h12, .ref h13, .int 0, .int 0, .int 0, .ref h14, .int 0, .int 0, .int 0, .int (-9), .int 0, .ref h15, .int 0, .int 0, .int 0, .ref h16, .ref h17, .ref h18, .int 0, .int 0])), (h1, .inl (cI, 7, .inl (fun _ => 0)))]) (wr := []) (w1 := (fun _ => [(h0, .inr (12, [.ref h1, .ref h2, .ref h3, .ref h4, .ref h5, .ref h6, .ref h7, .ref h8, .ref h9, .int 0, .int 0, .int 10, .int 0, .int 0, .int (-9), .int 0, .ref h10, .ref h11, .ref h12, .ref h13, .int 0, .int 0, .int 0, .ref h14, .int 0, .int 0, .int 0, .int (-9), .int 0, .ref h15, .int 0, .int 0, .int 0, .ref h16, .ref h17, .ref h18, .int 0, .int 0])), (h1, .inl (cI, 7, .inl (upd (fun _ => 0) 1 1)))])) (va_runV (As := [.int (-1)]) (rest := []) ⟨hx, hb, hml, hown, hts⟩ (kX12_no_2 l dC dI cI cQ h0 h1 h2 h3 h4 h5 h6 h7 h8 h9 h10 h11 h12 h13 h14 h15 h16 h17 h18 H.size) (cwV 1 hts gv_X12_line_X12_no_89 rfl rfl rfl (by decide +kernel) ⟨Nat.le_of_ble_eq_true rfl, Nat.le_of_ble_eq_true rfl⟩) ⟨z_blind, va_recv hK hP (ci := 12) (q0 := 0) rfl rfl, z_pre hZ hP hD [0, 1] rfl (by decide)⟩ rfl rfl hl.1 rfl (lv_room (Nat.le_of_ble_eq_true rfl)) dX12_line_10 ⟨Nat.le_of_ble_eq_true rfl, Nat.le_of_ble_eq_true rfl⟩) hP hD hS hA [0, 1] [] rfl rfl (by decide) (by decide) (fun _ H locs hP hD hS => ?_)
  have hP : va_P (dC, dI) vwCl [(h0, .inr (12, [.ref h1, .ref h2, .ref h3, .ref h4, .ref h5, .ref h6, .ref h7, .ref h8, .ref h9, .int 0, .int 0, .int 10, .int 0, .int 0, .int (-9), .int 0, .ref h10, .ref h11, .ref h12, .ref h13, .int 0, .int 0, .int 0, .ref h14, .int 0, .int 0, .int 0, .int (-9), .int 0, .ref h15, .int 0, .int 0, .int 0, .ref h16, .ref h17, .ref h18, .int 0, .int 0])), (h1, .inl (cI, 7, .inl (upd (fun _ => 0) 1 1)))] H := hP
  have hD : va_D A [(h0, .inr (12, [.ref h1, .ref h2, .ref h3, .ref h4, .ref h5, .ref h6, .ref h7, .ref h8, .ref h9, .int 0, .int 0, .int 10, .int 0, .int 0, .int (-9), .int 0, .ref h10, .ref h11, .ref h12, .ref h13, .int 0, .int 0, .int 0, .ref h14, .int 0, .int 0, .int 0, .int (-9), .int 0, .ref h15, .int 0, .int 0, .int 0, .ref h16, .ref h17, .ref h18, .int 0, .int 0])), (h1, .inl (cI, 7, .inl (upd (fun _ => 0) 1 1)))] := hD
  have hP9 := hP.sub (ws' := []) [] rfl
  have hD9 := hD.sub (ws' := []) [] (by decide) rfl
  exact W.iret (v := (-1)) hx hb hr (fun t ht hW => ⟨⟨(-1), (fun k => [].getD k 0), rfl, rfl, by rw [ht]; exact hP9, hD9⟩, hS.F ht⟩) hS.2.2 dX12_line_13
set_option maxHeartbeats 4000000 in
set_option maxRecDepth 100000 in
theorem kX12_isLine_1 (l : Launch) (dC : Nat → ClassId) (dI : Nat → Nat → Nat) (cI cQ : ClassId) (h0 h1 h2 h3 h4 h5 h6 h7 h8 h9 h10 h11 h12 h13 h14 h15 h16 h17 h18 : Nat) (p0 : Int32) (hp0l : 0 ≤ p0.toInt) (hp0h : p0.toInt ≤ 2147483647) (sz : Nat) : Met l yX12_isLine vsX12_isLine ({ frames := 0, cells := 0, slots := 0, locals := 0 }) (va_Pc [.ref h0, .int p0] (zB dC dI cI cQ [(h0, .inr (12, [.ref h1, .ref h2, .ref h3, .ref h4, .ref h5, .ref h6, .ref h7, .ref h8, .ref h9, .int 0, .int 0, .int 10, .int 0, .int 0, .int (-9), .int 0, .ref h10, .ref h11, .ref h12, .ref h13, .int 0, .int 0, .int 0, .ref h14, .int 0, .int 0, .int 0, .int (-9), .int 0, .ref h15, .int 0, .int 0, .int 0, .ref h16, .ref h17, .ref h18, .int 0, .int 0]))] sz)) (zQi dC dI (va_A [(h0, .inr (12, [.ref h1, .ref h2, .ref h3, .ref h4, .ref h5, .ref h6, .ref h7, .ref h8, .ref h9, .int 0, .int 0, .int 10, .int 0, .int 0, .int (-9), .int 0, .ref h10, .ref h11, .ref h12, .ref h13, .int 0, .int 0, .int 0, .ref h14, .int 0, .int 0, .int 0, .int (-9), .int 0, .ref h15, .int 0, .int 0, .int 0, .ref h16, .ref h17, .ref h18, .int 0, .int 0]))] sz) (fun ad => [(h0, .inr (12, [.ref h1, .ref h2, .ref h3, .ref h4, .ref h5, .ref h6, .ref h7, .ref h8, .ref h9, .int 0, .int 0, .int 10, .int 0, .int 0, .int (-9), .int 0, .ref h10, .ref h11, .ref h12, .ref h13, .int 0, .int 0, .int 0, .ref h14, .int 0, .int 0, .int 0, .int (-9), .int 0, .ref h15, .int 0, .int 0, .int 0, .ref h16, .ref h17, .ref h18, .int 0, .int 0]))]) 0) 0 0 (va_A [(h0, .inr (12, [.ref h1, .ref h2, .ref h3, .ref h4, .ref h5, .ref h6, .ref h7, .ref h8, .ref h9, .int 0, .int 0, .int 10, .int 0, .int 0, .int (-9), .int 0, .ref h10, .ref h11, .ref h12, .ref h13, .int 0, .int 0, .int 0, .ref h14, .int 0, .int 0, .int 0, .int (-9), .int 0, .ref h15, .int 0, .int 0, .int 0, .ref h16, .ref h17, .ref h18, .int 0, .int 0]))] sz) := by
  refine Met.ofW (cc := cX12_isLine) (maxL := 2) (ret := (some .boolean)) (by decide) rfl ?_
  intro p e s m args below meth c s₁ B hml hv
  obtain ⟨rfl, hsz, hP, hZ, hD0⟩ := hv
  obtain ⟨hK, hAO, hN⟩ := id hZ
  have hx := B.exec
  have hb := B.bytes
  have hr := B.returns
  have hts := atoms_spec (ws := vsX12_isLine) B.pre
  have hown : s.vm.findClass RX12 = some m.cls := findClass_of_methodNamed B.named
  have hlocks := B.notSynchronized
  subst hsz
  have hD := hD0.self (sz := s.heap.size)
  generalize hAe : va_A [(h0, .inr (12, [.ref h1, .ref h2, .ref h3, .ref h4, .ref h5, .ref h6, .ref h7, .ref h8, .ref h9, .int 0, .int 0, .int 10, .int 0, .int 0, .int (-9), .int 0, .ref h10, .ref h11, .ref h12, .ref h13, .int 0, .int 0, .int 0, .ref h14, .int 0, .int 0, .int 0, .int (-9), .int 0, .ref h15, .int 0, .int 0, .int 0, .ref h16, .ref h17, .ref h18, .int 0, .int 0]))] s.heap.size = A at hD ⊢
  have hA : ∀ q : Nat, s.heap.size ≤ q → A q := fun q h => by rw [← hAe]; exact Or.inr h
  have hS : va_S A s.heap s.heap [] := va_S.rf
  have hP : va_P (dC, dI) vwCl [(h0, .inr (12, [.ref h1, .ref h2, .ref h3, .ref h4, .ref h5, .ref h6, .ref h7, .ref h8, .ref h9, .int 0, .int 0, .int 10, .int 0, .int 0, .int (-9), .int 0, .ref h10, .ref h11, .ref h12, .ref h13, .int 0, .int 0, .int 0, .ref h14, .int 0, .int 0, .int 0, .int (-9), .int 0, .ref h15, .int 0, .int 0, .int 0, .ref h16, .ref h17, .ref h18, .int 0, .int 0]))] s.heap := hP
  have hl := lv_entry ([.ref h0, .int p0]) (n := 2) (Nat.le_of_ble_eq_true rfl)
  rw [lg_entry_eq]
  generalize (lg_sl ([.ref h0, .int p0]) ++ List.replicate (2 - (lg_sl ([.ref h0, .int p0])).length) Slot.unset).toArray = ls at hl ⊢
  have hl : lv_has ls 2 [(0, .ref h0), (1, .int p0)] := hl
  refine lv_iload_n hx hb dX12_isLine_0 rfl (lv_at hl 1 rfl) ?_
  refine lv_if_lt (tgt := 16) hx hb dX12_isLine_1 (by decide) (fun hc => ?_) (fun hc => ?_)
  · exact absurd ((fa_lt _ _).mp hc) (by rw [show (0 : Int32).toInt = 0 from by decide]; omega)
  refine lv_iload_n hx hb dX12_isLine_4 rfl (lv_at hl 1 rfl) ?_
  refine lv_aload_n hx hb dX12_isLine_5 rfl (lv_at hl 0 rfl) ?_
  refine va_get (D := (dC, dI)) (ci := 12) (v := .int 0) (C := RX12) (T := TX12) (N := 38) hx hb hts in_X12_isLine_X12 hown hK hP 0 rfl rfl 10 (by decide) (hts (.fieldLink RX12 79 "EachOnHisCueModel" "lines" "I") (by decide +kernel)) (fun _ h9 => h9) rfl dX12_isLine_6 ?_
  refine lv_icmp_ge (tgt := 16) hx hb dX12_isLine_9 (by decide) (fun hc => ?_) (fun hc => ?_)
  rotate_left; exact absurd ((fa_le _ _).mpr (by rw [show (0 : Int32).toInt = 0 from by decide]; omega)) hc
  refine lv_iconst (v := 0) hx hb dX12_isLine_16 (by decide) ?_
  have hP9 := hP.sub (ws' := [(h0, .inr (12, [.ref h1, .ref h2, .ref h3, .ref h4, .ref h5, .ref h6, .ref h7, .ref h8, .ref h9, .int 0, .int 0, .int 10, .int 0, .int 0, .int (-9), .int 0, .ref h10, .ref h11, .ref h12, .ref h13, .int 0, .int 0, .int 0, .ref h14, .int 0, .int 0, .int 0, .int (-9), .int 0, .ref h15, .int 0, .int 0, .int 0, .ref h16, .ref h17, .ref h18, .int 0, .int 0]))]) [0] rfl
  have hD9 := hD.sub (ws' := [(h0, .inr (12, [.ref h1, .ref h2, .ref h3, .ref h4, .ref h5, .ref h6, .ref h7, .ref h8, .ref h9, .int 0, .int 0, .int 10, .int 0, .int 0, .int (-9), .int 0, .ref h10, .ref h11, .ref h12, .ref h13, .int 0, .int 0, .int 0, .ref h14, .int 0, .int 0, .int 0, .int (-9), .int 0, .ref h15, .int 0, .int 0, .int 0, .ref h16, .ref h17, .ref h18, .int 0, .int 0]))]) [0] (by decide) rfl
  exact W.zret (v := 0) hx hb hr rfl (fun t ht hW => ⟨⟨0, (fun k => [].getD k 0), rfl, rfl, by rw [ht]; exact hP9, hD9⟩, hS.F ht⟩) hS.2.2 dX12_isLine_17
set_option maxHeartbeats 4000000 in
set_option maxRecDepth 100000 in
theorem kX12_line_1 (l : Launch) (dC : Nat → ClassId) (dI : Nat → Nat → Nat) (cI cQ : ClassId) (h0 h1 h2 h3 h4 h5 h6 h7 h8 h9 h10 h11 h12 h13 h14 h15 h16 h17 h18 : Nat) (p0 : Int32) (hp0l : 0 ≤ p0.toInt) (hp0h : p0.toInt ≤ 2147483647) (p1 : Int32) (hp1l : -2147483648 ≤ p1.toInt) (hp1h : p1.toInt ≤ 2147483647) (sz : Nat) : Met l yX12_line vsX12_line ({ frames := 1, cells := 0, slots := 0, locals := 21 }) (va_Pc [.ref h0, .int p0, .int p1] (zB dC dI cI cQ [(h0, .inr (12, [.ref h1, .ref h2, .ref h3, .ref h4, .ref h5, .ref h6, .ref h7, .ref h8, .ref h9, .int 0, .int 0, .int 10, .int 0, .int 0, .int (-9), .int 0, .ref h10, .ref h11, .ref h12, .ref h13, .int 0, .int 0, .int 0, .ref h14, .int 0, .int 0, .int 0, .int (-9), .int 0, .ref h15, .int 0, .int 0, .int 0, .ref h16, .ref h17, .ref h18, .int 0, .int 0])), (h1, .inl (cI, 7, .inl (fun _ => 0)))] sz)) (zQi dC dI (va_A [(h0, .inr (12, [.ref h1, .ref h2, .ref h3, .ref h4, .ref h5, .ref h6, .ref h7, .ref h8, .ref h9, .int 0, .int 0, .int 10, .int 0, .int 0, .int (-9), .int 0, .ref h10, .ref h11, .ref h12, .ref h13, .int 0, .int 0, .int 0, .ref h14, .int 0, .int 0, .int 0, .int (-9), .int 0, .ref h15, .int 0, .int 0, .int 0, .ref h16, .ref h17, .ref h18, .int 0, .int 0])), (h1, .inl (cI, 7, .inl (fun _ => 0)))] sz) (fun ad => []) (-1)) 0 0 (va_A [(h0, .inr (12, [.ref h1, .ref h2, .ref h3, .ref h4, .ref h5, .ref h6, .ref h7, .ref h8, .ref h9, .int 0, .int 0, .int 10, .int 0, .int 0, .int (-9), .int 0, .ref h10, .ref h11, .ref h12, .ref h13, .int 0, .int 0, .int 0, .ref h14, .int 0, .int 0, .int 0, .int (-9), .int 0, .ref h15, .int 0, .int 0, .int 0, .ref h16, .ref h17, .ref h18, .int 0, .int 0])), (h1, .inl (cI, 7, .inl (fun _ => 0)))] sz) := by
  refine Met.ofW (cc := cX12_line) (maxL := 3) (ret := (some .int)) (by decide) rfl ?_
  intro p e s m args below meth c s₁ B hml hv
  obtain ⟨rfl, hsz, hP, hZ, hD0⟩ := hv
  obtain ⟨hK, hAO, hN⟩ := id hZ
  have hx := B.exec
  have hb := B.bytes
  have hr := B.returns
  have hts := atoms_spec (ws := vsX12_line) B.pre
  have hown : s.vm.findClass RX12 = some m.cls := findClass_of_methodNamed B.named
  have hlocks := B.notSynchronized
  subst hsz
  have hD := hD0.self (sz := s.heap.size)
  generalize hAe : va_A [(h0, .inr (12, [.ref h1, .ref h2, .ref h3, .ref h4, .ref h5, .ref h6, .ref h7, .ref h8, .ref h9, .int 0, .int 0, .int 10, .int 0, .int 0, .int (-9), .int 0, .ref h10, .ref h11, .ref h12, .ref h13, .int 0, .int 0, .int 0, .ref h14, .int 0, .int 0, .int 0, .int (-9), .int 0, .ref h15, .int 0, .int 0, .int 0, .ref h16, .ref h17, .ref h18, .int 0, .int 0])), (h1, .inl (cI, 7, .inl (fun _ => 0)))] s.heap.size = A at hD ⊢
  have hA : ∀ q : Nat, s.heap.size ≤ q → A q := fun q h => by rw [← hAe]; exact Or.inr h
  have hS : va_S A s.heap s.heap [] := va_S.rf
  have hP : va_P (dC, dI) vwCl [(h0, .inr (12, [.ref h1, .ref h2, .ref h3, .ref h4, .ref h5, .ref h6, .ref h7, .ref h8, .ref h9, .int 0, .int 0, .int 10, .int 0, .int 0, .int (-9), .int 0, .ref h10, .ref h11, .ref h12, .ref h13, .int 0, .int 0, .int 0, .ref h14, .int 0, .int 0, .int 0, .int (-9), .int 0, .ref h15, .int 0, .int 0, .int 0, .ref h16, .ref h17, .ref h18, .int 0, .int 0])), (h1, .inl (cI, 7, .inl (fun _ => 0)))] s.heap := hP
  have hl := lv_entry ([.ref h0, .int p0, .int p1]) (n := 3) (Nat.le_of_ble_eq_true rfl)
  rw [lg_entry_eq]
  generalize (lg_sl ([.ref h0, .int p0, .int p1]) ++ List.replicate (3 - (lg_sl ([.ref h0, .int p0, .int p1])).length) Slot.unset).toArray = ls at hl ⊢
  have hl : lv_has ls 3 [(0, .ref h0), (1, .int p0), (2, .int p1)] := hl
  refine lv_aload_n hx hb dX12_line_0 rfl (lv_at hl 0 rfl) ?_
  refine lv_iload_n hx hb dX12_line_1 rfl (lv_at hl 1 rfl) ?_
  refine z_calli (wc := [(h0, .inr (12, [.ref h1, .ref h2, .ref h3, .ref h4, .ref h5, .ref h6, .ref h7, .ref h8, .ref h9, .int 0, .int 0, .int 10, .int 0, .int 0, .int (-9), .int 0, .ref h10, .ref h11, .ref h12, .ref h13, .int 0, .int 0, .int 0, .ref h14, .int 0, .int 0, .int 0, .int (-9), .int 0, .ref h15, .int 0, .int 0, .int 0, .ref h16, .ref h17, .ref h18, .int 0, .int 0]))]) (wr := [(h1, .inl (cI, 7, .inl (fun _ => 0)))]) (w1 := (fun _ => [(h0, .inr (12, [.ref h1, .ref h2, .ref h3, .ref h4, .ref h5, .ref h6, .ref h7, .ref h8, .ref h9, .int 0, .int 0, .int 10, .int 0, .int 0, .int (-9), .int 0, .ref h10, .ref h11, .ref h12, .ref h13, .int 0, .int 0, .int 0, .ref h14, .int 0, .int 0, .int 0, .int (-9), .int 0, .ref h15, .int 0, .int 0, .int 0, .ref h16, .ref h17, .ref h18, .int 0, .int 0]))])) (va_runV (As := [.int p0]) (rest := []) ⟨hx, hb, hml, hown, hts⟩ (kX12_isLine_1 l dC dI cI cQ h0 h1 h2 h3 h4 h5 h6 h7 h8 h9 h10 h11 h12 h13 h14 h15 h16 h17 h18 p0 hp0l hp0h s.heap.size) (cwV 1 hts gv_X12_line_X12_isLine_169 rfl rfl rfl (by decide +kernel) ⟨Nat.le_of_ble_eq_true rfl, Nat.le_of_ble_eq_true rfl⟩) ⟨z_blind, va_recv hK hP (ci := 12) (q0 := 0) rfl rfl, z_pre hZ hP hD [0] rfl (by decide)⟩ rfl rfl hl.1 rfl (lv_room (Nat.le_of_ble_eq_true rfl)) dX12_line_2 ⟨Nat.le_of_ble_eq_true rfl, Nat.le_of_ble_eq_true rfl⟩) hP hD hS hA [0] [1] rfl rfl (by decide) (by decide) (fun _ H locs hP hD hS => ?_)
  have hP : va_P (dC, dI) vwCl [(h1, .inl (cI, 7, .inl (fun _ => 0))), (h0, .inr (12, [.ref h1, .ref h2, .ref h3, .ref h4, .ref h5, .ref h6, .ref h7, .ref h8, .ref h9, .int 0, .int 0, .int 10, .int 0, .int 0, .int (-9), .int 0, .ref h10, .ref h11, .ref h12, .ref h13, .int 0, .int 0, .int 0, .ref h14, .int 0, .int 0, .int 0, .int (-9), .int 0, .ref h15, .int 0, .int 0, .int 0, .ref h16, .ref h17, .ref h18, .int 0, .int 0]))] H := hP
  have hD : va_D A [(h1, .inl (cI, 7, .inl (fun _ => 0))), (h0, .inr (12, [.ref h1, .ref h2, .ref h3, .ref h4, .ref h5, .ref h6, .ref h7, .ref h8, .ref h9, .int 0, .int 0, .int 10, .int 0, .int 0, .int (-9), .int 0, .ref h10, .ref h11, .ref h12, .ref h13, .int 0, .int 0, .int 0, .ref h14, .int 0, .int 0, .int 0, .int (-9), .int 0, .ref h15, .int 0, .int 0, .int 0, .ref h16, .ref h17, .ref h18, .int 0, .int 0]))] := hD
  refine lv_if_ne (tgt := 14) hx hb dX12_line_5 (by decide) (fun hc => ?_) (fun hc => ?_)
  · exact absurd hc (by decide)
  refine lv_aload_n hx hb dX12_line_8 rfl (lv_at hl 0 rfl) ?_
  refine lv_iconst (v := (-1)) hx hb dX12_line_9 (by decide) ?_
  refine z_calli (wc := [(h1, .inl (cI, 7, .inl (fun _ => 0))), (h0, .inr (12, [.ref h1, .ref h2, .ref h3, .ref h4, .ref h5, .ref h6, .ref h7, .ref h8, .ref h9, .int 0, .int 0, .int 10, .int 0, .int 0, .int (-9), .int 0, .ref h10, .ref h11, .ref h12, .ref h13, .int 0, .int 0, .int 0, .ref h14, .int 0, .int 0, .int 0, .int (-9), .int 0, .ref h15, .int 0, .int 0, .int 0, .ref h16, .ref h17, .ref h18, .int 0, .int 0]))]) (wr := []) (w1 := (fun _ => [(h1, .inl (cI, 7, .inl (upd (fun _ => 0) 1 1))), (h0, .inr (12, [.ref h1, .ref h2, .ref h3, .ref h4, .ref h5, .ref h6, .ref h7, .ref h8, .ref h9, .int 0, .int 0, .int 10, .int 0, .int 0, .int (-9), .int 0, .ref h10, .ref h11, .ref h12, .ref h13, .int 0, .int 0, .int 0, .ref h14, .int 0, .int 0, .int 0, .int (-9), .int 0, .ref h15, .int 0, .int 0, .int 0, .ref h16, .ref h17, .ref h18, .int 0, .int 0]))])) (va_runV (As := [.int (-1)]) (rest := []) ⟨hx, hb, hml, hown, hts⟩ (kX12_no_3 l dC dI cI cQ h0 h1 h2 h3 h4 h5 h6 h7 h8 h9 h10 h11 h12 h13 h14 h15 h16 h17 h18 H.size) (cwV 1 hts gv_X12_line_X12_no_89 rfl rfl rfl (by decide +kernel) ⟨Nat.le_of_ble_eq_true rfl, Nat.le_of_ble_eq_true rfl⟩) ⟨z_blind, va_recv hK hP (ci := 12) (q0 := 1) rfl rfl, z_pre hZ hP hD [0, 1] rfl (by decide)⟩ rfl rfl hl.1 rfl (lv_room (Nat.le_of_ble_eq_true rfl)) dX12_line_10 ⟨Nat.le_of_ble_eq_true rfl, Nat.le_of_ble_eq_true rfl⟩) hP hD hS hA [0, 1] [] rfl rfl (by decide) (by decide) (fun _ H locs hP hD hS => ?_)
  have hP : va_P (dC, dI) vwCl [(h1, .inl (cI, 7, .inl (upd (fun _ => 0) 1 1))), (h0, .inr (12, [.ref h1, .ref h2, .ref h3, .ref h4, .ref h5, .ref h6, .ref h7, .ref h8, .ref h9, .int 0, .int 0, .int 10, .int 0, .int 0, .int (-9), .int 0, .ref h10, .ref h11, .ref h12, .ref h13, .int 0, .int 0, .int 0, .ref h14, .int 0, .int 0, .int 0, .int (-9), .int 0, .ref h15, .int 0, .int 0, .int 0, .ref h16, .ref h17, .ref h18, .int 0, .int 0]))] H := hP
  have hD : va_D A [(h1, .inl (cI, 7, .inl (upd (fun _ => 0) 1 1))), (h0, .inr (12, [.ref h1, .ref h2, .ref h3, .ref h4, .ref h5, .ref h6, .ref h7, .ref h8, .ref h9, .int 0, .int 0, .int 10, .int 0, .int 0, .int (-9), .int 0, .ref h10, .ref h11, .ref h12, .ref h13, .int 0, .int 0, .int 0, .ref h14, .int 0, .int 0, .int 0, .int (-9), .int 0, .ref h15, .int 0, .int 0, .int 0, .ref h16, .ref h17, .ref h18, .int 0, .int 0]))] := hD
  have hP9 := hP.sub (ws' := []) [] rfl
  have hD9 := hD.sub (ws' := []) [] (by decide) rfl
  exact W.iret (v := (-1)) hx hb hr (fun t ht hW => ⟨⟨(-1), (fun k => [].getD k 0), rfl, rfl, by rw [ht]; exact hP9, hD9⟩, hS.F ht⟩) hS.2.2 dX12_line_13
set_option maxHeartbeats 4000000 in
set_option maxRecDepth 100000 in
theorem kX12_cue (l : Launch) (dC : Nat → ClassId) (dI : Nat → Nat → Nat) (cI cQ : ClassId) (h0 h1 h2 h3 h4 h5 h6 h7 h8 h9 h10 h11 h12 h13 h14 h15 h16 h17 h18 : Nat) (p0 : Int32) (hp0l : -2147483648 ≤ p0.toInt) (hp0h : p0.toInt ≤ -1) (p1 : Int32) (hp1l : -2147483648 ≤ p1.toInt) (hp1h : p1.toInt ≤ 2147483647) (sz : Nat) : Met l yX12_cue vsX12_cue ({ frames := 1, cells := 0, slots := 0, locals := 21 }) (va_Pc [.ref h0, .int p0, .int p1] (zB dC dI cI cQ [(h0, .inr (12, [.ref h1, .ref h2, .ref h3, .ref h4, .ref h5, .ref h6, .ref h7, .ref h8, .ref h9, .int 0, .int 0, .int 10, .int 0, .int 0, .int (-9), .int 0, .ref h10, .ref h11, .ref h12, .ref h13, .int 0, .int 0, .int 0, .ref h14, .int 0, .int 0, .int 0, .int (-9), .int 0, .ref h15, .int 0, .int 0, .int 0, .ref h16, .ref h17, .ref h18, .int 0, .int 0])), (h1, .inl (cI, 7, .inl (fun _ => 0)))] sz)) (zQi dC dI (va_A [(h0, .inr (12, [.ref h1, .ref h2, .ref h3, .ref h4, .ref h5, .ref h6, .ref h7, .ref h8, .ref h9, .int 0, .int 0, .int 10, .int 0, .int 0, .int (-9), .int 0, .ref h10, .ref h11, .ref h12, .ref h13, .int 0, .int 0, .int 0, .ref h14, .int 0, .int 0, .int 0, .int (-9), .int 0, .ref h15, .int 0, .int 0, .int 0, .ref h16, .ref h17, .ref h18, .int 0, .int 0])), (h1, .inl (cI, 7, .inl (fun _ => 0)))] sz) (fun ad => []) (-1)) 0 0 (va_A [(h0, .inr (12, [.ref h1, .ref h2, .ref h3, .ref h4, .ref h5, .ref h6, .ref h7, .ref h8, .ref h9, .int 0, .int 0, .int 10, .int 0, .int 0, .int (-9), .int 0, .ref h10, .ref h11, .ref h12, .ref h13, .int 0, .int 0, .int 0, .ref h14, .int 0, .int 0, .int 0, .int (-9), .int 0, .ref h15, .int 0, .int 0, .int 0, .ref h16, .ref h17, .ref h18, .int 0, .int 0])), (h1, .inl (cI, 7, .inl (fun _ => 0)))] sz) := by
  refine Met.ofW (cc := cX12_cue) (maxL := 5) (ret := (some .int)) (by decide) rfl ?_
  intro p e s m args below meth c s₁ B hml hv
  obtain ⟨rfl, hsz, hP, hZ, hD0⟩ := hv
  obtain ⟨hK, hAO, hN⟩ := id hZ
  have hx := B.exec
  have hb := B.bytes
  have hr := B.returns
  have hts := atoms_spec (ws := vsX12_cue) B.pre
  have hown : s.vm.findClass RX12 = some m.cls := findClass_of_methodNamed B.named
  have hlocks := B.notSynchronized
  subst hsz
  have hD := hD0.self (sz := s.heap.size)
  generalize hAe : va_A [(h0, .inr (12, [.ref h1, .ref h2, .ref h3, .ref h4, .ref h5, .ref h6, .ref h7, .ref h8, .ref h9, .int 0, .int 0, .int 10, .int 0, .int 0, .int (-9), .int 0, .ref h10, .ref h11, .ref h12, .ref h13, .int 0, .int 0, .int 0, .ref h14, .int 0, .int 0, .int 0, .int (-9), .int 0, .ref h15, .int 0, .int 0, .int 0, .ref h16, .ref h17, .ref h18, .int 0, .int 0])), (h1, .inl (cI, 7, .inl (fun _ => 0)))] s.heap.size = A at hD ⊢
  have hA : ∀ q : Nat, s.heap.size ≤ q → A q := fun q h => by rw [← hAe]; exact Or.inr h
  have hS : va_S A s.heap s.heap [] := va_S.rf
  have hP : va_P (dC, dI) vwCl [(h0, .inr (12, [.ref h1, .ref h2, .ref h3, .ref h4, .ref h5, .ref h6, .ref h7, .ref h8, .ref h9, .int 0, .int 0, .int 10, .int 0, .int 0, .int (-9), .int 0, .ref h10, .ref h11, .ref h12, .ref h13, .int 0, .int 0, .int 0, .ref h14, .int 0, .int 0, .int 0, .int (-9), .int 0, .ref h15, .int 0, .int 0, .int 0, .ref h16, .ref h17, .ref h18, .int 0, .int 0])), (h1, .inl (cI, 7, .inl (fun _ => 0)))] s.heap := hP
  have hl := lv_entry ([.ref h0, .int p0, .int p1]) (n := 5) (Nat.le_of_ble_eq_true rfl)
  rw [lg_entry_eq]
  generalize (lg_sl ([.ref h0, .int p0, .int p1]) ++ List.replicate (5 - (lg_sl ([.ref h0, .int p0, .int p1])).length) Slot.unset).toArray = ls at hl ⊢
  have hl : lv_has ls 5 [(0, .ref h0), (1, .int p0), (2, .int p1)] := hl
  refine lv_aload_n hx hb dX12_cue_0 rfl (lv_at hl 0 rfl) ?_
  refine lv_iload_n hx hb dX12_cue_1 rfl (lv_at hl 1 rfl) ?_
  refine z_calli (wc := []) (wr := [(h0, .inr (12, [.ref h1, .ref h2, .ref h3, .ref h4, .ref h5, .ref h6, .ref h7, .ref h8, .ref h9, .int 0, .int 0, .int 10, .int 0, .int 0, .int (-9), .int 0, .ref h10, .ref h11, .ref h12, .ref h13, .int 0, .int 0, .int 0, .ref h14, .int 0, .int 0, .int 0, .int (-9), .int 0, .ref h15, .int 0, .int 0, .int 0, .ref h16, .ref h17, .ref h18, .int 0, .int 0])), (h1, .inl (cI, 7, .inl (fun _ => 0)))]) (w1 := (fun _ => [])) (va_runV (As := [.int p0]) (rest := []) ⟨hx, hb, hml, hown, hts⟩ (kX12_isLine l dC dI cI cQ h0 p0 hp0l hp0h s.heap.size) (cwV 1 hts gv_X12_cue_X12_isLine_169 rfl rfl rfl (by decide +kernel) ⟨Nat.le_of_ble_eq_true rfl, Nat.le_of_ble_eq_true rfl⟩) ⟨z_blind, va_recv hK hP (ci := 12) (q0 := 0) rfl rfl, z_pre hZ hP hD [] rfl (by decide)⟩ rfl rfl hl.1 rfl (lv_room (Nat.le_of_ble_eq_true rfl)) dX12_cue_2 ⟨Nat.le_of_ble_eq_true rfl, Nat.le_of_ble_eq_true rfl⟩) hP hD hS hA [] [0, 1] rfl rfl (by decide) (by decide) (fun _ H locs hP hD hS => ?_)
  have hP : va_P (dC, dI) vwCl [(h0, .inr (12, [.ref h1, .ref h2, .ref h3, .ref h4, .ref h5, .ref h6, .ref h7, .ref h8, .ref h9, .int 0, .int 0, .int 10, .int 0, .int 0, .int (-9), .int 0, .ref h10, .ref h11, .ref h12, .ref h13, .int 0, .int 0, .int 0, .ref h14, .int 0, .int 0, .int 0, .int (-9), .int 0, .ref h15, .int 0, .int 0, .int 0, .ref h16, .ref h17, .ref h18, .int 0, .int 0])), (h1, .inl (cI, 7, .inl (fun _ => 0)))] H := hP
  have hD : va_D A [(h0, .inr (12, [.ref h1, .ref h2, .ref h3, .ref h4, .ref h5, .ref h6, .ref h7, .ref h8, .ref h9, .int 0, .int 0, .int 10, .int 0, .int 0, .int (-9), .int 0, .ref h10, .ref h11, .ref h12, .ref h13, .int 0, .int 0, .int 0, .ref h14, .int 0, .int 0, .int 0, .int (-9), .int 0, .ref h15, .int 0, .int 0, .int 0, .ref h16, .ref h17, .ref h18, .int 0, .int 0])), (h1, .inl (cI, 7, .inl (fun _ => 0)))] := hD
  refine lv_if_ne (tgt := 14) hx hb dX12_cue_5 (by decide) (fun hc => ?_) (fun hc => ?_)
  · exact absurd hc (by decide)
  refine lv_aload_n hx hb dX12_cue_8 rfl (lv_at hl 0 rfl) ?_
  refine lv_iconst (v := (-1)) hx hb dX12_cue_9 (by decide) ?_
  refine z_calli (wc := [(h0, .inr (12, [.ref h1, .ref h2, .ref h3, .ref h4, .ref h5, .ref h6, .ref h7, .ref h8, .ref h9, .int 0, .int 0, .int 10, .int 0, .int 0, .int (-9), .int 0, .ref h10, .ref h11, .ref h12, .ref h13, .int 0, .int 0, .int 0, .ref h14, .int 0, .int 0, .int 0, .int (-9), .int 0, .ref h15, .int 0, .int 0, .int 0, .ref h16, .ref h17, .ref h18, .int 0, .int 0])), (h1, .inl (cI, 7, .inl (fun _ => 0)))]) (wr := []) (w1 := (fun _ => [(h0, .inr (12, [.ref h1, .ref h2, .ref h3, .ref h4, .ref h5, .ref h6, .ref h7, .ref h8, .ref h9, .int 0, .int 0, .int 10, .int 0, .int 0, .int (-9), .int 0, .ref h10, .ref h11, .ref h12, .ref h13, .int 0, .int 0, .int 0, .ref h14, .int 0, .int 0, .int 0, .int (-9), .int 0, .ref h15, .int 0, .int 0, .int 0, .ref h16, .ref h17, .ref h18, .int 0, .int 0])), (h1, .inl (cI, 7, .inl (upd (fun _ => 0) 1 1)))])) (va_runV (As := [.int (-1)]) (rest := []) ⟨hx, hb, hml, hown, hts⟩ (kX12_no_2 l dC dI cI cQ h0 h1 h2 h3 h4 h5 h6 h7 h8 h9 h10 h11 h12 h13 h14 h15 h16 h17 h18 H.size) (cwV 1 hts gv_X12_cue_X12_no_89 rfl rfl rfl (by decide +kernel) ⟨Nat.le_of_ble_eq_true rfl, Nat.le_of_ble_eq_true rfl⟩) ⟨z_blind, va_recv hK hP (ci := 12) (q0 := 0) rfl rfl, z_pre hZ hP hD [0, 1] rfl (by decide)⟩ rfl rfl hl.1 rfl (lv_room (Nat.le_of_ble_eq_true rfl)) dX12_cue_10 ⟨Nat.le_of_ble_eq_true rfl, Nat.le_of_ble_eq_true rfl⟩) hP hD hS hA [0, 1] [] rfl rfl (by decide) (by decide) (fun _ H locs hP hD hS => ?_)
  have hP : va_P (dC, dI) vwCl [(h0, .inr (12, [.ref h1, .ref h2, .ref h3, .ref h4, .ref h5, .ref h6, .ref h7, .ref h8, .ref h9, .int 0, .int 0, .int 10, .int 0, .int 0, .int (-9), .int 0, .ref h10, .ref h11, .ref h12, .ref h13, .int 0, .int 0, .int 0, .ref h14, .int 0, .int 0, .int 0, .int (-9), .int 0, .ref h15, .int 0, .int 0, .int 0, .ref h16, .ref h17, .ref h18, .int 0, .int 0])), (h1, .inl (cI, 7, .inl (upd (fun _ => 0) 1 1)))] H := hP
  have hD : va_D A [(h0, .inr (12, [.ref h1, .ref h2, .ref h3, .ref h4, .ref h5, .ref h6, .ref h7, .ref h8, .ref h9, .int 0, .int 0, .int 10, .int 0, .int 0, .int (-9), .int 0, .ref h10, .ref h11, .ref h12, .ref h13, .int 0, .int 0, .int 0, .ref h14, .int 0, .int 0, .int 0, .int (-9), .int 0, .ref h15, .int 0, .int 0, .int 0, .ref h16, .ref h17, .ref h18, .int 0, .int 0])), (h1, .inl (cI, 7, .inl (upd (fun _ => 0) 1 1)))] := hD
  have hP9 := hP.sub (ws' := []) [] rfl
  have hD9 := hD.sub (ws' := []) [] (by decide) rfl
  exact W.iret (v := (-1)) hx hb hr (fun t ht hW => ⟨⟨(-1), (fun k => [].getD k 0), rfl, rfl, by rw [ht]; exact hP9, hD9⟩, hS.F ht⟩) hS.2.2 dX12_cue_13
set_option maxHeartbeats 4000000 in
set_option maxRecDepth 100000 in
theorem kX12_cue_1 (l : Launch) (dC : Nat → ClassId) (dI : Nat → Nat → Nat) (cI cQ : ClassId) (h0 h1 h2 h3 h4 h5 h6 h7 h8 h9 h10 h11 h12 h13 h14 h15 h16 h17 h18 : Nat) (p0 : Int32) (hp0l : 0 ≤ p0.toInt) (hp0h : p0.toInt ≤ 2147483647) (p1 : Int32) (hp1l : -2147483648 ≤ p1.toInt) (hp1h : p1.toInt ≤ 2147483647) (sz : Nat) : Met l yX12_cue vsX12_cue ({ frames := 1, cells := 0, slots := 0, locals := 21 }) (va_Pc [.ref h0, .int p0, .int p1] (zB dC dI cI cQ [(h0, .inr (12, [.ref h1, .ref h2, .ref h3, .ref h4, .ref h5, .ref h6, .ref h7, .ref h8, .ref h9, .int 0, .int 0, .int 10, .int 0, .int 0, .int (-9), .int 0, .ref h10, .ref h11, .ref h12, .ref h13, .int 0, .int 0, .int 0, .ref h14, .int 0, .int 0, .int 0, .int (-9), .int 0, .ref h15, .int 0, .int 0, .int 0, .ref h16, .ref h17, .ref h18, .int 0, .int 0])), (h1, .inl (cI, 7, .inl (fun _ => 0)))] sz)) (zQi dC dI (va_A [(h0, .inr (12, [.ref h1, .ref h2, .ref h3, .ref h4, .ref h5, .ref h6, .ref h7, .ref h8, .ref h9, .int 0, .int 0, .int 10, .int 0, .int 0, .int (-9), .int 0, .ref h10, .ref h11, .ref h12, .ref h13, .int 0, .int 0, .int 0, .ref h14, .int 0, .int 0, .int 0, .int (-9), .int 0, .ref h15, .int 0, .int 0, .int 0, .ref h16, .ref h17, .ref h18, .int 0, .int 0])), (h1, .inl (cI, 7, .inl (fun _ => 0)))] sz) (fun ad => []) (-1)) 0 0 (va_A [(h0, .inr (12, [.ref h1, .ref h2, .ref h3, .ref h4, .ref h5, .ref h6, .ref h7, .ref h8, .ref h9, .int 0, .int 0, .int 10, .int 0, .int 0, .int (-9), .int 0, .ref h10, .ref h11, .ref h12, .ref h13, .int 0, .int 0, .int 0, .ref h14, .int 0, .int 0, .int 0, .int (-9), .int 0, .ref h15, .int 0, .int 0, .int 0, .ref h16, .ref h17, .ref h18, .int 0, .int 0])), (h1, .inl (cI, 7, .inl (fun _ => 0)))] sz) := by
  refine Met.ofW (cc := cX12_cue) (maxL := 5) (ret := (some .int)) (by decide) rfl ?_
  intro p e s m args below meth c s₁ B hml hv
  obtain ⟨rfl, hsz, hP, hZ, hD0⟩ := hv
  obtain ⟨hK, hAO, hN⟩ := id hZ
  have hx := B.exec
  have hb := B.bytes
  have hr := B.returns
  have hts := atoms_spec (ws := vsX12_cue) B.pre
  have hown : s.vm.findClass RX12 = some m.cls := findClass_of_methodNamed B.named
  have hlocks := B.notSynchronized
  subst hsz
  have hD := hD0.self (sz := s.heap.size)
  generalize hAe : va_A [(h0, .inr (12, [.ref h1, .ref h2, .ref h3, .ref h4, .ref h5, .ref h6, .ref h7, .ref h8, .ref h9, .int 0, .int 0, .int 10, .int 0, .int 0, .int (-9), .int 0, .ref h10, .ref h11, .ref h12, .ref h13, .int 0, .int 0, .int 0, .ref h14, .int 0, .int 0, .int 0, .int (-9), .int 0, .ref h15, .int 0, .int 0, .int 0, .ref h16, .ref h17, .ref h18, .int 0, .int 0])), (h1, .inl (cI, 7, .inl (fun _ => 0)))] s.heap.size = A at hD ⊢
  have hA : ∀ q : Nat, s.heap.size ≤ q → A q := fun q h => by rw [← hAe]; exact Or.inr h
  have hS : va_S A s.heap s.heap [] := va_S.rf
  have hP : va_P (dC, dI) vwCl [(h0, .inr (12, [.ref h1, .ref h2, .ref h3, .ref h4, .ref h5, .ref h6, .ref h7, .ref h8, .ref h9, .int 0, .int 0, .int 10, .int 0, .int 0, .int (-9), .int 0, .ref h10, .ref h11, .ref h12, .ref h13, .int 0, .int 0, .int 0, .ref h14, .int 0, .int 0, .int 0, .int (-9), .int 0, .ref h15, .int 0, .int 0, .int 0, .ref h16, .ref h17, .ref h18, .int 0, .int 0])), (h1, .inl (cI, 7, .inl (fun _ => 0)))] s.heap := hP
  have hl := lv_entry ([.ref h0, .int p0, .int p1]) (n := 5) (Nat.le_of_ble_eq_true rfl)
  rw [lg_entry_eq]
  generalize (lg_sl ([.ref h0, .int p0, .int p1]) ++ List.replicate (5 - (lg_sl ([.ref h0, .int p0, .int p1])).length) Slot.unset).toArray = ls at hl ⊢
  have hl : lv_has ls 5 [(0, .ref h0), (1, .int p0), (2, .int p1)] := hl
  refine lv_aload_n hx hb dX12_cue_0 rfl (lv_at hl 0 rfl) ?_
  refine lv_iload_n hx hb dX12_cue_1 rfl (lv_at hl 1 rfl) ?_
  refine z_calli (wc := [(h0, .inr (12, [.ref h1, .ref h2, .ref h3, .ref h4, .ref h5, .ref h6, .ref h7, .ref h8, .ref h9, .int 0, .int 0, .int 10, .int 0, .int 0, .int (-9), .int 0, .ref h10, .ref h11, .ref h12, .ref h13, .int 0, .int 0, .int 0, .ref h14, .int 0, .int 0, .int 0, .int (-9), .int 0, .ref h15, .int 0, .int 0, .int 0, .ref h16, .ref h17, .ref h18, .int 0, .int 0]))]) (wr := [(h1, .inl (cI, 7, .inl (fun _ => 0)))]) (w1 := (fun _ => [(h0, .inr (12, [.ref h1, .ref h2, .ref h3, .ref h4, .ref h5, .ref h6, .ref h7, .ref h8, .ref h9, .int 0, .int 0, .int 10, .int 0, .int 0, .int (-9), .int 0, .ref h10, .ref h11, .ref h12, .ref h13, .int 0, .int 0, .int 0, .ref h14, .int 0, .int 0, .int 0, .int (-9), .int 0, .ref h15, .int 0, .int 0, .int 0, .ref h16, .ref h17, .ref h18, .int 0, .int 0]))])) (va_runV (As := [.int p0]) (rest := []) ⟨hx, hb, hml, hown, hts⟩ (kX12_isLine_1 l dC dI cI cQ h0 h1 h2 h3 h4 h5 h6 h7 h8 h9 h10 h11 h12 h13 h14 h15 h16 h17 h18 p0 hp0l hp0h s.heap.size) (cwV 1 hts gv_X12_cue_X12_isLine_169 rfl rfl rfl (by decide +kernel) ⟨Nat.le_of_ble_eq_true rfl, Nat.le_of_ble_eq_true rfl⟩) ⟨z_blind, va_recv hK hP (ci := 12) (q0 := 0) rfl rfl, z_pre hZ hP hD [0] rfl (by decide)⟩ rfl rfl hl.1 rfl (lv_room (Nat.le_of_ble_eq_true rfl)) dX12_cue_2 ⟨Nat.le_of_ble_eq_true rfl, Nat.le_of_ble_eq_true rfl⟩) hP hD hS hA [0] [1] rfl rfl (by decide) (by decide) (fun _ H locs hP hD hS => ?_)
  have hP : va_P (dC, dI) vwCl [(h1, .inl (cI, 7, .inl (fun _ => 0))), (h0, .inr (12, [.ref h1, .ref h2, .ref h3, .ref h4, .ref h5, .ref h6, .ref h7, .ref h8, .ref h9, .int 0, .int 0, .int 10, .int 0, .int 0, .int (-9), .int 0, .ref h10, .ref h11, .ref h12, .ref h13, .int 0, .int 0, .int 0, .ref h14, .int 0, .int 0, .int 0, .int (-9), .int 0, .ref h15, .int 0, .int 0, .int 0, .ref h16, .ref h17, .ref h18, .int 0, .int 0]))] H := hP
  have hD : va_D A [(h1, .inl (cI, 7, .inl (fun _ => 0))), (h0, .inr (12, [.ref h1, .ref h2, .ref h3, .ref h4, .ref h5, .ref h6, .ref h7, .ref h8, .ref h9, .int 0, .int 0, .int 10, .int 0, .int 0, .int (-9), .int 0, .ref h10, .ref h11, .ref h12, .ref h13, .int 0, .int 0, .int 0, .ref h14, .int 0, .int 0, .int 0, .int (-9), .int 0, .ref h15, .int 0, .int 0, .int 0, .ref h16, .ref h17, .ref h18, .int 0, .int 0]))] := hD
  refine lv_if_ne (tgt := 14) hx hb dX12_cue_5 (by decide) (fun hc => ?_) (fun hc => ?_)
  · exact absurd hc (by decide)
  refine lv_aload_n hx hb dX12_cue_8 rfl (lv_at hl 0 rfl) ?_
  refine lv_iconst (v := (-1)) hx hb dX12_cue_9 (by decide) ?_
  refine z_calli (wc := [(h1, .inl (cI, 7, .inl (fun _ => 0))), (h0, .inr (12, [.ref h1, .ref h2, .ref h3, .ref h4, .ref h5, .ref h6, .ref h7, .ref h8, .ref h9, .int 0, .int 0, .int 10, .int 0, .int 0, .int (-9), .int 0, .ref h10, .ref h11, .ref h12, .ref h13, .int 0, .int 0, .int 0, .ref h14, .int 0, .int 0, .int 0, .int (-9), .int 0, .ref h15, .int 0, .int 0, .int 0, .ref h16, .ref h17, .ref h18, .int 0, .int 0]))]) (wr := []) (w1 := (fun _ => [(h1, .inl (cI, 7, .inl (upd (fun _ => 0) 1 1))), (h0, .inr (12, [.ref h1, .ref h2, .ref h3, .ref h4, .ref h5, .ref h6, .ref h7, .ref h8, .ref h9, .int 0, .int 0, .int 10, .int 0, .int 0, .int (-9), .int 0, .ref h10, .ref h11, .ref h12, .ref h13, .int 0, .int 0, .int 0, .ref h14, .int 0, .int 0, .int 0, .int (-9), .int 0, .ref h15, .int 0, .int 0, .int 0, .ref h16, .ref h17, .ref h18, .int 0, .int 0]))])) (va_runV (As := [.int (-1)]) (rest := []) ⟨hx, hb, hml, hown, hts⟩ (kX12_no_3 l dC dI cI cQ h0 h1 h2 h3 h4 h5 h6 h7 h8 h9 h10 h11 h12 h13 h14 h15 h16 h17 h18 H.size) (cwV 1 hts gv_X12_cue_X12_no_89 rfl rfl rfl (by decide +kernel) ⟨Nat.le_of_ble_eq_true rfl, Nat.le_of_ble_eq_true rfl⟩) ⟨z_blind, va_recv hK hP (ci := 12) (q0 := 1) rfl rfl, z_pre hZ hP hD [0, 1] rfl (by decide)⟩ rfl rfl hl.1 rfl (lv_room (Nat.le_of_ble_eq_true rfl)) dX12_cue_10 ⟨Nat.le_of_ble_eq_true rfl, Nat.le_of_ble_eq_true rfl⟩) hP hD hS hA [0, 1] [] rfl rfl (by decide) (by decide) (fun _ H locs hP hD hS => ?_)
  have hP : va_P (dC, dI) vwCl [(h1, .inl (cI, 7, .inl (upd (fun _ => 0) 1 1))), (h0, .inr (12, [.ref h1, .ref h2, .ref h3, .ref h4, .ref h5, .ref h6, .ref h7, .ref h8, .ref h9, .int 0, .int 0, .int 10, .int 0, .int 0, .int (-9), .int 0, .ref h10, .ref h11, .ref h12, .ref h13, .int 0, .int 0, .int 0, .ref h14, .int 0, .int 0, .int 0, .int (-9), .int 0, .ref h15, .int 0, .int 0, .int 0, .ref h16, .ref h17, .ref h18, .int 0, .int 0]))] H := hP
  have hD : va_D A [(h1, .inl (cI, 7, .inl (upd (fun _ => 0) 1 1))), (h0, .inr (12, [.ref h1, .ref h2, .ref h3, .ref h4, .ref h5, .ref h6, .ref h7, .ref h8, .ref h9, .int 0, .int 0, .int 10, .int 0, .int 0, .int (-9), .int 0, .ref h10, .ref h11, .ref h12, .ref h13, .int 0, .int 0, .int 0, .ref h14, .int 0, .int 0, .int 0, .int (-9), .int 0, .ref h15, .int 0, .int 0, .int 0, .ref h16, .ref h17, .ref h18, .int 0, .int 0]))] := hD
  have hP9 := hP.sub (ws' := []) [] rfl
  have hD9 := hD.sub (ws' := []) [] (by decide) rfl
  exact W.iret (v := (-1)) hx hb hr (fun t ht hW => ⟨⟨(-1), (fun k => [].getD k 0), rfl, rfl, by rw [ht]; exact hP9, hD9⟩, hS.F ht⟩) hS.2.2 dX12_cue_13
set_option maxHeartbeats 4000000 in
set_option maxRecDepth 100000 in
theorem kX12_speed (l : Launch) (dC : Nat → ClassId) (dI : Nat → Nat → Nat) (cI cQ : ClassId) (h0 h1 h2 h3 h4 h5 h6 h7 h8 h9 h10 h11 h12 h13 h14 h15 h16 h17 h18 : Nat) (p0 : Int32) (hp0l : -2147483648 ≤ p0.toInt) (hp0h : p0.toInt ≤ -1) (p1 : Int32) (hp1l : -2147483648 ≤ p1.toInt) (hp1h : p1.toInt ≤ 2147483647) (sz : Nat) : Met l yX12_speed vsX12_speed ({ frames := 1, cells := 0, slots := 0, locals := 21 }) (va_Pc [.ref h0, .int p0, .int p1] (zB dC dI cI cQ [(h0, .inr (12, [.ref h1, .ref h2, .ref h3, .ref h4, .ref h5, .ref h6, .ref h7, .ref h8, .ref h9, .int 0, .int 0, .int 10, .int 0, .int 0, .int (-9), .int 0, .ref h10, .ref h11, .ref h12, .ref h13, .int 0, .int 0, .int 0, .ref h14, .int 0, .int 0, .int 0, .int (-9), .int 0, .ref h15, .int 0, .int 0, .int 0, .ref h16, .ref h17, .ref h18, .int 0, .int 0])), (h1, .inl (cI, 7, .inl (fun _ => 0)))] sz)) (zQi dC dI (va_A [(h0, .inr (12, [.ref h1, .ref h2, .ref h3, .ref h4, .ref h5, .ref h6, .ref h7, .ref h8, .ref h9, .int 0, .int 0, .int 10, .int 0, .int 0, .int (-9), .int 0, .ref h10, .ref h11, .ref h12, .ref h13, .int 0, .int 0, .int 0, .ref h14, .int 0, .int 0, .int 0, .int (-9), .int 0, .ref h15, .int 0, .int 0, .int 0, .ref h16, .ref h17, .ref h18, .int 0, .int 0])), (h1, .inl (cI, 7, .inl (fun _ => 0)))] sz) (fun ad => []) (-1)) 0 0 (va_A [(h0, .inr (12, [.ref h1, .ref h2, .ref h3, .ref h4, .ref h5, .ref h6, .ref h7, .ref h8, .ref h9, .int 0, .int 0, .int 10, .int 0, .int 0, .int (-9), .int 0, .ref h10, .ref h11, .ref h12, .ref h13, .int 0, .int 0, .int 0, .ref h14, .int 0, .int 0, .int 0, .int (-9), .int 0, .ref h15, .int 0, .int 0, .int 0, .ref h16, .ref h17, .ref h18, .int 0, .int 0])), (h1, .inl (cI, 7, .inl (fun _ => 0)))] sz) := by
  refine Met.ofW (cc := cX12_speed) (maxL := 5) (ret := (some .int)) (by decide) rfl ?_
  intro p e s m args below meth c s₁ B hml hv
  obtain ⟨rfl, hsz, hP, hZ, hD0⟩ := hv
  obtain ⟨hK, hAO, hN⟩ := id hZ
  have hx := B.exec
  have hb := B.bytes
  have hr := B.returns
  have hts := atoms_spec (ws := vsX12_speed) B.pre
  have hown : s.vm.findClass RX12 = some m.cls := findClass_of_methodNamed B.named
  have hlocks := B.notSynchronized
  subst hsz
  have hD := hD0.self (sz := s.heap.size)
  generalize hAe : va_A [(h0, .inr (12, [.ref h1, .ref h2, .ref h3, .ref h4, .ref h5, .ref h6, .ref h7, .ref h8, .ref h9, .int 0, .int 0, .int 10, .int 0, .int 0, .int (-9), .int 0, .ref h10, .ref h11, .ref h12, .ref h13, .int 0, .int 0, .int 0, .ref h14, .int 0, .int 0, .int 0, .int (-9), .int 0, .ref h15, .int 0, .int 0, .int 0, .ref h16, .ref h17, .ref h18, .int 0, .int 0])), (h1, .inl (cI, 7, .inl (fun _ => 0)))] s.heap.size = A at hD ⊢
  have hA : ∀ q : Nat, s.heap.size ≤ q → A q := fun q h => by rw [← hAe]; exact Or.inr h
  have hS : va_S A s.heap s.heap [] := va_S.rf
  have hP : va_P (dC, dI) vwCl [(h0, .inr (12, [.ref h1, .ref h2, .ref h3, .ref h4, .ref h5, .ref h6, .ref h7, .ref h8, .ref h9, .int 0, .int 0, .int 10, .int 0, .int 0, .int (-9), .int 0, .ref h10, .ref h11, .ref h12, .ref h13, .int 0, .int 0, .int 0, .ref h14, .int 0, .int 0, .int 0, .int (-9), .int 0, .ref h15, .int 0, .int 0, .int 0, .ref h16, .ref h17, .ref h18, .int 0, .int 0])), (h1, .inl (cI, 7, .inl (fun _ => 0)))] s.heap := hP
  have hl := lv_entry ([.ref h0, .int p0, .int p1]) (n := 5) (Nat.le_of_ble_eq_true rfl)
  rw [lg_entry_eq]
  generalize (lg_sl ([.ref h0, .int p0, .int p1]) ++ List.replicate (5 - (lg_sl ([.ref h0, .int p0, .int p1])).length) Slot.unset).toArray = ls at hl ⊢
  have hl : lv_has ls 5 [(0, .ref h0), (1, .int p0), (2, .int p1)] := hl
  refine lv_aload_n hx hb dX12_speed_0 rfl (lv_at hl 0 rfl) ?_
  refine lv_iload_n hx hb dX12_speed_1 rfl (lv_at hl 1 rfl) ?_
  refine z_calli (wc := []) (wr := [(h0, .inr (12, [.ref h1, .ref h2, .ref h3, .ref h4, .ref h5, .ref h6, .ref h7, .ref h8, .ref h9, .int 0, .int 0, .int 10, .int 0, .int 0, .int (-9), .int 0, .ref h10, .ref h11, .ref h12, .ref h13, .int 0, .int 0, .int 0, .ref h14, .int 0, .int 0, .int 0, .int (-9), .int 0, .ref h15, .int 0, .int 0, .int 0, .ref h16, .ref h17, .ref h18, .int 0, .int 0])), (h1, .inl (cI, 7, .inl (fun _ => 0)))]) (w1 := (fun _ => [])) (va_runV (As := [.int p0]) (rest := []) ⟨hx, hb, hml, hown, hts⟩ (kX12_isPlayer l dC dI cI cQ h0 p0 hp0l hp0h s.heap.size) (cwV 1 hts gv_X12_speed_X12_isPlayer_117 rfl rfl rfl (by decide +kernel) ⟨Nat.le_of_ble_eq_true rfl, Nat.le_of_ble_eq_true rfl⟩) ⟨z_blind, va_recv hK hP (ci := 12) (q0 := 0) rfl rfl, z_pre hZ hP hD [] rfl (by decide)⟩ rfl rfl hl.1 rfl (lv_room (Nat.le_of_ble_eq_true rfl)) dX12_speed_2 ⟨Nat.le_of_ble_eq_true rfl, Nat.le_of_ble_eq_true rfl⟩) hP hD hS hA [] [0, 1] rfl rfl (by decide) (by decide) (fun _ H locs hP hD hS => ?_)
  have hP : va_P (dC, dI) vwCl [(h0, .inr (12, [.ref h1, .ref h2, .ref h3, .ref h4, .ref h5, .ref h6, .ref h7, .ref h8, .ref h9, .int 0, .int 0, .int 10, .int 0, .int 0, .int (-9), .int 0, .ref h10, .ref h11, .ref h12, .ref h13, .int 0, .int 0, .int 0, .ref h14, .int 0, .int 0, .int 0, .int (-9), .int 0, .ref h15, .int 0, .int 0, .int 0, .ref h16, .ref h17, .ref h18, .int 0, .int 0])), (h1, .inl (cI, 7, .inl (fun _ => 0)))] H := hP
  have hD : va_D A [(h0, .inr (12, [.ref h1, .ref h2, .ref h3, .ref h4, .ref h5, .ref h6, .ref h7, .ref h8, .ref h9, .int 0, .int 0, .int 10, .int 0, .int 0, .int (-9), .int 0, .ref h10, .ref h11, .ref h12, .ref h13, .int 0, .int 0, .int 0, .ref h14, .int 0, .int 0, .int 0, .int (-9), .int 0, .ref h15, .int 0, .int 0, .int 0, .ref h16, .ref h17, .ref h18, .int 0, .int 0])), (h1, .inl (cI, 7, .inl (fun _ => 0)))] := hD
  refine lv_if_ne (tgt := 14) hx hb dX12_speed_5 (by decide) (fun hc => ?_) (fun hc => ?_)
  · exact absurd hc (by decide)
  refine lv_aload_n hx hb dX12_speed_8 rfl (lv_at hl 0 rfl) ?_
  refine lv_iconst (v := (-1)) hx hb dX12_speed_9 (by decide) ?_
  refine z_calli (wc := [(h0, .inr (12, [.ref h1, .ref h2, .ref h3, .ref h4, .ref h5, .ref h6, .ref h7, .ref h8, .ref h9, .int 0, .int 0, .int 10, .int 0, .int 0, .int (-9), .int 0, .ref h10, .ref h11, .ref h12, .ref h13, .int 0, .int 0, .int 0, .ref h14, .int 0, .int 0, .int 0, .int (-9), .int 0, .ref h15, .int 0, .int 0, .int 0, .ref h16, .ref h17, .ref h18, .int 0, .int 0])), (h1, .inl (cI, 7, .inl (fun _ => 0)))]) (wr := []) (w1 := (fun _ => [(h0, .inr (12, [.ref h1, .ref h2, .ref h3, .ref h4, .ref h5, .ref h6, .ref h7, .ref h8, .ref h9, .int 0, .int 0, .int 10, .int 0, .int 0, .int (-9), .int 0, .ref h10, .ref h11, .ref h12, .ref h13, .int 0, .int 0, .int 0, .ref h14, .int 0, .int 0, .int 0, .int (-9), .int 0, .ref h15, .int 0, .int 0, .int 0, .ref h16, .ref h17, .ref h18, .int 0, .int 0])), (h1, .inl (cI, 7, .inl (upd (fun _ => 0) 1 1)))])) (va_runV (As := [.int (-1)]) (rest := []) ⟨hx, hb, hml, hown, hts⟩ (kX12_no_2 l dC dI cI cQ h0 h1 h2 h3 h4 h5 h6 h7 h8 h9 h10 h11 h12 h13 h14 h15 h16 h17 h18 H.size) (cwV 1 hts gv_X12_speed_X12_no_89 rfl rfl rfl (by decide +kernel) ⟨Nat.le_of_ble_eq_true rfl, Nat.le_of_ble_eq_true rfl⟩) ⟨z_blind, va_recv hK hP (ci := 12) (q0 := 0) rfl rfl, z_pre hZ hP hD [0, 1] rfl (by decide)⟩ rfl rfl hl.1 rfl (lv_room (Nat.le_of_ble_eq_true rfl)) dX12_speed_10 ⟨Nat.le_of_ble_eq_true rfl, Nat.le_of_ble_eq_true rfl⟩) hP hD hS hA [0, 1] [] rfl rfl (by decide) (by decide) (fun _ H locs hP hD hS => ?_)
  have hP : va_P (dC, dI) vwCl [(h0, .inr (12, [.ref h1, .ref h2, .ref h3, .ref h4, .ref h5, .ref h6, .ref h7, .ref h8, .ref h9, .int 0, .int 0, .int 10, .int 0, .int 0, .int (-9), .int 0, .ref h10, .ref h11, .ref h12, .ref h13, .int 0, .int 0, .int 0, .ref h14, .int 0, .int 0, .int 0, .int (-9), .int 0, .ref h15, .int 0, .int 0, .int 0, .ref h16, .ref h17, .ref h18, .int 0, .int 0])), (h1, .inl (cI, 7, .inl (upd (fun _ => 0) 1 1)))] H := hP
  have hD : va_D A [(h0, .inr (12, [.ref h1, .ref h2, .ref h3, .ref h4, .ref h5, .ref h6, .ref h7, .ref h8, .ref h9, .int 0, .int 0, .int 10, .int 0, .int 0, .int (-9), .int 0, .ref h10, .ref h11, .ref h12, .ref h13, .int 0, .int 0, .int 0, .ref h14, .int 0, .int 0, .int 0, .int (-9), .int 0, .ref h15, .int 0, .int 0, .int 0, .ref h16, .ref h17, .ref h18, .int 0, .int 0])), (h1, .inl (cI, 7, .inl (upd (fun _ => 0) 1 1)))] := hD
  have hP9 := hP.sub (ws' := []) [] rfl
  have hD9 := hD.sub (ws' := []) [] (by decide) rfl
  exact W.iret (v := (-1)) hx hb hr (fun t ht hW => ⟨⟨(-1), (fun k => [].getD k 0), rfl, rfl, by rw [ht]; exact hP9, hD9⟩, hS.F ht⟩) hS.2.2 dX12_speed_13
set_option maxHeartbeats 4000000 in
set_option maxRecDepth 100000 in
theorem kX12_speed_1 (l : Launch) (dC : Nat → ClassId) (dI : Nat → Nat → Nat) (cI cQ : ClassId) (h0 h1 h2 h3 h4 h5 h6 h7 h8 h9 h10 h11 h12 h13 h14 h15 h16 h17 h18 : Nat) (p0 : Int32) (hp0l : 0 ≤ p0.toInt) (hp0h : p0.toInt ≤ 2147483647) (p1 : Int32) (hp1l : -2147483648 ≤ p1.toInt) (hp1h : p1.toInt ≤ 2147483647) (sz : Nat) : Met l yX12_speed vsX12_speed ({ frames := 1, cells := 0, slots := 0, locals := 21 }) (va_Pc [.ref h0, .int p0, .int p1] (zB dC dI cI cQ [(h0, .inr (12, [.ref h1, .ref h2, .ref h3, .ref h4, .ref h5, .ref h6, .ref h7, .ref h8, .ref h9, .int 0, .int 0, .int 10, .int 0, .int 0, .int (-9), .int 0, .ref h10, .ref h11, .ref h12, .ref h13, .int 0, .int 0, .int 0, .ref h14, .int 0, .int 0, .int 0, .int (-9), .int 0, .ref h15, .int 0, .int 0, .int 0, .ref h16, .ref h17, .ref h18, .int 0, .int 0])), (h1, .inl (cI, 7, .inl (fun _ => 0)))] sz)) (zQi dC dI (va_A [(h0, .inr (12, [.ref h1, .ref h2, .ref h3, .ref h4, .ref h5, .ref h6, .ref h7, .ref h8, .ref h9, .int 0, .int 0, .int 10, .int 0, .int 0, .int (-9), .int 0, .ref h10, .ref h11, .ref h12, .ref h13, .int 0, .int 0, .int 0, .ref h14, .int 0, .int 0, .int 0, .int (-9), .int 0, .ref h15, .int 0, .int 0, .int 0, .ref h16, .ref h17, .ref h18, .int 0, .int 0])), (h1, .inl (cI, 7, .inl (fun _ => 0)))] sz) (fun ad => []) (-1)) 0 0 (va_A [(h0, .inr (12, [.ref h1, .ref h2, .ref h3, .ref h4, .ref h5, .ref h6, .ref h7, .ref h8, .ref h9, .int 0, .int 0, .int 10, .int 0, .int 0, .int (-9), .int 0, .ref h10, .ref h11, .ref h12, .ref h13, .int 0, .int 0, .int 0, .ref h14, .int 0, .int 0, .int 0, .int (-9), .int 0, .ref h15, .int 0, .int 0, .int 0, .ref h16, .ref h17, .ref h18, .int 0, .int 0])), (h1, .inl (cI, 7, .inl (fun _ => 0)))] sz) := by
  refine Met.ofW (cc := cX12_speed) (maxL := 5) (ret := (some .int)) (by decide) rfl ?_
  intro p e s m args below meth c s₁ B hml hv
  obtain ⟨rfl, hsz, hP, hZ, hD0⟩ := hv
  obtain ⟨hK, hAO, hN⟩ := id hZ
  have hx := B.exec
  have hb := B.bytes
  have hr := B.returns
  have hts := atoms_spec (ws := vsX12_speed) B.pre
  have hown : s.vm.findClass RX12 = some m.cls := findClass_of_methodNamed B.named
  have hlocks := B.notSynchronized
  subst hsz
  have hD := hD0.self (sz := s.heap.size)
  generalize hAe : va_A [(h0, .inr (12, [.ref h1, .ref h2, .ref h3, .ref h4, .ref h5, .ref h6, .ref h7, .ref h8, .ref h9, .int 0, .int 0, .int 10, .int 0, .int 0, .int (-9), .int 0, .ref h10, .ref h11, .ref h12, .ref h13, .int 0, .int 0, .int 0, .ref h14, .int 0, .int 0, .int 0, .int (-9), .int 0, .ref h15, .int 0, .int 0, .int 0, .ref h16, .ref h17, .ref h18, .int 0, .int 0])), (h1, .inl (cI, 7, .inl (fun _ => 0)))] s.heap.size = A at hD ⊢
  have hA : ∀ q : Nat, s.heap.size ≤ q → A q := fun q h => by rw [← hAe]; exact Or.inr h
  have hS : va_S A s.heap s.heap [] := va_S.rf
  have hP : va_P (dC, dI) vwCl [(h0, .inr (12, [.ref h1, .ref h2, .ref h3, .ref h4, .ref h5, .ref h6, .ref h7, .ref h8, .ref h9, .int 0, .int 0, .int 10, .int 0, .int 0, .int (-9), .int 0, .ref h10, .ref h11, .ref h12, .ref h13, .int 0, .int 0, .int 0, .ref h14, .int 0, .int 0, .int 0, .int (-9), .int 0, .ref h15, .int 0, .int 0, .int 0, .ref h16, .ref h17, .ref h18, .int 0, .int 0])), (h1, .inl (cI, 7, .inl (fun _ => 0)))] s.heap := hP
  have hl := lv_entry ([.ref h0, .int p0, .int p1]) (n := 5) (Nat.le_of_ble_eq_true rfl)
  rw [lg_entry_eq]
  generalize (lg_sl ([.ref h0, .int p0, .int p1]) ++ List.replicate (5 - (lg_sl ([.ref h0, .int p0, .int p1])).length) Slot.unset).toArray = ls at hl ⊢
  have hl : lv_has ls 5 [(0, .ref h0), (1, .int p0), (2, .int p1)] := hl
  refine lv_aload_n hx hb dX12_speed_0 rfl (lv_at hl 0 rfl) ?_
  refine lv_iload_n hx hb dX12_speed_1 rfl (lv_at hl 1 rfl) ?_
  refine z_calli (wc := [(h0, .inr (12, [.ref h1, .ref h2, .ref h3, .ref h4, .ref h5, .ref h6, .ref h7, .ref h8, .ref h9, .int 0, .int 0, .int 10, .int 0, .int 0, .int (-9), .int 0, .ref h10, .ref h11, .ref h12, .ref h13, .int 0, .int 0, .int 0, .ref h14, .int 0, .int 0, .int 0, .int (-9), .int 0, .ref h15, .int 0, .int 0, .int 0, .ref h16, .ref h17, .ref h18, .int 0, .int 0]))]) (wr := [(h1, .inl (cI, 7, .inl (fun _ => 0)))]) (w1 := (fun _ => [(h0, .inr (12, [.ref h1, .ref h2, .ref h3, .ref h4, .ref h5, .ref h6, .ref h7, .ref h8, .ref h9, .int 0, .int 0, .int 10, .int 0, .int 0, .int (-9), .int 0, .ref h10, .ref h11, .ref h12, .ref h13, .int 0, .int 0, .int 0, .ref h14, .int 0, .int 0, .int 0, .int (-9), .int 0, .ref h15, .int 0, .int 0, .int 0, .ref h16, .ref h17, .ref h18, .int 0, .int 0]))])) (va_runV (As := [.int p0]) (rest := []) ⟨hx, hb, hml, hown, hts⟩ (kX12_isPlayer_1 l dC dI cI cQ h0 h1 h2 h3 h4 h5 h6 h7 h8 h9 h10 h11 h12 h13 h14 h15 h16 h17 h18 p0 hp0l hp0h s.heap.size) (cwV 1 hts gv_X12_speed_X12_isPlayer_117 rfl rfl rfl (by decide +kernel) ⟨Nat.le_of_ble_eq_true rfl, Nat.le_of_ble_eq_true rfl⟩) ⟨z_blind, va_recv hK hP (ci := 12) (q0 := 0) rfl rfl, z_pre hZ hP hD [0] rfl (by decide)⟩ rfl rfl hl.1 rfl (lv_room (Nat.le_of_ble_eq_true rfl)) dX12_speed_2 ⟨Nat.le_of_ble_eq_true rfl, Nat.le_of_ble_eq_true rfl⟩) hP hD hS hA [0] [1] rfl rfl (by decide) (by decide) (fun _ H locs hP hD hS => ?_)
  have hP : va_P (dC, dI) vwCl [(h1, .inl (cI, 7, .inl (fun _ => 0))), (h0, .inr (12, [.ref h1, .ref h2, .ref h3, .ref h4, .ref h5, .ref h6, .ref h7, .ref h8, .ref h9, .int 0, .int 0, .int 10, .int 0, .int 0, .int (-9), .int 0, .ref h10, .ref h11, .ref h12, .ref h13, .int 0, .int 0, .int 0, .ref h14, .int 0, .int 0, .int 0, .int (-9), .int 0, .ref h15, .int 0, .int 0, .int 0, .ref h16, .ref h17, .ref h18, .int 0, .int 0]))] H := hP
  have hD : va_D A [(h1, .inl (cI, 7, .inl (fun _ => 0))), (h0, .inr (12, [.ref h1, .ref h2, .ref h3, .ref h4, .ref h5, .ref h6, .ref h7, .ref h8, .ref h9, .int 0, .int 0, .int 10, .int 0, .int 0, .int (-9), .int 0, .ref h10, .ref h11, .ref h12, .ref h13, .int 0, .int 0, .int 0, .ref h14, .int 0, .int 0, .int 0, .int (-9), .int 0, .ref h15, .int 0, .int 0, .int 0, .ref h16, .ref h17, .ref h18, .int 0, .int 0]))] := hD
  refine lv_if_ne (tgt := 14) hx hb dX12_speed_5 (by decide) (fun hc => ?_) (fun hc => ?_)
  · exact absurd hc (by decide)
  refine lv_aload_n hx hb dX12_speed_8 rfl (lv_at hl 0 rfl) ?_
  refine lv_iconst (v := (-1)) hx hb dX12_speed_9 (by decide) ?_
  refine z_calli (wc := [(h1, .inl (cI, 7, .inl (fun _ => 0))), (h0, .inr (12, [.ref h1, .ref h2, .ref h3, .ref h4, .ref h5, .ref h6, .ref h7, .ref h8, .ref h9, .int 0, .int 0, .int 10, .int 0, .int 0, .int (-9), .int 0, .ref h10, .ref h11, .ref h12, .ref h13, .int 0, .int 0, .int 0, .ref h14, .int 0, .int 0, .int 0, .int (-9), .int 0, .ref h15, .int 0, .int 0, .int 0, .ref h16, .ref h17, .ref h18, .int 0, .int 0]))]) (wr := []) (w1 := (fun _ => [(h1, .inl (cI, 7, .inl (upd (fun _ => 0) 1 1))), (h0, .inr (12, [.ref h1, .ref h2, .ref h3, .ref h4, .ref h5, .ref h6, .ref h7, .ref h8, .ref h9, .int 0, .int 0, .int 10, .int 0, .int 0, .int (-9), .int 0, .ref h10, .ref h11, .ref h12, .ref h13, .int 0, .int 0, .int 0, .ref h14, .int 0, .int 0, .int 0, .int (-9), .int 0, .ref h15, .int 0, .int 0, .int 0, .ref h16, .ref h17, .ref h18, .int 0, .int 0]))])) (va_runV (As := [.int (-1)]) (rest := []) ⟨hx, hb, hml, hown, hts⟩ (kX12_no_3 l dC dI cI cQ h0 h1 h2 h3 h4 h5 h6 h7 h8 h9 h10 h11 h12 h13 h14 h15 h16 h17 h18 H.size) (cwV 1 hts gv_X12_speed_X12_no_89 rfl rfl rfl (by decide +kernel) ⟨Nat.le_of_ble_eq_true rfl, Nat.le_of_ble_eq_true rfl⟩) ⟨z_blind, va_recv hK hP (ci := 12) (q0 := 1) rfl rfl, z_pre hZ hP hD [0, 1] rfl (by decide)⟩ rfl rfl hl.1 rfl (lv_room (Nat.le_of_ble_eq_true rfl)) dX12_speed_10 ⟨Nat.le_of_ble_eq_true rfl, Nat.le_of_ble_eq_true rfl⟩) hP hD hS hA [0, 1] [] rfl rfl (by decide) (by decide) (fun _ H locs hP hD hS => ?_)
  have hP : va_P (dC, dI) vwCl [(h1, .inl (cI, 7, .inl (upd (fun _ => 0) 1 1))), (h0, .inr (12, [.ref h1, .ref h2, .ref h3, .ref h4, .ref h5, .ref h6, .ref h7, .ref h8, .ref h9, .int 0, .int 0, .int 10, .int 0, .int 0, .int (-9), .int 0, .ref h10, .ref h11, .ref h12, .ref h13, .int 0, .int 0, .int 0, .ref h14, .int 0, .int 0, .int 0, .int (-9), .int 0, .ref h15, .int 0, .int 0, .int 0, .ref h16, .ref h17, .ref h18, .int 0, .int 0]))] H := hP
  have hD : va_D A [(h1, .inl (cI, 7, .inl (upd (fun _ => 0) 1 1))), (h0, .inr (12, [.ref h1, .ref h2, .ref h3, .ref h4, .ref h5, .ref h6, .ref h7, .ref h8, .ref h9, .int 0, .int 0, .int 10, .int 0, .int 0, .int (-9), .int 0, .ref h10, .ref h11, .ref h12, .ref h13, .int 0, .int 0, .int 0, .ref h14, .int 0, .int 0, .int 0, .int (-9), .int 0, .ref h15, .int 0, .int 0, .int 0, .ref h16, .ref h17, .ref h18, .int 0, .int 0]))] := hD
  have hP9 := hP.sub (ws' := []) [] rfl
  have hD9 := hD.sub (ws' := []) [] (by decide) rfl
  exact W.iret (v := (-1)) hx hb hr (fun t ht hW => ⟨⟨(-1), (fun k => [].getD k 0), rfl, rfl, by rw [ht]; exact hP9, hD9⟩, hS.F ht⟩) hS.2.2 dX12_speed_13
set_option maxHeartbeats 4000000 in
set_option maxRecDepth 100000 in
theorem kX12_bound_3 (l : Launch) (dC : Nat → ClassId) (dI : Nat → Nat → Nat) (cI cQ : ClassId) (p0 : Int32) (hp0l : -2147483648 ≤ p0.toInt) (hp0h : p0.toInt ≤ -1) (sz : Nat) : Met l yX12_bound vsX12_bound ({ frames := 0, cells := 0, slots := 0, locals := 0 }) (va_Pc [.int p0, .int 0, .int 99] (zB dC dI cI cQ [] sz)) (zQi dC dI (va_A [] sz) (fun ad => []) (-4)) 0 0 (va_A [] sz) := by
  refine Met.ofW (cc := cX12_bound) (maxL := 3) (ret := (some .int)) (by decide) rfl ?_
  intro p e s m args below meth c s₁ B hml hv
  obtain ⟨rfl, hsz, hP, hZ, hD0⟩ := hv
  obtain ⟨hK, hAO, hN⟩ := id hZ
  have hx := B.exec
  have hb := B.bytes
  have hr := B.returns
  have hts := atoms_spec (ws := vsX12_bound) B.pre
  have hown : s.vm.findClass RX12 = some m.cls := findClass_of_methodNamed B.named
  have hlocks := B.notSynchronized
  subst hsz
  have hD := hD0.self (sz := s.heap.size)
  generalize hAe : va_A [] s.heap.size = A at hD ⊢
  have hA : ∀ q : Nat, s.heap.size ≤ q → A q := fun q h => by rw [← hAe]; exact Or.inr h
  have hS : va_S A s.heap s.heap [] := va_S.rf
  have hP : va_P (dC, dI) vwCl [] s.heap := hP
  have hl := lv_entry ([.int p0, .int 0, .int 99]) (n := 3) (Nat.le_of_ble_eq_true rfl)
  rw [lg_entry_eq]
  generalize (lg_sl ([.int p0, .int 0, .int 99]) ++ List.replicate (3 - (lg_sl ([.int p0, .int 0, .int 99])).length) Slot.unset).toArray = ls at hl ⊢
  have hl : lv_has ls 3 [(0, .int p0), (1, .int 0), (2, .int 99)] := hl
  refine lv_iload_n hx hb dX12_bound_0 rfl (lv_at hl 0 rfl) ?_
  refine lv_iload_n hx hb dX12_bound_1 rfl (lv_at hl 1 rfl) ?_
  refine lv_icmp_ge (tgt := 10) hx hb dX12_bound_2 (by decide) (fun hc => ?_) (fun hc => ?_)
  · exact absurd ((fa_le _ _).mp hc) (by rw [show (0 : Int32).toInt = 0 from by decide]; omega)
  refine lv_bipush (v := (-4)) hx hb dX12_bound_5 (by decide) ?_
  refine lv_goto (tgt := 21) hx hb dX12_bound_7 (by decide) ?_
  have hP9 := hP.sub (ws' := []) [] rfl
  have hD9 := hD.sub (ws' := []) [] (by decide) rfl
  exact W.iret (v := (-4)) hx hb hr (fun t ht hW => ⟨⟨(-4), (fun k => [].getD k 0), rfl, rfl, by rw [ht]; exact hP9, hD9⟩, hS.F ht⟩) hS.2.2 dX12_bound_21
set_option maxHeartbeats 4000000 in
set_option maxRecDepth 100000 in
theorem kX12_lose (l : Launch) (dC : Nat → ClassId) (dI : Nat → Nat → Nat) (cI cQ : ClassId) (h0 h1 h2 h3 h4 h5 h6 h7 h8 h9 h10 h11 h12 h13 h14 h15 h16 h17 h18 : Nat) (p0 : Int32) (hp0l : -2147483648 ≤ p0.toInt) (hp0h : p0.toInt ≤ -1) (sz : Nat) : Met l yX12_lose vsX12_lose ({ frames := 1, cells := 0, slots := 0, locals := 22 }) (va_Pc [.ref h0, .int p0] (zB dC dI cI cQ [(h0, .inr (12, [.ref h1, .ref h2, .ref h3, .ref h4, .ref h5, .ref h6, .ref h7, .ref h8, .ref h9, .int 0, .int 0, .int 10, .int 0, .int 0, .int (-9), .int 0, .ref h10, .ref h11, .ref h12, .ref h13, .int 0, .int 0, .int 0, .ref h14, .int 0, .int 0, .int 0, .int (-9), .int 0, .ref h15, .int 0, .int 0, .int 0, .ref h16, .ref h17, .ref h18, .int 0, .int 0])), (h1, .inl (cI, 7, .inl (fun _ => 0)))] sz)) (zQi dC dI (va_A [(h0, .inr (12, [.ref h1, .ref h2, .ref h3, .ref h4, .ref h5, .ref h6, .ref h7, .ref h8, .ref h9, .int 0, .int 0, .int 10, .int 0, .int 0, .int (-9), .int 0, .ref h10, .ref h11, .ref h12, .ref h13, .int 0, .int 0, .int 0, .ref h14, .int 0, .int 0, .int 0, .int (-9), .int 0, .ref h15, .int 0, .int 0, .int 0, .ref h16, .ref h17, .ref h18, .int 0, .int 0])), (h1, .inl (cI, 7, .inl (fun _ => 0)))] sz) (fun ad => []) (-4)) 0 0 (va_A [(h0, .inr (12, [.ref h1, .ref h2, .ref h3, .ref h4, .ref h5, .ref h6, .ref h7, .ref h8, .ref h9, .int 0, .int 0, .int 10, .int 0, .int 0, .int (-9), .int 0, .ref h10, .ref h11, .ref h12, .ref h13, .int 0, .int 0, .int 0, .ref h14, .int 0, .int 0, .int 0, .int (-9), .int 0, .ref h15, .int 0, .int 0, .int 0, .ref h16, .ref h17, .ref h18, .int 0, .int 0])), (h1, .inl (cI, 7, .inl (fun _ => 0)))] sz) := by
  refine Met.ofW (cc := cX12_lose) (maxL := 4) (ret := (some .int)) (by decide) rfl ?_
  intro p e s m args below meth c s₁ B hml hv
  obtain ⟨rfl, hsz, hP, hZ, hD0⟩ := hv
  obtain ⟨hK, hAO, hN⟩ := id hZ
  have hx := B.exec
  have hb := B.bytes
  have hr := B.returns
  have hts := atoms_spec (ws := vsX12_lose) B.pre
  have hown : s.vm.findClass RX12 = some m.cls := findClass_of_methodNamed B.named
  have hlocks := B.notSynchronized
  subst hsz
  have hD := hD0.self (sz := s.heap.size)
  generalize hAe : va_A [(h0, .inr (12, [.ref h1, .ref h2, .ref h3, .ref h4, .ref h5, .ref h6, .ref h7, .ref h8, .ref h9, .int 0, .int 0, .int 10, .int 0, .int 0, .int (-9), .int 0, .ref h10, .ref h11, .ref h12, .ref h13, .int 0, .int 0, .int 0, .ref h14, .int 0, .int 0, .int 0, .int (-9), .int 0, .ref h15, .int 0, .int 0, .int 0, .ref h16, .ref h17, .ref h18, .int 0, .int 0])), (h1, .inl (cI, 7, .inl (fun _ => 0)))] s.heap.size = A at hD ⊢
  have hA : ∀ q : Nat, s.heap.size ≤ q → A q := fun q h => by rw [← hAe]; exact Or.inr h
  have hS : va_S A s.heap s.heap [] := va_S.rf
  have hP : va_P (dC, dI) vwCl [(h0, .inr (12, [.ref h1, .ref h2, .ref h3, .ref h4, .ref h5, .ref h6, .ref h7, .ref h8, .ref h9, .int 0, .int 0, .int 10, .int 0, .int 0, .int (-9), .int 0, .ref h10, .ref h11, .ref h12, .ref h13, .int 0, .int 0, .int 0, .ref h14, .int 0, .int 0, .int 0, .int (-9), .int 0, .ref h15, .int 0, .int 0, .int 0, .ref h16, .ref h17, .ref h18, .int 0, .int 0])), (h1, .inl (cI, 7, .inl (fun _ => 0)))] s.heap := hP
  have hl := lv_entry ([.ref h0, .int p0]) (n := 4) (Nat.le_of_ble_eq_true rfl)
  rw [lg_entry_eq]
  generalize (lg_sl ([.ref h0, .int p0]) ++ List.replicate (4 - (lg_sl ([.ref h0, .int p0])).length) Slot.unset).toArray = ls at hl ⊢
  have hl : lv_has ls 4 [(0, .ref h0), (1, .int p0)] := hl
  refine lv_iload_n hx hb dX12_lose_0 rfl (lv_at hl 1 rfl) ?_
  refine lv_iconst (v := 0) hx hb dX12_lose_1 (by decide) ?_
  refine lv_bipush (v := 99) hx hb dX12_lose_2 (by decide) ?_
  refine z_calli (wc := []) (wr := [(h0, .inr (12, [.ref h1, .ref h2, .ref h3, .ref h4, .ref h5, .ref h6, .ref h7, .ref h8, .ref h9, .int 0, .int 0, .int 10, .int 0, .int 0, .int (-9), .int 0, .ref h10, .ref h11, .ref h12, .ref h13, .int 0, .int 0, .int 0, .ref h14, .int 0, .int 0, .int 0, .int (-9), .int 0, .ref h15, .int 0, .int 0, .int 0, .ref h16, .ref h17, .ref h18, .int 0, .int 0])), (h1, .inl (cI, 7, .inl (fun _ => 0)))]) (w1 := (fun _ => [])) (va_runS (As := [.int p0, .int 0, .int 99]) (rest := []) ⟨hx, hb, hml, hown, hts⟩ (kX12_bound_3 l dC dI cI cQ p0 hp0l hp0h s.heap.size) (va_cwS 3 hts gv_X12_lose_X12_bound_82 rfl rfl rfl (by decide +kernel) ⟨Nat.le_of_ble_eq_true rfl, Nat.le_of_ble_eq_true rfl⟩) ⟨z_blind, z_pre hZ hP hD [] rfl (by decide)⟩ rfl rfl hl.1 rfl (lv_room (Nat.le_of_ble_eq_true rfl)) dX12_lose_4 ⟨Nat.le_of_ble_eq_true rfl, Nat.le_of_ble_eq_true rfl⟩) hP hD hS hA [] [0, 1] rfl rfl (by decide) (by decide) (fun _ H locs hP hD hS => ?_)
  have hP : va_P (dC, dI) vwCl [(h0, .inr (12, [.ref h1, .ref h2, .ref h3, .ref h4, .ref h5, .ref h6, .ref h7, .ref h8, .ref h9, .int 0, .int 0, .int 10, .int 0, .int 0, .int (-9), .int 0, .ref h10, .ref h11, .ref h12, .ref h13, .int 0, .int 0, .int 0, .ref h14, .int 0, .int 0, .int 0, .int (-9), .int 0, .ref h15, .int 0, .int 0, .int 0, .ref h16, .ref h17, .ref h18, .int 0, .int 0])), (h1, .inl (cI, 7, .inl (fun _ => 0)))] H := hP
  have hD : va_D A [(h0, .inr (12, [.ref h1, .ref h2, .ref h3, .ref h4, .ref h5, .ref h6, .ref h7, .ref h8, .ref h9, .int 0, .int 0, .int 10, .int 0, .int 0, .int (-9), .int 0, .ref h10, .ref h11, .ref h12, .ref h13, .int 0, .int 0, .int 0, .ref h14, .int 0, .int 0, .int 0, .int (-9), .int 0, .ref h15, .int 0, .int 0, .int 0, .ref h16, .ref h17, .ref h18, .int 0, .int 0])), (h1, .inl (cI, 7, .inl (fun _ => 0)))] := hD
  refine lv_istore_n (lv' := [(2, .int (-4)), (0, .ref h0), (1, .int p0)]) hx hb dX12_lose_7 rfl hl (by decide) rfl (fun ls hl => ?_)
  refine lv_iload_n hx hb dX12_lose_8 rfl (lv_at hl 0 rfl) ?_
  refine lv_if_eq (tgt := 18) hx hb dX12_lose_9 (by decide) (fun hc => ?_) (fun hc => ?_)
  · exact absurd hc (by decide)
  refine lv_aload_n hx hb dX12_lose_12 rfl (lv_at hl 1 rfl) ?_
  refine lv_iload_n hx hb dX12_lose_13 rfl (lv_at hl 0 rfl) ?_
  refine z_calli (wc := [(h0, .inr (12, [.ref h1, .ref h2, .ref h3, .ref h4, .ref h5, .ref h6, .ref h7, .ref h8, .ref h9, .int 0, .int 0, .int 10, .int 0, .int 0, .int (-9), .int 0, .ref h10, .ref h11, .ref h12, .ref h13, .int 0, .int 0, .int 0, .ref h14, .int 0, .int 0, .int 0, .int (-9), .int 0, .ref h15, .int 0, .int 0, .int 0, .ref h16, .ref h17, .ref h18, .int 0, .int 0])), (h1, .inl (cI, 7, .inl (fun _ => 0)))]) (wr := []) (w1 := (fun _ => [(h0, .inr (12, [.ref h1, .ref h2, .ref h3, .ref h4, .ref h5, .ref h6, .ref h7, .ref h8, .ref h9, .int 0, .int 0, .int 10, .int 0, .int 0, .int (-9), .int 0, .ref h10, .ref h11, .ref h12, .ref h13, .int 0, .int 0, .int 0, .ref h14, .int 0, .int 0, .int 0, .int (-9), .int 0, .ref h15, .int 0, .int 0, .int 0, .ref h16, .ref h17, .ref h18, .int 0, .int 0])), (h1, .inl (cI, 7, .inl (upd (fun _ => 0) 4 1)))])) (va_runV (As := [.int (-4)]) (rest := []) ⟨hx, hb, hml, hown, hts⟩ (kX12_no l dC dI cI cQ h0 h1 h2 h3 h4 h5 h6 h7 h8 h9 h10 h11 h12 h13 h14 h15 h16 h17 h18 H.size) (cwV 1 hts gv_X12_lose_X12_no_89 rfl rfl rfl (by decide +kernel) ⟨Nat.le_of_ble_eq_true rfl, Nat.le_of_ble_eq_true rfl⟩) ⟨z_blind, va_recv hK hP (ci := 12) (q0 := 0) rfl rfl, z_pre hZ hP hD [0, 1] rfl (by decide)⟩ rfl rfl hl.1 rfl (lv_room (Nat.le_of_ble_eq_true rfl)) dX12_lose_14 ⟨Nat.le_of_ble_eq_true rfl, Nat.le_of_ble_eq_true rfl⟩) hP hD hS hA [0, 1] [] rfl rfl (by decide) (by decide) (fun _ H locs hP hD hS => ?_)
  have hP : va_P (dC, dI) vwCl [(h0, .inr (12, [.ref h1, .ref h2, .ref h3, .ref h4, .ref h5, .ref h6, .ref h7, .ref h8, .ref h9, .int 0, .int 0, .int 10, .int 0, .int 0, .int (-9), .int 0, .ref h10, .ref h11, .ref h12, .ref h13, .int 0, .int 0, .int 0, .ref h14, .int 0, .int 0, .int 0, .int (-9), .int 0, .ref h15, .int 0, .int 0, .int 0, .ref h16, .ref h17, .ref h18, .int 0, .int 0])), (h1, .inl (cI, 7, .inl (upd (fun _ => 0) 4 1)))] H := hP
  have hD : va_D A [(h0, .inr (12, [.ref h1, .ref h2, .ref h3, .ref h4, .ref h5, .ref h6, .ref h7, .ref h8, .ref h9, .int 0, .int 0, .int 10, .int 0, .int 0, .int (-9), .int 0, .ref h10, .ref h11, .ref h12, .ref h13, .int 0, .int 0, .int 0, .ref h14, .int 0, .int 0, .int 0, .int (-9), .int 0, .ref h15, .int 0, .int 0, .int 0, .ref h16, .ref h17, .ref h18, .int 0, .int 0])), (h1, .inl (cI, 7, .inl (upd (fun _ => 0) 4 1)))] := hD
  have hP9 := hP.sub (ws' := []) [] rfl
  have hD9 := hD.sub (ws' := []) [] (by decide) rfl
  exact W.iret (v := (-4)) hx hb hr (fun t ht hW => ⟨⟨(-4), (fun k => [].getD k 0), rfl, rfl, by rw [ht]; exact hP9, hD9⟩, hS.F ht⟩) hS.2.2 dX12_lose_17
set_option maxHeartbeats 4000000 in
set_option maxRecDepth 100000 in
theorem kX12_bound_4 (l : Launch) (dC : Nat → ClassId) (dI : Nat → Nat → Nat) (cI cQ : ClassId) (p0 : Int32) (hp0l : 0 ≤ p0.toInt) (hp0h : p0.toInt ≤ 99) (sz : Nat) : Met l yX12_bound vsX12_bound ({ frames := 0, cells := 0, slots := 0, locals := 0 }) (va_Pc [.int p0, .int 0, .int 99] (zB dC dI cI cQ [] sz)) (zQi dC dI (va_A [] sz) (fun ad => []) 0) 0 0 (va_A [] sz) := by
  refine Met.ofW (cc := cX12_bound) (maxL := 3) (ret := (some .int)) (by decide) rfl ?_
  intro p e s m args below meth c s₁ B hml hv
  obtain ⟨rfl, hsz, hP, hZ, hD0⟩ := hv
  obtain ⟨hK, hAO, hN⟩ := id hZ
  have hx := B.exec
  have hb := B.bytes
  have hr := B.returns
  have hts := atoms_spec (ws := vsX12_bound) B.pre
  have hown : s.vm.findClass RX12 = some m.cls := findClass_of_methodNamed B.named
  have hlocks := B.notSynchronized
  subst hsz
  have hD := hD0.self (sz := s.heap.size)
  generalize hAe : va_A [] s.heap.size = A at hD ⊢
  have hA : ∀ q : Nat, s.heap.size ≤ q → A q := fun q h => by rw [← hAe]; exact Or.inr h
  have hS : va_S A s.heap s.heap [] := va_S.rf
  have hP : va_P (dC, dI) vwCl [] s.heap := hP
  have hl := lv_entry ([.int p0, .int 0, .int 99]) (n := 3) (Nat.le_of_ble_eq_true rfl)
  rw [lg_entry_eq]
  generalize (lg_sl ([.int p0, .int 0, .int 99]) ++ List.replicate (3 - (lg_sl ([.int p0, .int 0, .int 99])).length) Slot.unset).toArray = ls at hl ⊢
  have hl : lv_has ls 3 [(0, .int p0), (1, .int 0), (2, .int 99)] := hl
  refine lv_iload_n hx hb dX12_bound_0 rfl (lv_at hl 0 rfl) ?_
  refine lv_iload_n hx hb dX12_bound_1 rfl (lv_at hl 1 rfl) ?_
  refine lv_icmp_ge (tgt := 10) hx hb dX12_bound_2 (by decide) (fun hc => ?_) (fun hc => ?_)
  rotate_left; exact absurd ((fa_le _ _).mpr (by rw [show (0 : Int32).toInt = 0 from by decide]; omega)) hc
  refine lv_iload_n hx hb dX12_bound_10 rfl (lv_at hl 0 rfl) ?_
  refine lv_iload_n hx hb dX12_bound_11 rfl (lv_at hl 2 rfl) ?_
  refine lv_icmp_le (tgt := 20) hx hb dX12_bound_12 (by decide) (fun hc => ?_) (fun hc => ?_)
  rotate_left; exact absurd ((fa_le _ _).mpr (by rw [show (99 : Int32).toInt = 99 from by decide]; omega)) hc
  refine lv_iconst (v := 0) hx hb dX12_bound_20 (by decide) ?_
  have hP9 := hP.sub (ws' := []) [] rfl
  have hD9 := hD.sub (ws' := []) [] (by decide) rfl
  exact W.iret (v := 0) hx hb hr (fun t ht hW => ⟨⟨0, (fun k => [].getD k 0), rfl, rfl, by rw [ht]; exact hP9, hD9⟩, hS.F ht⟩) hS.2.2 dX12_bound_21
set_option maxHeartbeats 4000000 in
set_option maxRecDepth 100000 in
theorem kX12_lose_1 (l : Launch) (dC : Nat → ClassId) (dI : Nat → Nat → Nat) (cI cQ : ClassId) (h0 h1 h2 h3 h4 h5 h6 h7 h8 h9 h10 h11 h12 h13 h14 h15 h16 h17 h18 : Nat) (p0 : Int32) (hp0l : 0 ≤ p0.toInt) (hp0h : p0.toInt ≤ 99) (sz : Nat) : Met l yX12_lose vsX12_lose ({ frames := 1, cells := 0, slots := 0, locals := 22 }) (va_Pc [.ref h0, .int p0] (zB dC dI cI cQ [(h0, .inr (12, [.ref h1, .ref h2, .ref h3, .ref h4, .ref h5, .ref h6, .ref h7, .ref h8, .ref h9, .int 0, .int 0, .int 10, .int 0, .int 0, .int (-9), .int 0, .ref h10, .ref h11, .ref h12, .ref h13, .int 0, .int 0, .int 0, .ref h14, .int 0, .int 0, .int 0, .int (-9), .int 0, .ref h15, .int 0, .int 0, .int 0, .ref h16, .ref h17, .ref h18, .int 0, .int 0]))] sz)) (zQi dC dI (va_A [(h0, .inr (12, [.ref h1, .ref h2, .ref h3, .ref h4, .ref h5, .ref h6, .ref h7, .ref h8, .ref h9, .int 0, .int 0, .int 10, .int 0, .int 0, .int (-9), .int 0, .ref h10, .ref h11, .ref h12, .ref h13, .int 0, .int 0, .int 0, .ref h14, .int 0, .int 0, .int 0, .int (-9), .int 0, .ref h15, .int 0, .int 0, .int 0, .ref h16, .ref h17, .ref h18, .int 0, .int 0]))] sz) (fun ad => []) 10) 0 0 (va_A [(h0, .inr (12, [.ref h1, .ref h2, .ref h3, .ref h4, .ref h5, .ref h6, .ref h7, .ref h8, .ref h9, .int 0, .int 0, .int 10, .int 0, .int 0, .int (-9), .int 0, .ref h10, .ref h11, .ref h12, .ref h13, .int 0, .int 0, .int 0, .ref h14, .int 0, .int 0, .int 0, .int (-9), .int 0, .ref h15, .int 0, .int 0, .int 0, .ref h16, .ref h17, .ref h18, .int 0, .int 0]))] sz) := by
  refine Met.ofW (cc := cX12_lose) (maxL := 4) (ret := (some .int)) (by decide) rfl ?_
  intro p e s m args below meth c s₁ B hml hv
  obtain ⟨rfl, hsz, hP, hZ, hD0⟩ := hv
  obtain ⟨hK, hAO, hN⟩ := id hZ
  have hx := B.exec
  have hb := B.bytes
  have hr := B.returns
  have hts := atoms_spec (ws := vsX12_lose) B.pre
  have hown : s.vm.findClass RX12 = some m.cls := findClass_of_methodNamed B.named
  have hlocks := B.notSynchronized
  subst hsz
  have hD := hD0.self (sz := s.heap.size)
  generalize hAe : va_A [(h0, .inr (12, [.ref h1, .ref h2, .ref h3, .ref h4, .ref h5, .ref h6, .ref h7, .ref h8, .ref h9, .int 0, .int 0, .int 10, .int 0, .int 0, .int (-9), .int 0, .ref h10, .ref h11, .ref h12, .ref h13, .int 0, .int 0, .int 0, .ref h14, .int 0, .int 0, .int 0, .int (-9), .int 0, .ref h15, .int 0, .int 0, .int 0, .ref h16, .ref h17, .ref h18, .int 0, .int 0]))] s.heap.size = A at hD ⊢
  have hA : ∀ q : Nat, s.heap.size ≤ q → A q := fun q h => by rw [← hAe]; exact Or.inr h
  have hS : va_S A s.heap s.heap [] := va_S.rf
  have hP : va_P (dC, dI) vwCl [(h0, .inr (12, [.ref h1, .ref h2, .ref h3, .ref h4, .ref h5, .ref h6, .ref h7, .ref h8, .ref h9, .int 0, .int 0, .int 10, .int 0, .int 0, .int (-9), .int 0, .ref h10, .ref h11, .ref h12, .ref h13, .int 0, .int 0, .int 0, .ref h14, .int 0, .int 0, .int 0, .int (-9), .int 0, .ref h15, .int 0, .int 0, .int 0, .ref h16, .ref h17, .ref h18, .int 0, .int 0]))] s.heap := hP
  have hl := lv_entry ([.ref h0, .int p0]) (n := 4) (Nat.le_of_ble_eq_true rfl)
  rw [lg_entry_eq]
  generalize (lg_sl ([.ref h0, .int p0]) ++ List.replicate (4 - (lg_sl ([.ref h0, .int p0])).length) Slot.unset).toArray = ls at hl ⊢
  have hl : lv_has ls 4 [(0, .ref h0), (1, .int p0)] := hl
  refine lv_iload_n hx hb dX12_lose_0 rfl (lv_at hl 1 rfl) ?_
  refine lv_iconst (v := 0) hx hb dX12_lose_1 (by decide) ?_
  refine lv_bipush (v := 99) hx hb dX12_lose_2 (by decide) ?_
  refine z_calli (wc := []) (wr := [(h0, .inr (12, [.ref h1, .ref h2, .ref h3, .ref h4, .ref h5, .ref h6, .ref h7, .ref h8, .ref h9, .int 0, .int 0, .int 10, .int 0, .int 0, .int (-9), .int 0, .ref h10, .ref h11, .ref h12, .ref h13, .int 0, .int 0, .int 0, .ref h14, .int 0, .int 0, .int 0, .int (-9), .int 0, .ref h15, .int 0, .int 0, .int 0, .ref h16, .ref h17, .ref h18, .int 0, .int 0]))]) (w1 := (fun _ => [])) (va_runS (As := [.int p0, .int 0, .int 99]) (rest := []) ⟨hx, hb, hml, hown, hts⟩ (kX12_bound_4 l dC dI cI cQ p0 hp0l hp0h s.heap.size) (va_cwS 3 hts gv_X12_lose_X12_bound_82 rfl rfl rfl (by decide +kernel) ⟨Nat.le_of_ble_eq_true rfl, Nat.le_of_ble_eq_true rfl⟩) ⟨z_blind, z_pre hZ hP hD [] rfl (by decide)⟩ rfl rfl hl.1 rfl (lv_room (Nat.le_of_ble_eq_true rfl)) dX12_lose_4 ⟨Nat.le_of_ble_eq_true rfl, Nat.le_of_ble_eq_true rfl⟩) hP hD hS hA [] [0] rfl rfl (by decide) (by decide) (fun _ H locs hP hD hS => ?_)
  have hP : va_P (dC, dI) vwCl [(h0, .inr (12, [.ref h1, .ref h2, .ref h3, .ref h4, .ref h5, .ref h6, .ref h7, .ref h8, .ref h9, .int 0, .int 0, .int 10, .int 0, .int 0, .int (-9), .int 0, .ref h10, .ref h11, .ref h12, .ref h13, .int 0, .int 0, .int 0, .ref h14, .int 0, .int 0, .int 0, .int (-9), .int 0, .ref h15, .int 0, .int 0, .int 0, .ref h16, .ref h17, .ref h18, .int 0, .int 0]))] H := hP
  have hD : va_D A [(h0, .inr (12, [.ref h1, .ref h2, .ref h3, .ref h4, .ref h5, .ref h6, .ref h7, .ref h8, .ref h9, .int 0, .int 0, .int 10, .int 0, .int 0, .int (-9), .int 0, .ref h10, .ref h11, .ref h12, .ref h13, .int 0, .int 0, .int 0, .ref h14, .int 0, .int 0, .int 0, .int (-9), .int 0, .ref h15, .int 0, .int 0, .int 0, .ref h16, .ref h17, .ref h18, .int 0, .int 0]))] := hD
  refine lv_istore_n (lv' := [(2, .int 0), (0, .ref h0), (1, .int p0)]) hx hb dX12_lose_7 rfl hl (by decide) rfl (fun ls hl => ?_)
  refine lv_iload_n hx hb dX12_lose_8 rfl (lv_at hl 0 rfl) ?_
  refine lv_if_eq (tgt := 18) hx hb dX12_lose_9 (by decide) (fun hc => ?_) (fun hc => ?_)
  rotate_left; exact absurd hc (by decide)
  refine lv_aload_n hx hb dX12_lose_18 rfl (lv_at hl 1 rfl) ?_
  refine va_get (D := (dC, dI)) (ci := 12) (v := .int 10) (C := RX12) (T := TX12) (N := 38) hx hb hts in_X12_lose_X12 hown hK hP 0 rfl rfl 11 (by decide) (hts (.fieldLink RX12 37 "EachOnHisCueModel" "lose" "I") (by decide +kernel)) (fun _ h9 => h9) rfl dX12_lose_19 ?_
  refine lv_istore_n (lv' := [(3, .int 10), (2, .int 0), (0, .ref h0), (1, .int p0)]) hx hb dX12_lose_22 rfl hl (by decide) rfl (fun ls hl => ?_)
  refine lv_aload_n hx hb dX12_lose_23 rfl (lv_at hl 2 rfl) ?_
  refine lv_iload_n hx hb dX12_lose_24 rfl (lv_at hl 3 rfl) ?_
  refine va_put (D := (dC, dI)) (ci := 12) (v := .int p0) (ty := .int) (C := RX12) (T := TX12) (N := 38) hx hb hts in_X12_lose_X12 tyX12 tyX12_ok nmX12 hown hK hP hD hS 0 rfl rfl 11 (by decide) (hts (.fieldLink RX12 37 "EachOnHisCueModel" "lose" "I") (by decide +kernel)) (fun _ h9 => h9) rfl (by decide +kernel) rfl rfl (Nat.le_of_ble_eq_true rfl) dX12_lose_25 (fun H locs hP hD hS => ?_)
  have hP : va_P (dC, dI) vwCl [(h0, .inr (12, [.ref h1, .ref h2, .ref h3, .ref h4, .ref h5, .ref h6, .ref h7, .ref h8, .ref h9, .int 0, .int 0, .int p0, .int 0, .int 0, .int (-9), .int 0, .ref h10, .ref h11, .ref h12, .ref h13, .int 0, .int 0, .int 0, .ref h14, .int 0, .int 0, .int 0, .int (-9), .int 0, .ref h15, .int 0, .int 0, .int 0, .ref h16, .ref h17, .ref h18, .int 0, .int 0]))] H := hP
  have hD : va_D A [(h0, .inr (12, [.ref h1, .ref h2, .ref h3, .ref h4, .ref h5, .ref h6, .ref h7, .ref h8, .ref h9, .int 0, .int 0, .int p0, .int 0, .int 0, .int (-9), .int 0, .ref h10, .ref h11, .ref h12, .ref h13, .int 0, .int 0, .int 0, .ref h14, .int 0, .int 0, .int 0, .int (-9), .int 0, .ref h15, .int 0, .int 0, .int 0, .ref h16, .ref h17, .ref h18, .int 0, .int 0]))] := hD
  refine lv_iload_n hx hb dX12_lose_28 rfl (lv_at hl 0 rfl) ?_
  have hP9 := hP.sub (ws' := []) [] rfl
  have hD9 := hD.sub (ws' := []) [] (by decide) rfl
  exact W.iret (v := 10) hx hb hr (fun t ht hW => ⟨⟨10, (fun k => [].getD k 0), rfl, rfl, by rw [ht]; exact hP9, hD9⟩, hS.F ht⟩) hS.2.2 dX12_lose_29
set_option maxHeartbeats 4000000 in
set_option maxRecDepth 100000 in
theorem kX12_bound_5 (l : Launch) (dC : Nat → ClassId) (dI : Nat → Nat → Nat) (cI cQ : ClassId) (p0 : Int32) (hp0l : 100 ≤ p0.toInt) (hp0h : p0.toInt ≤ 2147483647) (sz : Nat) : Met l yX12_bound vsX12_bound ({ frames := 0, cells := 0, slots := 0, locals := 0 }) (va_Pc [.int p0, .int 0, .int 99] (zB dC dI cI cQ [] sz)) (zQi dC dI (va_A [] sz) (fun ad => []) (-6)) 0 0 (va_A [] sz) := by
  refine Met.ofW (cc := cX12_bound) (maxL := 3) (ret := (some .int)) (by decide) rfl ?_
  intro p e s m args below meth c s₁ B hml hv
  obtain ⟨rfl, hsz, hP, hZ, hD0⟩ := hv
  obtain ⟨hK, hAO, hN⟩ := id hZ
  have hx := B.exec
  have hb := B.bytes
  have hr := B.returns
  have hts := atoms_spec (ws := vsX12_bound) B.pre
  have hown : s.vm.findClass RX12 = some m.cls := findClass_of_methodNamed B.named
  have hlocks := B.notSynchronized
  subst hsz
  have hD := hD0.self (sz := s.heap.size)
  generalize hAe : va_A [] s.heap.size = A at hD ⊢
  have hA : ∀ q : Nat, s.heap.size ≤ q → A q := fun q h => by rw [← hAe]; exact Or.inr h
  have hS : va_S A s.heap s.heap [] := va_S.rf
  have hP : va_P (dC, dI) vwCl [] s.heap := hP
  have hl := lv_entry ([.int p0, .int 0, .int 99]) (n := 3) (Nat.le_of_ble_eq_true rfl)
  rw [lg_entry_eq]
  generalize (lg_sl ([.int p0, .int 0, .int 99]) ++ List.replicate (3 - (lg_sl ([.int p0, .int 0, .int 99])).length) Slot.unset).toArray = ls at hl ⊢
  have hl : lv_has ls 3 [(0, .int p0), (1, .int 0), (2, .int 99)] := hl
  refine lv_iload_n hx hb dX12_bound_0 rfl (lv_at hl 0 rfl) ?_
  refine lv_iload_n hx hb dX12_bound_1 rfl (lv_at hl 1 rfl) ?_
  refine lv_icmp_ge (tgt := 10) hx hb dX12_bound_2 (by decide) (fun hc => ?_) (fun hc => ?_)
  rotate_left; exact absurd ((fa_le _ _).mpr (by rw [show (0 : Int32).toInt = 0 from by decide]; omega)) hc
  refine lv_iload_n hx hb dX12_bound_10 rfl (lv_at hl 0 rfl) ?_
  refine lv_iload_n hx hb dX12_bound_11 rfl (lv_at hl 2 rfl) ?_
  refine lv_icmp_le (tgt := 20) hx hb dX12_bound_12 (by decide) (fun hc => ?_) (fun hc => ?_)
  · exact absurd ((fa_le _ _).mp hc) (by rw [show (99 : Int32).toInt = 99 from by decide]; omega)
  refine lv_bipush (v := (-6)) hx hb dX12_bound_15 (by decide) ?_
  refine lv_goto (tgt := 21) hx hb dX12_bound_17 (by decide) ?_
  have hP9 := hP.sub (ws' := []) [] rfl
  have hD9 := hD.sub (ws' := []) [] (by decide) rfl
  exact W.iret (v := (-6)) hx hb hr (fun t ht hW => ⟨⟨(-6), (fun k => [].getD k 0), rfl, rfl, by rw [ht]; exact hP9, hD9⟩, hS.F ht⟩) hS.2.2 dX12_bound_21
set_option maxHeartbeats 4000000 in
set_option maxRecDepth 100000 in
theorem kX12_lose_2 (l : Launch) (dC : Nat → ClassId) (dI : Nat → Nat → Nat) (cI cQ : ClassId) (h0 h1 h2 h3 h4 h5 h6 h7 h8 h9 h10 h11 h12 h13 h14 h15 h16 h17 h18 : Nat) (p0 : Int32) (hp0l : 100 ≤ p0.toInt) (hp0h : p0.toInt ≤ 2147483647) (sz : Nat) : Met l yX12_lose vsX12_lose ({ frames := 1, cells := 0, slots := 0, locals := 22 }) (va_Pc [.ref h0, .int p0] (zB dC dI cI cQ [(h0, .inr (12, [.ref h1, .ref h2, .ref h3, .ref h4, .ref h5, .ref h6, .ref h7, .ref h8, .ref h9, .int 0, .int 0, .int 10, .int 0, .int 0, .int (-9), .int 0, .ref h10, .ref h11, .ref h12, .ref h13, .int 0, .int 0, .int 0, .ref h14, .int 0, .int 0, .int 0, .int (-9), .int 0, .ref h15, .int 0, .int 0, .int 0, .ref h16, .ref h17, .ref h18, .int 0, .int 0])), (h1, .inl (cI, 7, .inl (fun _ => 0)))] sz)) (zQi dC dI (va_A [(h0, .inr (12, [.ref h1, .ref h2, .ref h3, .ref h4, .ref h5, .ref h6, .ref h7, .ref h8, .ref h9, .int 0, .int 0, .int 10, .int 0, .int 0, .int (-9), .int 0, .ref h10, .ref h11, .ref h12, .ref h13, .int 0, .int 0, .int 0, .ref h14, .int 0, .int 0, .int 0, .int (-9), .int 0, .ref h15, .int 0, .int 0, .int 0, .ref h16, .ref h17, .ref h18, .int 0, .int 0])), (h1, .inl (cI, 7, .inl (fun _ => 0)))] sz) (fun ad => []) (-6)) 0 0 (va_A [(h0, .inr (12, [.ref h1, .ref h2, .ref h3, .ref h4, .ref h5, .ref h6, .ref h7, .ref h8, .ref h9, .int 0, .int 0, .int 10, .int 0, .int 0, .int (-9), .int 0, .ref h10, .ref h11, .ref h12, .ref h13, .int 0, .int 0, .int 0, .ref h14, .int 0, .int 0, .int 0, .int (-9), .int 0, .ref h15, .int 0, .int 0, .int 0, .ref h16, .ref h17, .ref h18, .int 0, .int 0])), (h1, .inl (cI, 7, .inl (fun _ => 0)))] sz) := by
  refine Met.ofW (cc := cX12_lose) (maxL := 4) (ret := (some .int)) (by decide) rfl ?_
  intro p e s m args below meth c s₁ B hml hv
  obtain ⟨rfl, hsz, hP, hZ, hD0⟩ := hv
  obtain ⟨hK, hAO, hN⟩ := id hZ
  have hx := B.exec
  have hb := B.bytes
  have hr := B.returns
  have hts := atoms_spec (ws := vsX12_lose) B.pre
  have hown : s.vm.findClass RX12 = some m.cls := findClass_of_methodNamed B.named
  have hlocks := B.notSynchronized
  subst hsz
  have hD := hD0.self (sz := s.heap.size)
  generalize hAe : va_A [(h0, .inr (12, [.ref h1, .ref h2, .ref h3, .ref h4, .ref h5, .ref h6, .ref h7, .ref h8, .ref h9, .int 0, .int 0, .int 10, .int 0, .int 0, .int (-9), .int 0, .ref h10, .ref h11, .ref h12, .ref h13, .int 0, .int 0, .int 0, .ref h14, .int 0, .int 0, .int 0, .int (-9), .int 0, .ref h15, .int 0, .int 0, .int 0, .ref h16, .ref h17, .ref h18, .int 0, .int 0])), (h1, .inl (cI, 7, .inl (fun _ => 0)))] s.heap.size = A at hD ⊢
  have hA : ∀ q : Nat, s.heap.size ≤ q → A q := fun q h => by rw [← hAe]; exact Or.inr h
  have hS : va_S A s.heap s.heap [] := va_S.rf
  have hP : va_P (dC, dI) vwCl [(h0, .inr (12, [.ref h1, .ref h2, .ref h3, .ref h4, .ref h5, .ref h6, .ref h7, .ref h8, .ref h9, .int 0, .int 0, .int 10, .int 0, .int 0, .int (-9), .int 0, .ref h10, .ref h11, .ref h12, .ref h13, .int 0, .int 0, .int 0, .ref h14, .int 0, .int 0, .int 0, .int (-9), .int 0, .ref h15, .int 0, .int 0, .int 0, .ref h16, .ref h17, .ref h18, .int 0, .int 0])), (h1, .inl (cI, 7, .inl (fun _ => 0)))] s.heap := hP
  have hl := lv_entry ([.ref h0, .int p0]) (n := 4) (Nat.le_of_ble_eq_true rfl)
  rw [lg_entry_eq]
  generalize (lg_sl ([.ref h0, .int p0]) ++ List.replicate (4 - (lg_sl ([.ref h0, .int p0])).length) Slot.unset).toArray = ls at hl ⊢
  have hl : lv_has ls 4 [(0, .ref h0), (1, .int p0)] := hl
  refine lv_iload_n hx hb dX12_lose_0 rfl (lv_at hl 1 rfl) ?_
  refine lv_iconst (v := 0) hx hb dX12_lose_1 (by decide) ?_
  refine lv_bipush (v := 99) hx hb dX12_lose_2 (by decide) ?_
  refine z_calli (wc := []) (wr := [(h0, .inr (12, [.ref h1, .ref h2, .ref h3, .ref h4, .ref h5, .ref h6, .ref h7, .ref h8, .ref h9, .int 0, .int 0, .int 10, .int 0, .int 0, .int (-9), .int 0, .ref h10, .ref h11, .ref h12, .ref h13, .int 0, .int 0, .int 0, .ref h14, .int 0, .int 0, .int 0, .int (-9), .int 0, .ref h15, .int 0, .int 0, .int 0, .ref h16, .ref h17, .ref h18, .int 0, .int 0])), (h1, .inl (cI, 7, .inl (fun _ => 0)))]) (w1 := (fun _ => [])) (va_runS (As := [.int p0, .int 0, .int 99]) (rest := []) ⟨hx, hb, hml, hown, hts⟩ (kX12_bound_5 l dC dI cI cQ p0 hp0l hp0h s.heap.size) (va_cwS 3 hts gv_X12_lose_X12_bound_82 rfl rfl rfl (by decide +kernel) ⟨Nat.le_of_ble_eq_true rfl, Nat.le_of_ble_eq_true rfl⟩) ⟨z_blind, z_pre hZ hP hD [] rfl (by decide)⟩ rfl rfl hl.1 rfl (lv_room (Nat.le_of_ble_eq_true rfl)) dX12_lose_4 ⟨Nat.le_of_ble_eq_true rfl, Nat.le_of_ble_eq_true rfl⟩) hP hD hS hA [] [0, 1] rfl rfl (by decide) (by decide) (fun _ H locs hP hD hS => ?_)
  have hP : va_P (dC, dI) vwCl [(h0, .inr (12, [.ref h1, .ref h2, .ref h3, .ref h4, .ref h5, .ref h6, .ref h7, .ref h8, .ref h9, .int 0, .int 0, .int 10, .int 0, .int 0, .int (-9), .int 0, .ref h10, .ref h11, .ref h12, .ref h13, .int 0, .int 0, .int 0, .ref h14, .int 0, .int 0, .int 0, .int (-9), .int 0, .ref h15, .int 0, .int 0, .int 0, .ref h16, .ref h17, .ref h18, .int 0, .int 0])), (h1, .inl (cI, 7, .inl (fun _ => 0)))] H := hP
  have hD : va_D A [(h0, .inr (12, [.ref h1, .ref h2, .ref h3, .ref h4, .ref h5, .ref h6, .ref h7, .ref h8, .ref h9, .int 0, .int 0, .int 10, .int 0, .int 0, .int (-9), .int 0, .ref h10, .ref h11, .ref h12, .ref h13, .int 0, .int 0, .int 0, .ref h14, .int 0, .int 0, .int 0, .int (-9), .int 0, .ref h15, .int 0, .int 0, .int 0, .ref h16, .ref h17, .ref h18, .int 0, .int 0])), (h1, .inl (cI, 7, .inl (fun _ => 0)))] := hD
  refine lv_istore_n (lv' := [(2, .int (-6)), (0, .ref h0), (1, .int p0)]) hx hb dX12_lose_7 rfl hl (by decide) rfl (fun ls hl => ?_)
  refine lv_iload_n hx hb dX12_lose_8 rfl (lv_at hl 0 rfl) ?_
  refine lv_if_eq (tgt := 18) hx hb dX12_lose_9 (by decide) (fun hc => ?_) (fun hc => ?_)
  · exact absurd hc (by decide)
  refine lv_aload_n hx hb dX12_lose_12 rfl (lv_at hl 1 rfl) ?_
  refine lv_iload_n hx hb dX12_lose_13 rfl (lv_at hl 0 rfl) ?_
  refine z_calli (wc := [(h0, .inr (12, [.ref h1, .ref h2, .ref h3, .ref h4, .ref h5, .ref h6, .ref h7, .ref h8, .ref h9, .int 0, .int 0, .int 10, .int 0, .int 0, .int (-9), .int 0, .ref h10, .ref h11, .ref h12, .ref h13, .int 0, .int 0, .int 0, .ref h14, .int 0, .int 0, .int 0, .int (-9), .int 0, .ref h15, .int 0, .int 0, .int 0, .ref h16, .ref h17, .ref h18, .int 0, .int 0])), (h1, .inl (cI, 7, .inl (fun _ => 0)))]) (wr := []) (w1 := (fun _ => [(h0, .inr (12, [.ref h1, .ref h2, .ref h3, .ref h4, .ref h5, .ref h6, .ref h7, .ref h8, .ref h9, .int 0, .int 0, .int 10, .int 0, .int 0, .int (-9), .int 0, .ref h10, .ref h11, .ref h12, .ref h13, .int 0, .int 0, .int 0, .ref h14, .int 0, .int 0, .int 0, .int (-9), .int 0, .ref h15, .int 0, .int 0, .int 0, .ref h16, .ref h17, .ref h18, .int 0, .int 0])), (h1, .inl (cI, 7, .inl (upd (fun _ => 0) 6 1)))])) (va_runV (As := [.int (-6)]) (rest := []) ⟨hx, hb, hml, hown, hts⟩ (kX12_no_1 l dC dI cI cQ h0 h1 h2 h3 h4 h5 h6 h7 h8 h9 h10 h11 h12 h13 h14 h15 h16 h17 h18 H.size) (cwV 1 hts gv_X12_lose_X12_no_89 rfl rfl rfl (by decide +kernel) ⟨Nat.le_of_ble_eq_true rfl, Nat.le_of_ble_eq_true rfl⟩) ⟨z_blind, va_recv hK hP (ci := 12) (q0 := 0) rfl rfl, z_pre hZ hP hD [0, 1] rfl (by decide)⟩ rfl rfl hl.1 rfl (lv_room (Nat.le_of_ble_eq_true rfl)) dX12_lose_14 ⟨Nat.le_of_ble_eq_true rfl, Nat.le_of_ble_eq_true rfl⟩) hP hD hS hA [0, 1] [] rfl rfl (by decide) (by decide) (fun _ H locs hP hD hS => ?_)
  have hP : va_P (dC, dI) vwCl [(h0, .inr (12, [.ref h1, .ref h2, .ref h3, .ref h4, .ref h5, .ref h6, .ref h7, .ref h8, .ref h9, .int 0, .int 0, .int 10, .int 0, .int 0, .int (-9), .int 0, .ref h10, .ref h11, .ref h12, .ref h13, .int 0, .int 0, .int 0, .ref h14, .int 0, .int 0, .int 0, .int (-9), .int 0, .ref h15, .int 0, .int 0, .int 0, .ref h16, .ref h17, .ref h18, .int 0, .int 0])), (h1, .inl (cI, 7, .inl (upd (fun _ => 0) 6 1)))] H := hP
  have hD : va_D A [(h0, .inr (12, [.ref h1, .ref h2, .ref h3, .ref h4, .ref h5, .ref h6, .ref h7, .ref h8, .ref h9, .int 0, .int 0, .int 10, .int 0, .int 0, .int (-9), .int 0, .ref h10, .ref h11, .ref h12, .ref h13, .int 0, .int 0, .int 0, .ref h14, .int 0, .int 0, .int 0, .int (-9), .int 0, .ref h15, .int 0, .int 0, .int 0, .ref h16, .ref h17, .ref h18, .int 0, .int 0])), (h1, .inl (cI, 7, .inl (upd (fun _ => 0) 6 1)))] := hD
  have hP9 := hP.sub (ws' := []) [] rfl
  have hD9 := hD.sub (ws' := []) [] (by decide) rfl
  exact W.iret (v := (-6)) hx hb hr (fun t ht hW => ⟨⟨(-6), (fun k => [].getD k 0), rfl, rfl, by rw [ht]; exact hP9, hD9⟩, hS.F ht⟩) hS.2.2 dX12_lose_17
set_option maxHeartbeats 4000000 in
set_option maxRecDepth 100000 in
theorem kX12_comes (l : Launch) (dC : Nat → ClassId) (dI : Nat → Nat → Nat) (cI cQ : ClassId) (h0 h1 h2 h3 h4 h5 h6 h7 h8 h9 h10 h11 h12 h13 h14 h15 h16 h17 h18 : Nat) (p0 : Int32) (hp0l : -2147483648 ≤ p0.toInt) (hp0h : p0.toInt ≤ -1) (sz : Nat) : Met l yX12_comes vsX12_comes ({ frames := 1, cells := 0, slots := 0, locals := 21 }) (va_Pc [.ref h0, .int p0] (zB dC dI cI cQ [(h0, .inr (12, [.ref h1, .ref h2, .ref h3, .ref h4, .ref h5, .ref h6, .ref h7, .ref h8, .ref h9, .int 0, .int 0, .int 10, .int 0, .int 0, .int (-9), .int 0, .ref h10, .ref h11, .ref h12, .ref h13, .int 0, .int 0, .int 0, .ref h14, .int 0, .int 0, .int 0, .int (-9), .int 0, .ref h15, .int 0, .int 0, .int 0, .ref h16, .ref h17, .ref h18, .int 0, .int 0])), (h1, .inl (cI, 7, .inl (fun _ => 0)))] sz)) (zQi dC dI (va_A [(h0, .inr (12, [.ref h1, .ref h2, .ref h3, .ref h4, .ref h5, .ref h6, .ref h7, .ref h8, .ref h9, .int 0, .int 0, .int 10, .int 0, .int 0, .int (-9), .int 0, .ref h10, .ref h11, .ref h12, .ref h13, .int 0, .int 0, .int 0, .ref h14, .int 0, .int 0, .int 0, .int (-9), .int 0, .ref h15, .int 0, .int 0, .int 0, .ref h16, .ref h17, .ref h18, .int 0, .int 0])), (h1, .inl (cI, 7, .inl (fun _ => 0)))] sz) (fun ad => []) (-1)) 0 0 (va_A [(h0, .inr (12, [.ref h1, .ref h2, .ref h3, .ref h4, .ref h5, .ref h6, .ref h7, .ref h8, .ref h9, .int 0, .int 0, .int 10, .int 0, .int 0, .int (-9), .int 0, .ref h10, .ref h11, .ref h12, .ref h13, .int 0, .int 0, .int 0, .ref h14, .int 0, .int 0, .int 0, .int (-9), .int 0, .ref h15, .int 0, .int 0, .int 0, .ref h16, .ref h17, .ref h18, .int 0, .int 0])), (h1, .inl (cI, 7, .inl (fun _ => 0)))] sz) := by
  refine Met.ofW (cc := cX12_comes) (maxL := 2) (ret := (some .int)) (by decide) rfl ?_
  intro p e s m args below meth c s₁ B hml hv
  obtain ⟨rfl, hsz, hP, hZ, hD0⟩ := hv
  obtain ⟨hK, hAO, hN⟩ := id hZ
  have hx := B.exec
  have hb := B.bytes
  have hr := B.returns
  have hts := atoms_spec (ws := vsX12_comes) B.pre
  have hown : s.vm.findClass RX12 = some m.cls := findClass_of_methodNamed B.named
  have hlocks := B.notSynchronized
  subst hsz
  have hD := hD0.self (sz := s.heap.size)
  generalize hAe : va_A [(h0, .inr (12, [.ref h1, .ref h2, .ref h3, .ref h4, .ref h5, .ref h6, .ref h7, .ref h8, .ref h9, .int 0, .int 0, .int 10, .int 0, .int 0, .int (-9), .int 0, .ref h10, .ref h11, .ref h12, .ref h13, .int 0, .int 0, .int 0, .ref h14, .int 0, .int 0, .int 0, .int (-9), .int 0, .ref h15, .int 0, .int 0, .int 0, .ref h16, .ref h17, .ref h18, .int 0, .int 0])), (h1, .inl (cI, 7, .inl (fun _ => 0)))] s.heap.size = A at hD ⊢
  have hA : ∀ q : Nat, s.heap.size ≤ q → A q := fun q h => by rw [← hAe]; exact Or.inr h
  have hS : va_S A s.heap s.heap [] := va_S.rf
  have hP : va_P (dC, dI) vwCl [(h0, .inr (12, [.ref h1, .ref h2, .ref h3, .ref h4, .ref h5, .ref h6, .ref h7, .ref h8, .ref h9, .int 0, .int 0, .int 10, .int 0, .int 0, .int (-9), .int 0, .ref h10, .ref h11, .ref h12, .ref h13, .int 0, .int 0, .int 0, .ref h14, .int 0, .int 0, .int 0, .int (-9), .int 0, .ref h15, .int 0, .int 0, .int 0, .ref h16, .ref h17, .ref h18, .int 0, .int 0])), (h1, .inl (cI, 7, .inl (fun _ => 0)))] s.heap := hP
  have hl := lv_entry ([.ref h0, .int p0]) (n := 2) (Nat.le_of_ble_eq_true rfl)
  rw [lg_entry_eq]
  generalize (lg_sl ([.ref h0, .int p0]) ++ List.replicate (2 - (lg_sl ([.ref h0, .int p0])).length) Slot.unset).toArray = ls at hl ⊢
  have hl : lv_has ls 2 [(0, .ref h0), (1, .int p0)] := hl
  refine lv_aload_n hx hb dX12_comes_0 rfl (lv_at hl 0 rfl) ?_
  refine lv_iload_n hx hb dX12_comes_1 rfl (lv_at hl 1 rfl) ?_
  refine z_calli (wc := []) (wr := [(h0, .inr (12, [.ref h1, .ref h2, .ref h3, .ref h4, .ref h5, .ref h6, .ref h7, .ref h8, .ref h9, .int 0, .int 0, .int 10, .int 0, .int 0, .int (-9), .int 0, .ref h10, .ref h11, .ref h12, .ref h13, .int 0, .int 0, .int 0, .ref h14, .int 0, .int 0, .int 0, .int (-9), .int 0, .ref h15, .int 0, .int 0, .int 0, .ref h16, .ref h17, .ref h18, .int 0, .int 0])), (h1, .inl (cI, 7, .inl (fun _ => 0)))]) (w1 := (fun _ => [])) (va_runV (As := [.int p0]) (rest := []) ⟨hx, hb, hml, hown, hts⟩ (kX12_isPlayer l dC dI cI cQ h0 p0 hp0l hp0h s.heap.size) (cwV 1 hts gv_X12_comes_X12_isPlayer_117 rfl rfl rfl (by decide +kernel) ⟨Nat.le_of_ble_eq_true rfl, Nat.le_of_ble_eq_true rfl⟩) ⟨z_blind, va_recv hK hP (ci := 12) (q0 := 0) rfl rfl, z_pre hZ hP hD [] rfl (by decide)⟩ rfl rfl hl.1 rfl (lv_room (Nat.le_of_ble_eq_true rfl)) dX12_comes_2 ⟨Nat.le_of_ble_eq_true rfl, Nat.le_of_ble_eq_true rfl⟩) hP hD hS hA [] [0, 1] rfl rfl (by decide) (by decide) (fun _ H locs hP hD hS => ?_)
  have hP : va_P (dC, dI) vwCl [(h0, .inr (12, [.ref h1, .ref h2, .ref h3, .ref h4, .ref h5, .ref h6, .ref h7, .ref h8, .ref h9, .int 0, .int 0, .int 10, .int 0, .int 0, .int (-9), .int 0, .ref h10, .ref h11, .ref h12, .ref h13, .int 0, .int 0, .int 0, .ref h14, .int 0, .int 0, .int 0, .int (-9), .int 0, .ref h15, .int 0, .int 0, .int 0, .ref h16, .ref h17, .ref h18, .int 0, .int 0])), (h1, .inl (cI, 7, .inl (fun _ => 0)))] H := hP
  have hD : va_D A [(h0, .inr (12, [.ref h1, .ref h2, .ref h3, .ref h4, .ref h5, .ref h6, .ref h7, .ref h8, .ref h9, .int 0, .int 0, .int 10, .int 0, .int 0, .int (-9), .int 0, .ref h10, .ref h11, .ref h12, .ref h13, .int 0, .int 0, .int 0, .ref h14, .int 0, .int 0, .int 0, .int (-9), .int 0, .ref h15, .int 0, .int 0, .int 0, .ref h16, .ref h17, .ref h18, .int 0, .int 0])), (h1, .inl (cI, 7, .inl (fun _ => 0)))] := hD
  refine lv_if_ne (tgt := 14) hx hb dX12_comes_5 (by decide) (fun hc => ?_) (fun hc => ?_)
  · exact absurd hc (by decide)
  refine lv_aload_n hx hb dX12_comes_8 rfl (lv_at hl 0 rfl) ?_
  refine lv_iconst (v := (-1)) hx hb dX12_comes_9 (by decide) ?_
  refine z_calli (wc := [(h0, .inr (12, [.ref h1, .ref h2, .ref h3, .ref h4, .ref h5, .ref h6, .ref h7, .ref h8, .ref h9, .int 0, .int 0, .int 10, .int 0, .int 0, .int (-9), .int 0, .ref h10, .ref h11, .ref h12, .ref h13, .int 0, .int 0, .int 0, .ref h14, .int 0, .int 0, .int 0, .int (-9), .int 0, .ref h15, .int 0, .int 0, .int 0, .ref h16, .ref h17, .ref h18, .int 0, .int 0])), (h1, .inl (cI, 7, .inl (fun _ => 0)))]) (wr := []) (w1 := (fun _ => [(h0, .inr (12, [.ref h1, .ref h2, .ref h3, .ref h4, .ref h5, .ref h6, .ref h7, .ref h8, .ref h9, .int 0, .int 0, .int 10, .int 0, .int 0, .int (-9), .int 0, .ref h10, .ref h11, .ref h12, .ref h13, .int 0, .int 0, .int 0, .ref h14, .int 0, .int 0, .int 0, .int (-9), .int 0, .ref h15, .int 0, .int 0, .int 0, .ref h16, .ref h17, .ref h18, .int 0, .int 0])), (h1, .inl (cI, 7, .inl (upd (fun _ => 0) 1 1)))])) (va_runV (As := [.int (-1)]) (rest := []) ⟨hx, hb, hml, hown, hts⟩ (kX12_no_2 l dC dI cI cQ h0 h1 h2 h3 h4 h5 h6 h7 h8 h9 h10 h11 h12 h13 h14 h15 h16 h17 h18 H.size) (cwV 1 hts gv_X12_comes_X12_no_89 rfl rfl rfl (by decide +kernel) ⟨Nat.le_of_ble_eq_true rfl, Nat.le_of_ble_eq_true rfl⟩) ⟨z_blind, va_recv hK hP (ci := 12) (q0 := 0) rfl rfl, z_pre hZ hP hD [0, 1] rfl (by decide)⟩ rfl rfl hl.1 rfl (lv_room (Nat.le_of_ble_eq_true rfl)) dX12_comes_10 ⟨Nat.le_of_ble_eq_true rfl, Nat.le_of_ble_eq_true rfl⟩) hP hD hS hA [0, 1] [] rfl rfl (by decide) (by decide) (fun _ H locs hP hD hS => ?_)
  have hP : va_P (dC, dI) vwCl [(h0, .inr (12, [.ref h1, .ref h2, .ref h3, .ref h4, .ref h5, .ref h6, .ref h7, .ref h8, .ref h9, .int 0, .int 0, .int 10, .int 0, .int 0, .int (-9), .int 0, .ref h10, .ref h11, .ref h12, .ref h13, .int 0, .int 0, .int 0, .ref h14, .int 0, .int 0, .int 0, .int (-9), .int 0, .ref h15, .int 0, .int 0, .int 0, .ref h16, .ref h17, .ref h18, .int 0, .int 0])), (h1, .inl (cI, 7, .inl (upd (fun _ => 0) 1 1)))] H := hP
  have hD : va_D A [(h0, .inr (12, [.ref h1, .ref h2, .ref h3, .ref h4, .ref h5, .ref h6, .ref h7, .ref h8, .ref h9, .int 0, .int 0, .int 10, .int 0, .int 0, .int (-9), .int 0, .ref h10, .ref h11, .ref h12, .ref h13, .int 0, .int 0, .int 0, .ref h14, .int 0, .int 0, .int 0, .int (-9), .int 0, .ref h15, .int 0, .int 0, .int 0, .ref h16, .ref h17, .ref h18, .int 0, .int 0])), (h1, .inl (cI, 7, .inl (upd (fun _ => 0) 1 1)))] := hD
  have hP9 := hP.sub (ws' := []) [] rfl
  have hD9 := hD.sub (ws' := []) [] (by decide) rfl
  exact W.iret (v := (-1)) hx hb hr (fun t ht hW => ⟨⟨(-1), (fun k => [].getD k 0), rfl, rfl, by rw [ht]; exact hP9, hD9⟩, hS.F ht⟩) hS.2.2 dX12_comes_13
set_option maxHeartbeats 4000000 in
set_option maxRecDepth 100000 in
theorem kX12_comes_1 (l : Launch) (dC : Nat → ClassId) (dI : Nat → Nat → Nat) (cI cQ : ClassId) (h0 h1 h2 h3 h4 h5 h6 h7 h8 h9 h10 h11 h12 h13 h14 h15 h16 h17 h18 : Nat) (p0 : Int32) (hp0l : 0 ≤ p0.toInt) (hp0h : p0.toInt ≤ 2147483647) (sz : Nat) : Met l yX12_comes vsX12_comes ({ frames := 1, cells := 0, slots := 0, locals := 21 }) (va_Pc [.ref h0, .int p0] (zB dC dI cI cQ [(h0, .inr (12, [.ref h1, .ref h2, .ref h3, .ref h4, .ref h5, .ref h6, .ref h7, .ref h8, .ref h9, .int 0, .int 0, .int 10, .int 0, .int 0, .int (-9), .int 0, .ref h10, .ref h11, .ref h12, .ref h13, .int 0, .int 0, .int 0, .ref h14, .int 0, .int 0, .int 0, .int (-9), .int 0, .ref h15, .int 0, .int 0, .int 0, .ref h16, .ref h17, .ref h18, .int 0, .int 0])), (h1, .inl (cI, 7, .inl (fun _ => 0)))] sz)) (zQi dC dI (va_A [(h0, .inr (12, [.ref h1, .ref h2, .ref h3, .ref h4, .ref h5, .ref h6, .ref h7, .ref h8, .ref h9, .int 0, .int 0, .int 10, .int 0, .int 0, .int (-9), .int 0, .ref h10, .ref h11, .ref h12, .ref h13, .int 0, .int 0, .int 0, .ref h14, .int 0, .int 0, .int 0, .int (-9), .int 0, .ref h15, .int 0, .int 0, .int 0, .ref h16, .ref h17, .ref h18, .int 0, .int 0])), (h1, .inl (cI, 7, .inl (fun _ => 0)))] sz) (fun ad => []) (-1)) 0 0 (va_A [(h0, .inr (12, [.ref h1, .ref h2, .ref h3, .ref h4, .ref h5, .ref h6, .ref h7, .ref h8, .ref h9, .int 0, .int 0, .int 10, .int 0, .int 0, .int (-9), .int 0, .ref h10, .ref h11, .ref h12, .ref h13, .int 0, .int 0, .int 0, .ref h14, .int 0, .int 0, .int 0, .int (-9), .int 0, .ref h15, .int 0, .int 0, .int 0, .ref h16, .ref h17, .ref h18, .int 0, .int 0])), (h1, .inl (cI, 7, .inl (fun _ => 0)))] sz) := by
  refine Met.ofW (cc := cX12_comes) (maxL := 2) (ret := (some .int)) (by decide) rfl ?_
  intro p e s m args below meth c s₁ B hml hv
  obtain ⟨rfl, hsz, hP, hZ, hD0⟩ := hv
  obtain ⟨hK, hAO, hN⟩ := id hZ
  have hx := B.exec
  have hb := B.bytes
  have hr := B.returns
  have hts := atoms_spec (ws := vsX12_comes) B.pre
  have hown : s.vm.findClass RX12 = some m.cls := findClass_of_methodNamed B.named
  have hlocks := B.notSynchronized
  subst hsz
  have hD := hD0.self (sz := s.heap.size)
  generalize hAe : va_A [(h0, .inr (12, [.ref h1, .ref h2, .ref h3, .ref h4, .ref h5, .ref h6, .ref h7, .ref h8, .ref h9, .int 0, .int 0, .int 10, .int 0, .int 0, .int (-9), .int 0, .ref h10, .ref h11, .ref h12, .ref h13, .int 0, .int 0, .int 0, .ref h14, .int 0, .int 0, .int 0, .int (-9), .int 0, .ref h15, .int 0, .int 0, .int 0, .ref h16, .ref h17, .ref h18, .int 0, .int 0])), (h1, .inl (cI, 7, .inl (fun _ => 0)))] s.heap.size = A at hD ⊢
  have hA : ∀ q : Nat, s.heap.size ≤ q → A q := fun q h => by rw [← hAe]; exact Or.inr h
  have hS : va_S A s.heap s.heap [] := va_S.rf
  have hP : va_P (dC, dI) vwCl [(h0, .inr (12, [.ref h1, .ref h2, .ref h3, .ref h4, .ref h5, .ref h6, .ref h7, .ref h8, .ref h9, .int 0, .int 0, .int 10, .int 0, .int 0, .int (-9), .int 0, .ref h10, .ref h11, .ref h12, .ref h13, .int 0, .int 0, .int 0, .ref h14, .int 0, .int 0, .int 0, .int (-9), .int 0, .ref h15, .int 0, .int 0, .int 0, .ref h16, .ref h17, .ref h18, .int 0, .int 0])), (h1, .inl (cI, 7, .inl (fun _ => 0)))] s.heap := hP
  have hl := lv_entry ([.ref h0, .int p0]) (n := 2) (Nat.le_of_ble_eq_true rfl)
  rw [lg_entry_eq]
  generalize (lg_sl ([.ref h0, .int p0]) ++ List.replicate (2 - (lg_sl ([.ref h0, .int p0])).length) Slot.unset).toArray = ls at hl ⊢
  have hl : lv_has ls 2 [(0, .ref h0), (1, .int p0)] := hl
  refine lv_aload_n hx hb dX12_comes_0 rfl (lv_at hl 0 rfl) ?_
  refine lv_iload_n hx hb dX12_comes_1 rfl (lv_at hl 1 rfl) ?_
  refine z_calli (wc := [(h0, .inr (12, [.ref h1, .ref h2, .ref h3, .ref h4, .ref h5, .ref h6, .ref h7, .ref h8, .ref h9, .int 0, .int 0, .int 10, .int 0, .int 0, .int (-9), .int 0, .ref h10, .ref h11, .ref h12, .ref h13, .int 0, .int 0, .int 0, .ref h14, .int 0, .int 0, .int 0, .int (-9), .int 0, .ref h15, .int 0, .int 0, .int 0, .ref h16, .ref h17, .ref h18, .int 0, .int 0]))]) (wr := [(h1, .inl (cI, 7, .inl (fun _ => 0)))]) (w1 := (fun _ => [(h0, .inr (12, [.ref h1, .ref h2, .ref h3, .ref h4, .ref h5, .ref h6, .ref h7, .ref h8, .ref h9, .int 0, .int 0, .int 10, .int 0, .int 0, .int (-9), .int 0, .ref h10, .ref h11, .ref h12, .ref h13, .int 0, .int 0, .int 0, .ref h14, .int 0, .int 0, .int 0, .int (-9), .int 0, .ref h15, .int 0, .int 0, .int 0, .ref h16, .ref h17, .ref h18, .int 0, .int 0]))])) (va_runV (As := [.int p0]) (rest := []) ⟨hx, hb, hml, hown, hts⟩ (kX12_isPlayer_1 l dC dI cI cQ h0 h1 h2 h3 h4 h5 h6 h7 h8 h9 h10 h11 h12 h13 h14 h15 h16 h17 h18 p0 hp0l hp0h s.heap.size) (cwV 1 hts gv_X12_comes_X12_isPlayer_117 rfl rfl rfl (by decide +kernel) ⟨Nat.le_of_ble_eq_true rfl, Nat.le_of_ble_eq_true rfl⟩) ⟨z_blind, va_recv hK hP (ci := 12) (q0 := 0) rfl rfl, z_pre hZ hP hD [0] rfl (by decide)⟩ rfl rfl hl.1 rfl (lv_room (Nat.le_of_ble_eq_true rfl)) dX12_comes_2 ⟨Nat.le_of_ble_eq_true rfl, Nat.le_of_ble_eq_true rfl⟩) hP hD hS hA [0] [1] rfl rfl (by decide) (by decide) (fun _ H locs hP hD hS => ?_)
  have hP : va_P (dC, dI) vwCl [(h1, .inl (cI, 7, .inl (fun _ => 0))), (h0, .inr (12, [.ref h1, .ref h2, .ref h3, .ref h4, .ref h5, .ref h6, .ref h7, .ref h8, .ref h9, .int 0, .int 0, .int 10, .int 0, .int 0, .int (-9), .int 0, .ref h10, .ref h11, .ref h12, .ref h13, .int 0, .int 0, .int 0, .ref h14, .int 0, .int 0, .int 0, .int (-9), .int 0, .ref h15, .int 0, .int 0, .int 0, .ref h16, .ref h17, .ref h18, .int 0, .int 0]))] H := hP
  have hD : va_D A [(h1, .inl (cI, 7, .inl (fun _ => 0))), (h0, .inr (12, [.ref h1, .ref h2, .ref h3, .ref h4, .ref h5, .ref h6, .ref h7, .ref h8, .ref h9, .int 0, .int 0, .int 10, .int 0, .int 0, .int (-9), .int 0, .ref h10, .ref h11, .ref h12, .ref h13, .int 0, .int 0, .int 0, .ref h14, .int 0, .int 0, .int 0, .int (-9), .int 0, .ref h15, .int 0, .int 0, .int 0, .ref h16, .ref h17, .ref h18, .int 0, .int 0]))] := hD
  refine lv_if_ne (tgt := 14) hx hb dX12_comes_5 (by decide) (fun hc => ?_) (fun hc => ?_)
  · exact absurd hc (by decide)
  refine lv_aload_n hx hb dX12_comes_8 rfl (lv_at hl 0 rfl) ?_
  refine lv_iconst (v := (-1)) hx hb dX12_comes_9 (by decide) ?_
  refine z_calli (wc := [(h1, .inl (cI, 7, .inl (fun _ => 0))), (h0, .inr (12, [.ref h1, .ref h2, .ref h3, .ref h4, .ref h5, .ref h6, .ref h7, .ref h8, .ref h9, .int 0, .int 0, .int 10, .int 0, .int 0, .int (-9), .int 0, .ref h10, .ref h11, .ref h12, .ref h13, .int 0, .int 0, .int 0, .ref h14, .int 0, .int 0, .int 0, .int (-9), .int 0, .ref h15, .int 0, .int 0, .int 0, .ref h16, .ref h17, .ref h18, .int 0, .int 0]))]) (wr := []) (w1 := (fun _ => [(h1, .inl (cI, 7, .inl (upd (fun _ => 0) 1 1))), (h0, .inr (12, [.ref h1, .ref h2, .ref h3, .ref h4, .ref h5, .ref h6, .ref h7, .ref h8, .ref h9, .int 0, .int 0, .int 10, .int 0, .int 0, .int (-9), .int 0, .ref h10, .ref h11, .ref h12, .ref h13, .int 0, .int 0, .int 0, .ref h14, .int 0, .int 0, .int 0, .int (-9), .int 0, .ref h15, .int 0, .int 0, .int 0, .ref h16, .ref h17, .ref h18, .int 0, .int 0]))])) (va_runV (As := [.int (-1)]) (rest := []) ⟨hx, hb, hml, hown, hts⟩ (kX12_no_3 l dC dI cI cQ h0 h1 h2 h3 h4 h5 h6 h7 h8 h9 h10 h11 h12 h13 h14 h15 h16 h17 h18 H.size) (cwV 1 hts gv_X12_comes_X12_no_89 rfl rfl rfl (by decide +kernel) ⟨Nat.le_of_ble_eq_true rfl, Nat.le_of_ble_eq_true rfl⟩) ⟨z_blind, va_recv hK hP (ci := 12) (q0 := 1) rfl rfl, z_pre hZ hP hD [0, 1] rfl (by decide)⟩ rfl rfl hl.1 rfl (lv_room (Nat.le_of_ble_eq_true rfl)) dX12_comes_10 ⟨Nat.le_of_ble_eq_true rfl, Nat.le_of_ble_eq_true rfl⟩) hP hD hS hA [0, 1] [] rfl rfl (by decide) (by decide) (fun _ H locs hP hD hS => ?_)
  have hP : va_P (dC, dI) vwCl [(h1, .inl (cI, 7, .inl (upd (fun _ => 0) 1 1))), (h0, .inr (12, [.ref h1, .ref h2, .ref h3, .ref h4, .ref h5, .ref h6, .ref h7, .ref h8, .ref h9, .int 0, .int 0, .int 10, .int 0, .int 0, .int (-9), .int 0, .ref h10, .ref h11, .ref h12, .ref h13, .int 0, .int 0, .int 0, .ref h14, .int 0, .int 0, .int 0, .int (-9), .int 0, .ref h15, .int 0, .int 0, .int 0, .ref h16, .ref h17, .ref h18, .int 0, .int 0]))] H := hP
  have hD : va_D A [(h1, .inl (cI, 7, .inl (upd (fun _ => 0) 1 1))), (h0, .inr (12, [.ref h1, .ref h2, .ref h3, .ref h4, .ref h5, .ref h6, .ref h7, .ref h8, .ref h9, .int 0, .int 0, .int 10, .int 0, .int 0, .int (-9), .int 0, .ref h10, .ref h11, .ref h12, .ref h13, .int 0, .int 0, .int 0, .ref h14, .int 0, .int 0, .int 0, .int (-9), .int 0, .ref h15, .int 0, .int 0, .int 0, .ref h16, .ref h17, .ref h18, .int 0, .int 0]))] := hD
  have hP9 := hP.sub (ws' := []) [] rfl
  have hD9 := hD.sub (ws' := []) [] (by decide) rfl
  exact W.iret (v := (-1)) hx hb hr (fun t ht hW => ⟨⟨(-1), (fun k => [].getD k 0), rfl, rfl, by rw [ht]; exact hP9, hD9⟩, hS.F ht⟩) hS.2.2 dX12_comes_13
set_option maxHeartbeats 4000000 in
set_option maxRecDepth 100000 in
theorem kX12_no_4 (l : Launch) (dC : Nat → ClassId) (dI : Nat → Nat → Nat) (cI cQ : ClassId) (h0 h1 h2 h3 h4 h5 h6 h7 h8 h9 h10 h11 h12 h13 h14 h15 h16 h17 h18 : Nat) (sz : Nat) : Met l yX12_no vsX12_no ({ frames := 0, cells := 0, slots := 0, locals := 0 }) (va_Pc [.ref h0, .int (-3)] (zB dC dI cI cQ [(h0, .inr (12, [.ref h1, .ref h2, .ref h3, .ref h4, .ref h5, .ref h6, .ref h7, .ref h8, .ref h9, .int 0, .int 0, .int 10, .int 0, .int 0, .int (-9), .int 0, .ref h10, .ref h11, .ref h12, .ref h13, .int 0, .int 0, .int 0, .ref h14, .int 0, .int 0, .int 0, .int (-9), .int 0, .ref h15, .int 0, .int 0, .int 0, .ref h16, .ref h17, .ref h18, .int 0, .int 0])), (h1, .inl (cI, 7, .inl (fun _ => 0)))] sz)) (zQi dC dI (va_A [(h0, .inr (12, [.ref h1, .ref h2, .ref h3, .ref h4, .ref h5, .ref h6, .ref h7, .ref h8, .ref h9, .int 0, .int 0, .int 10, .int 0, .int 0, .int (-9), .int 0, .ref h10, .ref h11, .ref h12, .ref h13, .int 0, .int 0, .int 0, .ref h14, .int 0, .int 0, .int 0, .int (-9), .int 0, .ref h15, .int 0, .int 0, .int 0, .ref h16, .ref h17, .ref h18, .int 0, .int 0])), (h1, .inl (cI, 7, .inl (fun _ => 0)))] sz) (fun ad => [(h0, .inr (12, [.ref h1, .ref h2, .ref h3, .ref h4, .ref h5, .ref h6, .ref h7, .ref h8, .ref h9, .int 0, .int 0, .int 10, .int 0, .int 0, .int (-9), .int 0, .ref h10, .ref h11, .ref h12, .ref h13, .int 0, .int 0, .int 0, .ref h14, .int 0, .int 0, .int 0, .int (-9), .int 0, .ref h15, .int 0, .int 0, .int 0, .ref h16, .ref h17, .ref h18, .int 0, .int 0])), (h1, .inl (cI, 7, .inl (upd (fun _ => 0) 3 1)))]) (-3)) 0 0 (va_A [(h0, .inr (12, [.ref h1, .ref h2, .ref h3, .ref h4, .ref h5, .ref h6, .ref h7, .ref h8, .ref h9, .int 0, .int 0, .int 10, .int 0, .int 0, .int (-9), .int 0, .ref h10, .ref h11, .ref h12, .ref h13, .int 0, .int 0, .int 0, .ref h14, .int 0, .int 0, .int 0, .int (-9), .int 0, .ref h15, .int 0, .int 0, .int 0, .ref h16, .ref h17, .ref h18, .int 0, .int 0])), (h1, .inl (cI, 7, .inl (fun _ => 0)))] sz) := by
  refine Met.ofW (cc := cX12_no) (maxL := 2) (ret := (some .int)) (by decide) rfl ?_
  intro p e s m args below meth c s₁ B hml hv
  obtain ⟨rfl, hsz, hP, hZ, hD0⟩ := hv
  obtain ⟨hK, hAO, hN⟩ := id hZ
  have hx := B.exec
  have hb := B.bytes
  have hr := B.returns
  have hts := atoms_spec (ws := vsX12_no) B.pre
  have hown : s.vm.findClass RX12 = some m.cls := findClass_of_methodNamed B.named
  have hlocks := B.notSynchronized
  subst hsz
  have hD := hD0.self (sz := s.heap.size)
  generalize hAe : va_A [(h0, .inr (12, [.ref h1, .ref h2, .ref h3, .ref h4, .ref h5, .ref h6, .ref h7, .ref h8, .ref h9, .int 0, .int 0, .int 10, .int 0, .int 0, .int (-9), .int 0, .ref h10, .ref h11, .ref h12, .ref h13, .int 0, .int 0, .int 0, .ref h14, .int 0, .int 0, .int 0, .int (-9), .int 0, .ref h15, .int 0, .int 0, .int 0, .ref h16, .ref h17, .ref h18, .int 0, .int 0])), (h1, .inl (cI, 7, .inl (fun _ => 0)))] s.heap.size = A at hD ⊢
  have hA : ∀ q : Nat, s.heap.size ≤ q → A q := fun q h => by rw [← hAe]; exact Or.inr h
  have hS : va_S A s.heap s.heap [] := va_S.rf
  have hP : va_P (dC, dI) vwCl [(h0, .inr (12, [.ref h1, .ref h2, .ref h3, .ref h4, .ref h5, .ref h6, .ref h7, .ref h8, .ref h9, .int 0, .int 0, .int 10, .int 0, .int 0, .int (-9), .int 0, .ref h10, .ref h11, .ref h12, .ref h13, .int 0, .int 0, .int 0, .ref h14, .int 0, .int 0, .int 0, .int (-9), .int 0, .ref h15, .int 0, .int 0, .int 0, .ref h16, .ref h17, .ref h18, .int 0, .int 0])), (h1, .inl (cI, 7, .inl (fun _ => 0)))] s.heap := hP
  have hl := lv_entry ([.ref h0, .int (-3)]) (n := 2) (Nat.le_of_ble_eq_true rfl)
  rw [lg_entry_eq]
  generalize (lg_sl ([.ref h0, .int (-3)]) ++ List.replicate (2 - (lg_sl ([.ref h0, .int (-3)])).length) Slot.unset).toArray = ls at hl ⊢
  have hl : lv_has ls 2 [(0, .ref h0), (1, .int (-3))] := hl
  refine lv_aload_n hx hb dX12_no_0 rfl (lv_at hl 0 rfl) ?_
  refine va_get (D := (dC, dI)) (ci := 12) (v := .ref h1) (C := RX12) (T := TX12) (N := 38) hx hb hts in_X12_no_X12 hown hK hP 0 rfl rfl 0 (by decide) (hts (.fieldLink RX12 7 "EachOnHisCueModel" "refused" "[I") (by decide +kernel)) (fun _ h9 => h9) rfl dX12_no_1 ?_
  refine lv_iload_n hx hb dX12_no_4 rfl (lv_at hl 1 rfl) ?_
  refine lv_ineg hx hb dX12_no_5 ?_
  refine lv_topi (fun y1 ey1 => ?_)
  obtain rfl : y1 = 3 := ey1.trans (by decide)
  refine lv_dup2_11 hx hb dX12_no_6 rfl rfl ?_
  refine va_iald hx hb hK hP 1 0 rfl rfl (by unfold vp_in; decide) dX12_no_7 ?_
  refine lv_topi (fun y2 ey2 => ?_)
  obtain rfl : y2 = 0 := ey2.trans (by first | rfl | decide)
  refine lv_iconst (v := 1) hx hb dX12_no_8 (by decide) ?_
  refine lv_iadd hx hb dX12_no_9 ?_
  refine lv_topi (fun y3 ey3 => ?_)
  obtain rfl : y3 = 1 := ey3.trans (by decide)
  refine va_iast hx hb hK hP hD hS 1 0 rfl rfl (by unfold vp_in; decide) dX12_no_10 (fun H locs hP hD hS => ?_)
  have hP : va_P (dC, dI) vwCl [(h0, .inr (12, [.ref h1, .ref h2, .ref h3, .ref h4, .ref h5, .ref h6, .ref h7, .ref h8, .ref h9, .int 0, .int 0, .int 10, .int 0, .int 0, .int (-9), .int 0, .ref h10, .ref h11, .ref h12, .ref h13, .int 0, .int 0, .int 0, .ref h14, .int 0, .int 0, .int 0, .int (-9), .int 0, .ref h15, .int 0, .int 0, .int 0, .ref h16, .ref h17, .ref h18, .int 0, .int 0])), (h1, .inl (cI, 7, .inl (upd (fun _ => 0) 3 1)))] H := hP
  have hD : va_D A [(h0, .inr (12, [.ref h1, .ref h2, .ref h3, .ref h4, .ref h5, .ref h6, .ref h7, .ref h8, .ref h9, .int 0, .int 0, .int 10, .int 0, .int 0, .int (-9), .int 0, .ref h10, .ref h11, .ref h12, .ref h13, .int 0, .int 0, .int 0, .ref h14, .int 0, .int 0, .int 0, .int (-9), .int 0, .ref h15, .int 0, .int 0, .int 0, .ref h16, .ref h17, .ref h18, .int 0, .int 0])), (h1, .inl (cI, 7, .inl (upd (fun _ => 0) 3 1)))] := hD
  refine lv_iload_n hx hb dX12_no_11 rfl (lv_at hl 1 rfl) ?_
  have hP9 := hP.sub (ws' := [(h0, .inr (12, [.ref h1, .ref h2, .ref h3, .ref h4, .ref h5, .ref h6, .ref h7, .ref h8, .ref h9, .int 0, .int 0, .int 10, .int 0, .int 0, .int (-9), .int 0, .ref h10, .ref h11, .ref h12, .ref h13, .int 0, .int 0, .int 0, .ref h14, .int 0, .int 0, .int 0, .int (-9), .int 0, .ref h15, .int 0, .int 0, .int 0, .ref h16, .ref h17, .ref h18, .int 0, .int 0])), (h1, .inl (cI, 7, .inl (upd (fun _ => 0) 3 1)))]) [0, 1] rfl
  have hD9 := hD.sub (ws' := [(h0, .inr (12, [.ref h1, .ref h2, .ref h3, .ref h4, .ref h5, .ref h6, .ref h7, .ref h8, .ref h9, .int 0, .int 0, .int 10, .int 0, .int 0, .int (-9), .int 0, .ref h10, .ref h11, .ref h12, .ref h13, .int 0, .int 0, .int 0, .ref h14, .int 0, .int 0, .int 0, .int (-9), .int 0, .ref h15, .int 0, .int 0, .int 0, .ref h16, .ref h17, .ref h18, .int 0, .int 0])), (h1, .inl (cI, 7, .inl (upd (fun _ => 0) 3 1)))]) [0, 1] (by decide) rfl
  exact W.iret (v := (-3)) hx hb hr (fun t ht hW => ⟨⟨(-3), (fun k => [].getD k 0), rfl, rfl, by rw [ht]; exact hP9, hD9⟩, hS.F ht⟩) hS.2.2 dX12_no_12
