set_option maxHeartbeats 4000000 in
set_option maxRecDepth 100000 in
theorem kX11_restore (l : Launch) (dC : Nat → ClassId) (dI : Nat → Nat → Nat) (cI cQ : ClassId) (h0 h1 h2 h3 h4 h5 h6 h7 : Nat) (sz : Nat) : Met l yX11_restore vsX11_restore ({ frames := 1, cells := 0, slots := 0, locals := 22 }) (va_Pc [.ref h0] (zB dC dI cI cQ [(h0, .inr (11, [.ref h2, .ref h3, .int 0, .ref h4, .ref h5, .ref h6, .ref h7, .int 0, .ref h1])), (h1, .inl (cI, 7, .inl (fun _ => 0)))] sz)) (zQi dC dI (va_A [(h0, .inr (11, [.ref h2, .ref h3, .int 0, .ref h4, .ref h5, .ref h6, .ref h7, .int 0, .ref h1])), (h1, .inl (cI, 7, .inl (fun _ => 0)))] sz) (fun ad => []) (-3)) 0 0 (va_A [(h0, .inr (11, [.ref h2, .ref h3, .int 0, .ref h4, .ref h5, .ref h6, .ref h7, .int 0, .ref h1])), (h1, .inl (cI, 7, .inl (fun _ => 0)))] sz) := by
  refine Met.ofW (cc := cX11_restore) (maxL := 1) (ret := (some .int)) (by decide) rfl ?_
  intro p e s m args below meth c s₁ B hml hv
  obtain ⟨rfl, hsz, hP, hZ, hD0⟩ := hv
  obtain ⟨hK, hAO, hN⟩ := id hZ
  have hx := B.exec
  have hb := B.bytes
  have hr := B.returns
  have hts := atoms_spec (ws := vsX11_restore) B.pre
  have hown : s.vm.findClass RX11 = some m.cls := findClass_of_methodNamed B.named
  have hlocks := B.notSynchronized
  subst hsz
  have hD := hD0.self (sz := s.heap.size)
  generalize hAe : va_A [(h0, .inr (11, [.ref h2, .ref h3, .int 0, .ref h4, .ref h5, .ref h6, .ref h7, .int 0, .ref h1])), (h1, .inl (cI, 7, .inl (fun _ => 0)))] s.heap.size = A at hD ⊢
  have hA : ∀ q : Nat, s.heap.size ≤ q → A q := fun q h => by rw [← hAe]; exact Or.inr h
  have hS : va_S A s.heap s.heap [] := va_S.rf
  have hP : va_P (dC, dI) vwCl [(h0, .inr (11, [.ref h2, .ref h3, .int 0, .ref h4, .ref h5, .ref h6, .ref h7, .int 0, .ref h1])), (h1, .inl (cI, 7, .inl (fun _ => 0)))] s.heap := hP
  have hl := lv_entry ([.ref h0]) (n := 1) (Nat.le_of_ble_eq_true rfl)
  rw [lg_entry_eq]
  generalize (lg_sl ([.ref h0]) ++ List.replicate (1 - (lg_sl ([.ref h0])).length) Slot.unset).toArray = ls at hl ⊢
  have hl : lv_has ls 1 [(0, .ref h0)] := hl
  refine lv_aload_n hx hb dX11_restore_0 rfl (lv_at hl 0 rfl) ?_
  refine va_get (D := (dC, dI)) (ci := 11) (v := .int 0) (C := RX11) (T := TX11) (N := 9) hx hb hts in_X11_restore_X11 hown hK hP 0 rfl rfl 2 (by decide) (hts (.fieldLink RX11 19 "EachOnHisCue" "hasImage" "Z") (by decide +kernel)) (fun _ h9 => h9) rfl dX11_restore_1 ?_
  refine lv_if_ne (tgt := 14) hx hb dX11_restore_4 (by decide) (fun hc => ?_) (fun hc => ?_)
  · exact absurd hc (by decide)
  refine lv_aload_n hx hb dX11_restore_7 rfl (lv_at hl 0 rfl) ?_
  refine lv_bipush (v := (-3)) hx hb dX11_restore_8 (by decide) ?_
  refine z_calli (wc := [(h0, .inr (11, [.ref h2, .ref h3, .int 0, .ref h4, .ref h5, .ref h6, .ref h7, .int 0, .ref h1])), (h1, .inl (cI, 7, .inl (fun _ => 0)))]) (wr := []) (w1 := (fun _ => [(h0, .inr (11, [.ref h2, .ref h3, .int 0, .ref h4, .ref h5, .ref h6, .ref h7, .int 0, .ref h1])), (h1, .inl (cI, 7, .inl (upd (fun _ => 0) 3 1)))])) (va_runV (As := [.int (-3)]) (rest := []) ⟨hx, hb, hml, hown, hts⟩ (kX11_refuse_3 l dC dI cI cQ h0 h1 h2 h3 h4 h5 h6 h7 s.heap.size) (cwV 1 hts gv_X11_restore_X11_refuse_53 rfl rfl rfl (by decide +kernel) ⟨Nat.le_of_ble_eq_true rfl, Nat.le_of_ble_eq_true rfl⟩) ⟨z_blind, va_recv hK hP (ci := 11) (q0 := 0) rfl rfl, z_pre hZ hP hD [0, 1] rfl (by decide)⟩ rfl rfl hl.1 rfl (lv_room (Nat.le_of_ble_eq_true rfl)) dX11_restore_10 ⟨Nat.le_of_ble_eq_true rfl, Nat.le_of_ble_eq_true rfl⟩) hP hD hS hA [0, 1] [] rfl rfl (by decide) (by decide) (fun _ H locs hP hD hS => ?_)
  have hP : va_P (dC, dI) vwCl [(h0, .inr (11, [.ref h2, .ref h3, .int 0, .ref h4, .ref h5, .ref h6, .ref h7, .int 0, .ref h1])), (h1, .inl (cI, 7, .inl (upd (fun _ => 0) 3 1)))] H := hP
  have hD : va_D A [(h0, .inr (11, [.ref h2, .ref h3, .int 0, .ref h4, .ref h5, .ref h6, .ref h7, .int 0, .ref h1])), (h1, .inl (cI, 7, .inl (upd (fun _ => 0) 3 1)))] := hD
  have hP9 := hP.sub (ws' := []) [] rfl
  have hD9 := hD.sub (ws' := []) [] (by decide) rfl
  exact W.iret (v := (-3)) hx hb hr (fun t ht hW => ⟨⟨(-3), (fun k => [].getD k 0), rfl, rfl, by rw [ht]; exact hP9, hD9⟩, hS.F ht⟩) hS.2.2 dX11_restore_13
set_option maxHeartbeats 4000000 in
set_option maxRecDepth 100000 in
theorem kX11_count (l : Launch) (dC : Nat → ClassId) (dI : Nat → Nat → Nat) (cI cQ : ClassId) (h0 : Nat) (p0 : Int32) (hp0l : -2147483648 ≤ p0.toInt) (hp0h : p0.toInt ≤ -1) (sz : Nat) : Met l yX11_count vsX11_count ({ frames := 0, cells := 0, slots := 0, locals := 0 }) (va_Pc [.ref h0, .int p0] (zB dC dI cI cQ [] sz)) (zQi dC dI (va_A [] sz) (fun ad => []) (-9)) 0 0 (va_A [] sz) := by
  refine Met.ofW (cc := cX11_count) (maxL := 2) (ret := (some .int)) (by decide) rfl ?_
  intro p e s m args below meth c s₁ B hml hv
  obtain ⟨rfl, hsz, hP, hZ, hD0⟩ := hv
  obtain ⟨hK, hAO, hN⟩ := id hZ
  have hx := B.exec
  have hb := B.bytes
  have hr := B.returns
  have hts := atoms_spec (ws := vsX11_count) B.pre
  have hown : s.vm.findClass RX11 = some m.cls := findClass_of_methodNamed B.named
  have hlocks := B.notSynchronized
  subst hsz
  have hD := hD0.self (sz := s.heap.size)
  generalize hAe : va_A [] s.heap.size = A at hD ⊢
  have hA : ∀ q : Nat, s.heap.size ≤ q → A q := fun q h => by rw [← hAe]; exact Or.inr h
  have hS : va_S A s.heap s.heap [] := va_S.rf
  have hP : va_P (dC, dI) vwCl [] s.heap := hP
  have hl := lv_entry ([.ref h0, .int p0]) (n := 2) (Nat.le_of_ble_eq_true rfl)
  rw [lg_entry_eq]
  generalize (lg_sl ([.ref h0, .int p0]) ++ List.replicate (2 - (lg_sl ([.ref h0, .int p0])).length) Slot.unset).toArray = ls at hl ⊢
  have hl : lv_has ls 2 [(0, .ref h0), (1, .int p0)] := hl
  refine lv_iload_n hx hb dX11_count_0 rfl (lv_at hl 1 rfl) ?_
  refine lv_tableOut (tgt := 115) hx hb dX11_count_1 (by omega) (by decide) ?_
  refine lv_iload_n hx hb dX11_count_115 rfl (lv_at hl 1 rfl) ?_
  refine lv_bipush (v := 11) hx hb dX11_count_116 (by decide) ?_
  refine lv_icmp_lt (tgt := 139) hx hb dX11_count_118 (by decide) (fun hc => ?_) (fun hc => ?_)
  rotate_left; exact absurd ((fa_lt _ _).mpr (by rw [show (11 : Int32).toInt = 11 from by decide]; omega)) hc
  refine lv_bipush (v := (-9)) hx hb dX11_count_139 (by decide) ?_
  have hP9 := hP.sub (ws' := []) [] rfl
  have hD9 := hD.sub (ws' := []) [] (by decide) rfl
  exact W.iret (v := (-9)) hx hb hr (fun t ht hW => ⟨⟨(-9), (fun k => [].getD k 0), rfl, rfl, by rw [ht]; exact hP9, hD9⟩, hS.F ht⟩) hS.2.2 dX11_count_141
set_option maxHeartbeats 4000000 in
set_option maxRecDepth 100000 in
theorem kX11_count_1 (l : Launch) (dC : Nat → ClassId) (dI : Nat → Nat → Nat) (cI cQ : ClassId) (h0 h1 h2 h3 h4 h5 h6 h7 h8 h9 h10 h11 h12 h13 h14 h15 : Nat) (sz : Nat) : Met l yX11_count vsX11_count ({ frames := 0, cells := 0, slots := 0, locals := 0 }) (va_Pc [.ref h0, .int 0] (zB dC dI cI cQ [(h0, .inr (11, [.ref h1, .ref h2, .int 0, .ref h3, .ref h4, .ref h5, .ref h6, .int 0, .ref h7])), (h1, .inr (7, [.ref h8, .ref h9, .ref h10, .int 0, .ref h11, .ref h12, .ref h13, .ref h14, .int 0, .int 0, .int 10, .ref h15]))] sz)) (zQi dC dI (va_A [(h0, .inr (11, [.ref h1, .ref h2, .int 0, .ref h3, .ref h4, .ref h5, .ref h6, .int 0, .ref h7])), (h1, .inr (7, [.ref h8, .ref h9, .ref h10, .int 0, .ref h11, .ref h12, .ref h13, .ref h14, .int 0, .int 0, .int 10, .ref h15]))] sz) (fun ad => []) 0) 0 0 (va_A [(h0, .inr (11, [.ref h1, .ref h2, .int 0, .ref h3, .ref h4, .ref h5, .ref h6, .int 0, .ref h7])), (h1, .inr (7, [.ref h8, .ref h9, .ref h10, .int 0, .ref h11, .ref h12, .ref h13, .ref h14, .int 0, .int 0, .int 10, .ref h15]))] sz) := by
  refine Met.ofW (cc := cX11_count) (maxL := 2) (ret := (some .int)) (by decide) rfl ?_
  intro p e s m args below meth c s₁ B hml hv
  obtain ⟨rfl, hsz, hP, hZ, hD0⟩ := hv
  obtain ⟨hK, hAO, hN⟩ := id hZ
  have hx := B.exec
  have hb := B.bytes
  have hr := B.returns
  have hts := atoms_spec (ws := vsX11_count) B.pre
  have hown : s.vm.findClass RX11 = some m.cls := findClass_of_methodNamed B.named
  have hlocks := B.notSynchronized
  subst hsz
  have hD := hD0.self (sz := s.heap.size)
  generalize hAe : va_A [(h0, .inr (11, [.ref h1, .ref h2, .int 0, .ref h3, .ref h4, .ref h5, .ref h6, .int 0, .ref h7])), (h1, .inr (7, [.ref h8, .ref h9, .ref h10, .int 0, .ref h11, .ref h12, .ref h13, .ref h14, .int 0, .int 0, .int 10, .ref h15]))] s.heap.size = A at hD ⊢
  have hA : ∀ q : Nat, s.heap.size ≤ q → A q := fun q h => by rw [← hAe]; exact Or.inr h
  have hS : va_S A s.heap s.heap [] := va_S.rf
  have hP : va_P (dC, dI) vwCl [(h0, .inr (11, [.ref h1, .ref h2, .int 0, .ref h3, .ref h4, .ref h5, .ref h6, .int 0, .ref h7])), (h1, .inr (7, [.ref h8, .ref h9, .ref h10, .int 0, .ref h11, .ref h12, .ref h13, .ref h14, .int 0, .int 0, .int 10, .ref h15]))] s.heap := hP
  have hl := lv_entry ([.ref h0, .int 0]) (n := 2) (Nat.le_of_ble_eq_true rfl)
  rw [lg_entry_eq]
  generalize (lg_sl ([.ref h0, .int 0]) ++ List.replicate (2 - (lg_sl ([.ref h0, .int 0])).length) Slot.unset).toArray = ls at hl ⊢
  have hl : lv_has ls 2 [(0, .ref h0), (1, .int 0)] := hl
  refine lv_iload_n hx hb dX11_count_0 rfl (lv_at hl 1 rfl) ?_
  refine lv_tableIn (tgt := 48) hx hb dX11_count_1 (by decide) (by decide) (off := 47) (by decide) (by decide) ?_
  refine lv_aload_n hx hb dX11_count_48 rfl (lv_at hl 0 rfl) ?_
  refine va_get (D := (dC, dI)) (ci := 11) (v := .ref h1) (C := RX11) (T := TX11) (N := 9) hx hb hts in_X11_count_X11 hown hK hP 0 rfl rfl 0 (by decide) (hts (.fieldLink RX11 10 "EachOnHisCue" "play" "LEachOnHisCue$Play;") (by decide +kernel)) (fun _ h9 => h9) rfl dX11_count_49 ?_
  refine va_get (D := (dC, dI)) (ci := 7) (v := .int 0) (C := RX7) (T := TX7) (N := 12) hx hb hts in_X11_count_X7 hown hK hP 1 rfl rfl 3 (by decide) (hts (.fieldLink RX11 203 "EachOnHisCue$Play" "players" "I") (by decide +kernel)) (fun _ h9 => h9) rfl dX11_count_52 ?_
  have hP9 := hP.sub (ws' := []) [] rfl
  have hD9 := hD.sub (ws' := []) [] (by decide) rfl
  exact W.iret (v := 0) hx hb hr (fun t ht hW => ⟨⟨0, (fun k => [].getD k 0), rfl, rfl, by rw [ht]; exact hP9, hD9⟩, hS.F ht⟩) hS.2.2 dX11_count_55
set_option maxHeartbeats 4000000 in
set_option maxRecDepth 100000 in
theorem kX11_count_2 (l : Launch) (dC : Nat → ClassId) (dI : Nat → Nat → Nat) (cI cQ : ClassId) (h0 h1 h2 h3 h4 h5 h6 h7 h8 h9 h10 h11 h12 h13 h14 h15 : Nat) (sz : Nat) : Met l yX11_count vsX11_count ({ frames := 0, cells := 0, slots := 0, locals := 0 }) (va_Pc [.ref h0, .int 1] (zB dC dI cI cQ [(h0, .inr (11, [.ref h1, .ref h2, .int 0, .ref h3, .ref h4, .ref h5, .ref h6, .int 0, .ref h7])), (h1, .inr (7, [.ref h8, .ref h9, .ref h10, .int 0, .ref h11, .ref h12, .ref h13, .ref h14, .int 0, .int 0, .int 10, .ref h15]))] sz)) (zQi dC dI (va_A [(h0, .inr (11, [.ref h1, .ref h2, .int 0, .ref h3, .ref h4, .ref h5, .ref h6, .int 0, .ref h7])), (h1, .inr (7, [.ref h8, .ref h9, .ref h10, .int 0, .ref h11, .ref h12, .ref h13, .ref h14, .int 0, .int 0, .int 10, .ref h15]))] sz) (fun ad => []) 0) 0 0 (va_A [(h0, .inr (11, [.ref h1, .ref h2, .int 0, .ref h3, .ref h4, .ref h5, .ref h6, .int 0, .ref h7])), (h1, .inr (7, [.ref h8, .ref h9, .ref h10, .int 0, .ref h11, .ref h12, .ref h13, .ref h14, .int 0, .int 0, .int 10, .ref h15]))] sz) := by
  refine Met.ofW (cc := cX11_count) (maxL := 2) (ret := (some .int)) (by decide) rfl ?_
  intro p e s m args below meth c s₁ B hml hv
  obtain ⟨rfl, hsz, hP, hZ, hD0⟩ := hv
  obtain ⟨hK, hAO, hN⟩ := id hZ
  have hx := B.exec
  have hb := B.bytes
  have hr := B.returns
  have hts := atoms_spec (ws := vsX11_count) B.pre
  have hown : s.vm.findClass RX11 = some m.cls := findClass_of_methodNamed B.named
  have hlocks := B.notSynchronized
  subst hsz
  have hD := hD0.self (sz := s.heap.size)
  generalize hAe : va_A [(h0, .inr (11, [.ref h1, .ref h2, .int 0, .ref h3, .ref h4, .ref h5, .ref h6, .int 0, .ref h7])), (h1, .inr (7, [.ref h8, .ref h9, .ref h10, .int 0, .ref h11, .ref h12, .ref h13, .ref h14, .int 0, .int 0, .int 10, .ref h15]))] s.heap.size = A at hD ⊢
  have hA : ∀ q : Nat, s.heap.size ≤ q → A q := fun q h => by rw [← hAe]; exact Or.inr h
  have hS : va_S A s.heap s.heap [] := va_S.rf
  have hP : va_P (dC, dI) vwCl [(h0, .inr (11, [.ref h1, .ref h2, .int 0, .ref h3, .ref h4, .ref h5, .ref h6, .int 0, .ref h7])), (h1, .inr (7, [.ref h8, .ref h9, .ref h10, .int 0, .ref h11, .ref h12, .ref h13, .ref h14, .int 0, .int 0, .int 10, .ref h15]))] s.heap := hP
  have hl := lv_entry ([.ref h0, .int 1]) (n := 2) (Nat.le_of_ble_eq_true rfl)
  rw [lg_entry_eq]
  generalize (lg_sl ([.ref h0, .int 1]) ++ List.replicate (2 - (lg_sl ([.ref h0, .int 1])).length) Slot.unset).toArray = ls at hl ⊢
  have hl : lv_has ls 2 [(0, .ref h0), (1, .int 1)] := hl
  refine lv_iload_n hx hb dX11_count_0 rfl (lv_at hl 1 rfl) ?_
  refine lv_tableIn (tgt := 56) hx hb dX11_count_1 (by decide) (by decide) (off := 55) (by decide) (by decide) ?_
  refine lv_aload_n hx hb dX11_count_56 rfl (lv_at hl 0 rfl) ?_
  refine va_get (D := (dC, dI)) (ci := 11) (v := .ref h1) (C := RX11) (T := TX11) (N := 9) hx hb hts in_X11_count_X11 hown hK hP 0 rfl rfl 0 (by decide) (hts (.fieldLink RX11 10 "EachOnHisCue" "play" "LEachOnHisCue$Play;") (by decide +kernel)) (fun _ h9 => h9) rfl dX11_count_57 ?_
  refine va_get (D := (dC, dI)) (ci := 7) (v := .int 0) (C := RX7) (T := TX7) (N := 12) hx hb hts in_X11_count_X7 hown hK hP 1 rfl rfl 9 (by decide) (hts (.fieldLink RX11 137 "EachOnHisCue$Play" "lines" "I") (by decide +kernel)) (fun _ h9 => h9) rfl dX11_count_60 ?_
  have hP9 := hP.sub (ws' := []) [] rfl
  have hD9 := hD.sub (ws' := []) [] (by decide) rfl
  exact W.iret (v := 0) hx hb hr (fun t ht hW => ⟨⟨0, (fun k => [].getD k 0), rfl, rfl, by rw [ht]; exact hP9, hD9⟩, hS.F ht⟩) hS.2.2 dX11_count_63
set_option maxHeartbeats 4000000 in
set_option maxRecDepth 100000 in
theorem kX11_count_3 (l : Launch) (dC : Nat → ClassId) (dI : Nat → Nat → Nat) (cI cQ : ClassId) (h0 h1 h2 h3 h4 h5 h6 h7 h8 h9 h10 h11 h12 h13 h14 h15 : Nat) (sz : Nat) : Met l yX11_count vsX11_count ({ frames := 0, cells := 0, slots := 0, locals := 0 }) (va_Pc [.ref h0, .int 2] (zB dC dI cI cQ [(h0, .inr (11, [.ref h1, .ref h3, .int 0, .ref h4, .ref h5, .ref h6, .ref h7, .int 0, .ref h8])), (h1, .inr (7, [.ref h9, .ref h10, .ref h11, .int 0, .ref h12, .ref h13, .ref h14, .ref h15, .int 0, .int 0, .int 10, .ref h2])), (h2, .inr (9, [.int 0, .int 0, .int (-9), .int 0, .int 0]))] sz)) (zQi dC dI (va_A [(h0, .inr (11, [.ref h1, .ref h3, .int 0, .ref h4, .ref h5, .ref h6, .ref h7, .int 0, .ref h8])), (h1, .inr (7, [.ref h9, .ref h10, .ref h11, .int 0, .ref h12, .ref h13, .ref h14, .ref h15, .int 0, .int 0, .int 10, .ref h2])), (h2, .inr (9, [.int 0, .int 0, .int (-9), .int 0, .int 0]))] sz) (fun ad => []) 0) 0 0 (va_A [(h0, .inr (11, [.ref h1, .ref h3, .int 0, .ref h4, .ref h5, .ref h6, .ref h7, .int 0, .ref h8])), (h1, .inr (7, [.ref h9, .ref h10, .ref h11, .int 0, .ref h12, .ref h13, .ref h14, .ref h15, .int 0, .int 0, .int 10, .ref h2])), (h2, .inr (9, [.int 0, .int 0, .int (-9), .int 0, .int 0]))] sz) := by
  refine Met.ofW (cc := cX11_count) (maxL := 2) (ret := (some .int)) (by decide) rfl ?_
  intro p e s m args below meth c s₁ B hml hv
  obtain ⟨rfl, hsz, hP, hZ, hD0⟩ := hv
  obtain ⟨hK, hAO, hN⟩ := id hZ
  have hx := B.exec
  have hb := B.bytes
  have hr := B.returns
  have hts := atoms_spec (ws := vsX11_count) B.pre
  have hown : s.vm.findClass RX11 = some m.cls := findClass_of_methodNamed B.named
  have hlocks := B.notSynchronized
  subst hsz
  have hD := hD0.self (sz := s.heap.size)
  generalize hAe : va_A [(h0, .inr (11, [.ref h1, .ref h3, .int 0, .ref h4, .ref h5, .ref h6, .ref h7, .int 0, .ref h8])), (h1, .inr (7, [.ref h9, .ref h10, .ref h11, .int 0, .ref h12, .ref h13, .ref h14, .ref h15, .int 0, .int 0, .int 10, .ref h2])), (h2, .inr (9, [.int 0, .int 0, .int (-9), .int 0, .int 0]))] s.heap.size = A at hD ⊢
  have hA : ∀ q : Nat, s.heap.size ≤ q → A q := fun q h => by rw [← hAe]; exact Or.inr h
  have hS : va_S A s.heap s.heap [] := va_S.rf
  have hP : va_P (dC, dI) vwCl [(h0, .inr (11, [.ref h1, .ref h3, .int 0, .ref h4, .ref h5, .ref h6, .ref h7, .int 0, .ref h8])), (h1, .inr (7, [.ref h9, .ref h10, .ref h11, .int 0, .ref h12, .ref h13, .ref h14, .ref h15, .int 0, .int 0, .int 10, .ref h2])), (h2, .inr (9, [.int 0, .int 0, .int (-9), .int 0, .int 0]))] s.heap := hP
  have hl := lv_entry ([.ref h0, .int 2]) (n := 2) (Nat.le_of_ble_eq_true rfl)
  rw [lg_entry_eq]
  generalize (lg_sl ([.ref h0, .int 2]) ++ List.replicate (2 - (lg_sl ([.ref h0, .int 2])).length) Slot.unset).toArray = ls at hl ⊢
  have hl : lv_has ls 2 [(0, .ref h0), (1, .int 2)] := hl
  refine lv_iload_n hx hb dX11_count_0 rfl (lv_at hl 1 rfl) ?_
  refine lv_tableIn (tgt := 64) hx hb dX11_count_1 (by decide) (by decide) (off := 63) (by decide) (by decide) ?_
  refine lv_aload_n hx hb dX11_count_64 rfl (lv_at hl 0 rfl) ?_
  refine va_get (D := (dC, dI)) (ci := 11) (v := .ref h1) (C := RX11) (T := TX11) (N := 9) hx hb hts in_X11_count_X11 hown hK hP 0 rfl rfl 0 (by decide) (hts (.fieldLink RX11 10 "EachOnHisCue" "play" "LEachOnHisCue$Play;") (by decide +kernel)) (fun _ h9 => h9) rfl dX11_count_65 ?_
  refine va_get (D := (dC, dI)) (ci := 7) (v := .ref h2) (C := RX7) (T := TX7) (N := 12) hx hb hts in_X11_count_X7 hown hK hP 1 rfl rfl 11 (by decide) (hts (.fieldLink RX11 71 "EachOnHisCue$Play" "now" "LEachOnHisCue$Saying;") (by decide +kernel)) (fun _ h9 => h9) rfl dX11_count_68 ?_
  refine va_get (D := (dC, dI)) (ci := 9) (v := .int 0) (C := RX9) (T := TX9) (N := 5) hx hb hts in_X11_count_X9 hown hK hP 2 rfl rfl 3 (by decide) (hts (.fieldLink RX11 147 "EachOnHisCue$Saying" "times" "I") (by decide +kernel)) (fun _ h9 => h9) rfl dX11_count_71 ?_
  have hP9 := hP.sub (ws' := []) [] rfl
  have hD9 := hD.sub (ws' := []) [] (by decide) rfl
  exact W.iret (v := 0) hx hb hr (fun t ht hW => ⟨⟨0, (fun k => [].getD k 0), rfl, rfl, by rw [ht]; exact hP9, hD9⟩, hS.F ht⟩) hS.2.2 dX11_count_74
set_option maxHeartbeats 4000000 in
set_option maxRecDepth 100000 in
theorem kX11_count_4 (l : Launch) (dC : Nat → ClassId) (dI : Nat → Nat → Nat) (cI cQ : ClassId) (h0 h1 h2 h3 h4 h5 h6 h7 h8 h9 h10 h11 h12 h13 h14 h15 : Nat) (sz : Nat) : Met l yX11_count vsX11_count ({ frames := 0, cells := 0, slots := 0, locals := 0 }) (va_Pc [.ref h0, .int 3] (zB dC dI cI cQ [(h0, .inr (11, [.ref h1, .ref h3, .int 0, .ref h4, .ref h5, .ref h6, .ref h7, .int 0, .ref h8])), (h1, .inr (7, [.ref h9, .ref h10, .ref h11, .int 0, .ref h12, .ref h13, .ref h14, .ref h15, .int 0, .int 0, .int 10, .ref h2])), (h2, .inr (9, [.int 0, .int 0, .int (-9), .int 0, .int 0]))] sz)) (zQi dC dI (va_A [(h0, .inr (11, [.ref h1, .ref h3, .int 0, .ref h4, .ref h5, .ref h6, .ref h7, .int 0, .ref h8])), (h1, .inr (7, [.ref h9, .ref h10, .ref h11, .int 0, .ref h12, .ref h13, .ref h14, .ref h15, .int 0, .int 0, .int 10, .ref h2])), (h2, .inr (9, [.int 0, .int 0, .int (-9), .int 0, .int 0]))] sz) (fun ad => []) (-9)) 0 0 (va_A [(h0, .inr (11, [.ref h1, .ref h3, .int 0, .ref h4, .ref h5, .ref h6, .ref h7, .int 0, .ref h8])), (h1, .inr (7, [.ref h9, .ref h10, .ref h11, .int 0, .ref h12, .ref h13, .ref h14, .ref h15, .int 0, .int 0, .int 10, .ref h2])), (h2, .inr (9, [.int 0, .int 0, .int (-9), .int 0, .int 0]))] sz) := by
  refine Met.ofW (cc := cX11_count) (maxL := 2) (ret := (some .int)) (by decide) rfl ?_
  intro p e s m args below meth c s₁ B hml hv
  obtain ⟨rfl, hsz, hP, hZ, hD0⟩ := hv
  obtain ⟨hK, hAO, hN⟩ := id hZ
  have hx := B.exec
  have hb := B.bytes
  have hr := B.returns
  have hts := atoms_spec (ws := vsX11_count) B.pre
  have hown : s.vm.findClass RX11 = some m.cls := findClass_of_methodNamed B.named
  have hlocks := B.notSynchronized
  subst hsz
  have hD := hD0.self (sz := s.heap.size)
  generalize hAe : va_A [(h0, .inr (11, [.ref h1, .ref h3, .int 0, .ref h4, .ref h5, .ref h6, .ref h7, .int 0, .ref h8])), (h1, .inr (7, [.ref h9, .ref h10, .ref h11, .int 0, .ref h12, .ref h13, .ref h14, .ref h15, .int 0, .int 0, .int 10, .ref h2])), (h2, .inr (9, [.int 0, .int 0, .int (-9), .int 0, .int 0]))] s.heap.size = A at hD ⊢
  have hA : ∀ q : Nat, s.heap.size ≤ q → A q := fun q h => by rw [← hAe]; exact Or.inr h
  have hS : va_S A s.heap s.heap [] := va_S.rf
  have hP : va_P (dC, dI) vwCl [(h0, .inr (11, [.ref h1, .ref h3, .int 0, .ref h4, .ref h5, .ref h6, .ref h7, .int 0, .ref h8])), (h1, .inr (7, [.ref h9, .ref h10, .ref h11, .int 0, .ref h12, .ref h13, .ref h14, .ref h15, .int 0, .int 0, .int 10, .ref h2])), (h2, .inr (9, [.int 0, .int 0, .int (-9), .int 0, .int 0]))] s.heap := hP
  have hl := lv_entry ([.ref h0, .int 3]) (n := 2) (Nat.le_of_ble_eq_true rfl)
  rw [lg_entry_eq]
  generalize (lg_sl ([.ref h0, .int 3]) ++ List.replicate (2 - (lg_sl ([.ref h0, .int 3])).length) Slot.unset).toArray = ls at hl ⊢
  have hl : lv_has ls 2 [(0, .ref h0), (1, .int 3)] := hl
  refine lv_iload_n hx hb dX11_count_0 rfl (lv_at hl 1 rfl) ?_
  refine lv_tableIn (tgt := 75) hx hb dX11_count_1 (by decide) (by decide) (off := 74) (by decide) (by decide) ?_
  refine lv_aload_n hx hb dX11_count_75 rfl (lv_at hl 0 rfl) ?_
  refine va_get (D := (dC, dI)) (ci := 11) (v := .ref h1) (C := RX11) (T := TX11) (N := 9) hx hb hts in_X11_count_X11 hown hK hP 0 rfl rfl 0 (by decide) (hts (.fieldLink RX11 10 "EachOnHisCue" "play" "LEachOnHisCue$Play;") (by decide +kernel)) (fun _ h9 => h9) rfl dX11_count_76 ?_
  refine va_get (D := (dC, dI)) (ci := 7) (v := .ref h2) (C := RX7) (T := TX7) (N := 12) hx hb hts in_X11_count_X7 hown hK hP 1 rfl rfl 11 (by decide) (hts (.fieldLink RX11 71 "EachOnHisCue$Play" "now" "LEachOnHisCue$Saying;") (by decide +kernel)) (fun _ h9 => h9) rfl dX11_count_79 ?_
  refine va_get (D := (dC, dI)) (ci := 9) (v := .int (-9)) (C := RX9) (T := TX9) (N := 5) hx hb hts in_X11_count_X9 hown hK hP 2 rfl rfl 2 (by decide) (hts (.fieldLink RX11 157 "EachOnHisCue$Saying" "latest" "I") (by decide +kernel)) (fun _ h9 => h9) rfl dX11_count_82 ?_
  have hP9 := hP.sub (ws' := []) [] rfl
  have hD9 := hD.sub (ws' := []) [] (by decide) rfl
  exact W.iret (v := (-9)) hx hb hr (fun t ht hW => ⟨⟨(-9), (fun k => [].getD k 0), rfl, rfl, by rw [ht]; exact hP9, hD9⟩, hS.F ht⟩) hS.2.2 dX11_count_85
set_option maxHeartbeats 4000000 in
set_option maxRecDepth 100000 in
theorem kX7_allWords (l : Launch) (dC : Nat → ClassId) (dI : Nat → Nat → Nat) (cI cQ : ClassId) (h0 h1 h2 h3 h4 h5 h6 h7 h8 : Nat) (sz : Nat) : Met l yX7_allWords vsX7_allWords ({ frames := 0, cells := 0, slots := 0, locals := 0 }) (va_Pc [.ref h0] (zB dC dI cI cQ [(h0, .inr (7, [.ref h1, .ref h2, .ref h3, .int 0, .ref h4, .ref h5, .ref h6, .ref h7, .int 0, .int 0, .int 10, .ref h8]))] sz)) (zQi dC dI (va_A [(h0, .inr (7, [.ref h1, .ref h2, .ref h3, .int 0, .ref h4, .ref h5, .ref h6, .ref h7, .int 0, .int 0, .int 10, .ref h8]))] sz) (fun ad => [(h0, .inr (7, [.ref h1, .ref h2, .ref h3, .int 0, .ref h4, .ref h5, .ref h6, .ref h7, .int 0, .int 0, .int 10, .ref h8]))]) 0) 0 0 (va_A [(h0, .inr (7, [.ref h1, .ref h2, .ref h3, .int 0, .ref h4, .ref h5, .ref h6, .ref h7, .int 0, .int 0, .int 10, .ref h8]))] sz) := by
  refine Met.ofW (cc := cX7_allWords) (maxL := 3) (ret := (some .int)) (by decide) rfl ?_
  intro p e s m args below meth c s₁ B hml hv
  obtain ⟨rfl, hsz, hP, hZ, hD0⟩ := hv
  obtain ⟨hK, hAO, hN⟩ := id hZ
  have hx := B.exec
  have hb := B.bytes
  have hr := B.returns
  have hts := atoms_spec (ws := vsX7_allWords) B.pre
  have hown : s.vm.findClass RX7 = some m.cls := findClass_of_methodNamed B.named
  have hlocks := B.notSynchronized
  subst hsz
  have hD := hD0.self (sz := s.heap.size)
  generalize hAe : va_A [(h0, .inr (7, [.ref h1, .ref h2, .ref h3, .int 0, .ref h4, .ref h5, .ref h6, .ref h7, .int 0, .int 0, .int 10, .ref h8]))] s.heap.size = A at hD ⊢
  have hA : ∀ q : Nat, s.heap.size ≤ q → A q := fun q h => by rw [← hAe]; exact Or.inr h
  have hS : va_S A s.heap s.heap [] := va_S.rf
  have hP : va_P (dC, dI) vwCl [(h0, .inr (7, [.ref h1, .ref h2, .ref h3, .int 0, .ref h4, .ref h5, .ref h6, .ref h7, .int 0, .int 0, .int 10, .ref h8]))] s.heap := hP
  have hl := lv_entry ([.ref h0]) (n := 3) (Nat.le_of_ble_eq_true rfl)
  rw [lg_entry_eq]
  generalize (lg_sl ([.ref h0]) ++ List.replicate (3 - (lg_sl ([.ref h0])).length) Slot.unset).toArray = ls at hl ⊢
  have hl : lv_has ls 3 [(0, .ref h0)] := hl
  refine lv_iconst (v := 0) hx hb dX7_allWords_0 (by decide) ?_
  refine lv_istore_n (lv' := [(1, .int 0), (0, .ref h0)]) hx hb dX7_allWords_1 rfl hl (by decide) rfl (fun ls hl => ?_)
  refine lv_iconst (v := 0) hx hb dX7_allWords_2 (by decide) ?_
  refine lv_istore_n (lv' := [(2, .int 0), (1, .int 0), (0, .ref h0)]) hx hb dX7_allWords_3 rfl hl (by decide) rfl (fun ls hl => ?_)
  refine lv_iload_n hx hb dX7_allWords_4 rfl (lv_at hl 0 rfl) ?_
  refine lv_aload_n hx hb dX7_allWords_5 rfl (lv_at hl 2 rfl) ?_
  refine va_get (D := (dC, dI)) (ci := 7) (v := .int 0) (C := RX7) (T := TX7) (N := 12) hx hb hts in_X7_allWords_X7 hown hK hP 0 rfl rfl 9 (by decide) (hts (.fieldLink RX7 43 "EachOnHisCue$Play" "lines" "I") (by decide +kernel)) (fun _ h9 => h9) rfl dX7_allWords_6 ?_
  refine lv_icmp_ge (tgt := 27) hx hb dX7_allWords_9 (by decide) (fun hc => ?_) (fun hc => ?_)
  rotate_left; exact absurd hc (by decide)
  refine lv_iload_n hx hb dX7_allWords_27 rfl (lv_at hl 1 rfl) ?_
  have hP9 := hP.sub (ws' := [(h0, .inr (7, [.ref h1, .ref h2, .ref h3, .int 0, .ref h4, .ref h5, .ref h6, .ref h7, .int 0, .int 0, .int 10, .ref h8]))]) [0] rfl
  have hD9 := hD.sub (ws' := [(h0, .inr (7, [.ref h1, .ref h2, .ref h3, .int 0, .ref h4, .ref h5, .ref h6, .ref h7, .int 0, .int 0, .int 10, .ref h8]))]) [0] (by decide) rfl
  exact W.iret (v := 0) hx hb hr (fun t ht hW => ⟨⟨0, (fun k => [].getD k 0), rfl, rfl, by rw [ht]; exact hP9, hD9⟩, hS.F ht⟩) hS.2.2 dX7_allWords_28
set_option maxHeartbeats 4000000 in
set_option maxRecDepth 100000 in
theorem kX11_count_5 (l : Launch) (dC : Nat → ClassId) (dI : Nat → Nat → Nat) (cI cQ : ClassId) (h0 h1 h2 h3 h4 h5 h6 h7 h8 h9 h10 h11 h12 h13 h14 h15 : Nat) (sz : Nat) : Met l yX11_count vsX11_count ({ frames := 1, cells := 0, slots := 0, locals := 22 }) (va_Pc [.ref h0, .int 4] (zB dC dI cI cQ [(h0, .inr (11, [.ref h1, .ref h2, .int 0, .ref h3, .ref h4, .ref h5, .ref h6, .int 0, .ref h7])), (h1, .inr (7, [.ref h8, .ref h9, .ref h10, .int 0, .ref h11, .ref h12, .ref h13, .ref h14, .int 0, .int 0, .int 10, .ref h15]))] sz)) (zQi dC dI (va_A [(h0, .inr (11, [.ref h1, .ref h2, .int 0, .ref h3, .ref h4, .ref h5, .ref h6, .int 0, .ref h7])), (h1, .inr (7, [.ref h8, .ref h9, .ref h10, .int 0, .ref h11, .ref h12, .ref h13, .ref h14, .int 0, .int 0, .int 10, .ref h15]))] sz) (fun ad => []) 0) 0 0 (va_A [(h0, .inr (11, [.ref h1, .ref h2, .int 0, .ref h3, .ref h4, .ref h5, .ref h6, .int 0, .ref h7])), (h1, .inr (7, [.ref h8, .ref h9, .ref h10, .int 0, .ref h11, .ref h12, .ref h13, .ref h14, .int 0, .int 0, .int 10, .ref h15]))] sz) := by
  refine Met.ofW (cc := cX11_count) (maxL := 2) (ret := (some .int)) (by decide) rfl ?_
  intro p e s m args below meth c s₁ B hml hv
  obtain ⟨rfl, hsz, hP, hZ, hD0⟩ := hv
  obtain ⟨hK, hAO, hN⟩ := id hZ
  have hx := B.exec
  have hb := B.bytes
  have hr := B.returns
  have hts := atoms_spec (ws := vsX11_count) B.pre
  have hown : s.vm.findClass RX11 = some m.cls := findClass_of_methodNamed B.named
  have hlocks := B.notSynchronized
  subst hsz
  have hD := hD0.self (sz := s.heap.size)
  generalize hAe : va_A [(h0, .inr (11, [.ref h1, .ref h2, .int 0, .ref h3, .ref h4, .ref h5, .ref h6, .int 0, .ref h7])), (h1, .inr (7, [.ref h8, .ref h9, .ref h10, .int 0, .ref h11, .ref h12, .ref h13, .ref h14, .int 0, .int 0, .int 10, .ref h15]))] s.heap.size = A at hD ⊢
  have hA : ∀ q : Nat, s.heap.size ≤ q → A q := fun q h => by rw [← hAe]; exact Or.inr h
  have hS : va_S A s.heap s.heap [] := va_S.rf
  have hP : va_P (dC, dI) vwCl [(h0, .inr (11, [.ref h1, .ref h2, .int 0, .ref h3, .ref h4, .ref h5, .ref h6, .int 0, .ref h7])), (h1, .inr (7, [.ref h8, .ref h9, .ref h10, .int 0, .ref h11, .ref h12, .ref h13, .ref h14, .int 0, .int 0, .int 10, .ref h15]))] s.heap := hP
  have hl := lv_entry ([.ref h0, .int 4]) (n := 2) (Nat.le_of_ble_eq_true rfl)
  rw [lg_entry_eq]
  generalize (lg_sl ([.ref h0, .int 4]) ++ List.replicate (2 - (lg_sl ([.ref h0, .int 4])).length) Slot.unset).toArray = ls at hl ⊢
  have hl : lv_has ls 2 [(0, .ref h0), (1, .int 4)] := hl
  refine lv_iload_n hx hb dX11_count_0 rfl (lv_at hl 1 rfl) ?_
  refine lv_tableIn (tgt := 86) hx hb dX11_count_1 (by decide) (by decide) (off := 85) (by decide) (by decide) ?_
  refine lv_aload_n hx hb dX11_count_86 rfl (lv_at hl 0 rfl) ?_
  refine va_get (D := (dC, dI)) (ci := 11) (v := .ref h1) (C := RX11) (T := TX11) (N := 9) hx hb hts in_X11_count_X11 hown hK hP 0 rfl rfl 0 (by decide) (hts (.fieldLink RX11 10 "EachOnHisCue" "play" "LEachOnHisCue$Play;") (by decide +kernel)) (fun _ h9 => h9) rfl dX11_count_87 ?_
  refine z_calli (wc := [(h1, .inr (7, [.ref h8, .ref h9, .ref h10, .int 0, .ref h11, .ref h12, .ref h13, .ref h14, .int 0, .int 0, .int 10, .ref h15]))]) (wr := [(h0, .inr (11, [.ref h1, .ref h2, .int 0, .ref h3, .ref h4, .ref h5, .ref h6, .int 0, .ref h7]))]) (w1 := (fun _ => [(h1, .inr (7, [.ref h8, .ref h9, .ref h10, .int 0, .ref h11, .ref h12, .ref h13, .ref h14, .int 0, .int 0, .int 10, .ref h15]))])) (va_runV (As := []) (rest := []) ⟨hx, hb, hml, hown, hts⟩ (kX7_allWords l dC dI cI cQ h1 h8 h9 h10 h11 h12 h13 h14 h15 s.heap.size) (cwV 0 hts gv_X11_count_X7_allWords_241 rfl rfl rfl (by decide +kernel) ⟨Nat.le_of_ble_eq_true rfl, Nat.le_of_ble_eq_true rfl⟩) ⟨z_blind, va_recv hK hP (ci := 7) (q0 := 1) rfl rfl, z_pre hZ hP hD [1] rfl (by decide)⟩ rfl rfl hl.1 rfl (lv_room (Nat.le_of_ble_eq_true rfl)) dX11_count_90 ⟨Nat.le_of_ble_eq_true rfl, Nat.le_of_ble_eq_true rfl⟩) hP hD hS hA [1] [0] rfl rfl (by decide) (by decide) (fun _ H locs hP hD hS => ?_)
  have hP : va_P (dC, dI) vwCl [(h0, .inr (11, [.ref h1, .ref h2, .int 0, .ref h3, .ref h4, .ref h5, .ref h6, .int 0, .ref h7])), (h1, .inr (7, [.ref h8, .ref h9, .ref h10, .int 0, .ref h11, .ref h12, .ref h13, .ref h14, .int 0, .int 0, .int 10, .ref h15]))] H := hP
  have hD : va_D A [(h0, .inr (11, [.ref h1, .ref h2, .int 0, .ref h3, .ref h4, .ref h5, .ref h6, .int 0, .ref h7])), (h1, .inr (7, [.ref h8, .ref h9, .ref h10, .int 0, .ref h11, .ref h12, .ref h13, .ref h14, .int 0, .int 0, .int 10, .ref h15]))] := hD
  have hP9 := hP.sub (ws' := []) [] rfl
  have hD9 := hD.sub (ws' := []) [] (by decide) rfl
  exact W.iret (v := 0) hx hb hr (fun t ht hW => ⟨⟨0, (fun k => [].getD k 0), rfl, rfl, by rw [ht]; exact hP9, hD9⟩, hS.F ht⟩) hS.2.2 dX11_count_93
set_option maxHeartbeats 4000000 in
set_option maxRecDepth 100000 in
theorem kX11_count_6 (l : Launch) (dC : Nat → ClassId) (dI : Nat → Nat → Nat) (cI cQ : ClassId) (h0 h1 h2 h3 h4 h5 h6 h7 h8 : Nat) (sz : Nat) : Met l yX11_count vsX11_count ({ frames := 0, cells := 0, slots := 0, locals := 0 }) (va_Pc [.ref h0, .int 5] (zB dC dI cI cQ [(h0, .inr (11, [.ref h2, .ref h3, .int 0, .ref h4, .ref h5, .ref h1, .ref h6, .int 0, .ref h7])), (h1, .inr (4, [.ref h8, .int 0]))] sz)) (zQi dC dI (va_A [(h0, .inr (11, [.ref h2, .ref h3, .int 0, .ref h4, .ref h5, .ref h1, .ref h6, .int 0, .ref h7])), (h1, .inr (4, [.ref h8, .int 0]))] sz) (fun ad => []) 0) 0 0 (va_A [(h0, .inr (11, [.ref h2, .ref h3, .int 0, .ref h4, .ref h5, .ref h1, .ref h6, .int 0, .ref h7])), (h1, .inr (4, [.ref h8, .int 0]))] sz) := by
  refine Met.ofW (cc := cX11_count) (maxL := 2) (ret := (some .int)) (by decide) rfl ?_
  intro p e s m args below meth c s₁ B hml hv
  obtain ⟨rfl, hsz, hP, hZ, hD0⟩ := hv
  obtain ⟨hK, hAO, hN⟩ := id hZ
  have hx := B.exec
  have hb := B.bytes
  have hr := B.returns
  have hts := atoms_spec (ws := vsX11_count) B.pre
  have hown : s.vm.findClass RX11 = some m.cls := findClass_of_methodNamed B.named
  have hlocks := B.notSynchronized
  subst hsz
  have hD := hD0.self (sz := s.heap.size)
  generalize hAe : va_A [(h0, .inr (11, [.ref h2, .ref h3, .int 0, .ref h4, .ref h5, .ref h1, .ref h6, .int 0, .ref h7])), (h1, .inr (4, [.ref h8, .int 0]))] s.heap.size = A at hD ⊢
  have hA : ∀ q : Nat, s.heap.size ≤ q → A q := fun q h => by rw [← hAe]; exact Or.inr h
  have hS : va_S A s.heap s.heap [] := va_S.rf
  have hP : va_P (dC, dI) vwCl [(h0, .inr (11, [.ref h2, .ref h3, .int 0, .ref h4, .ref h5, .ref h1, .ref h6, .int 0, .ref h7])), (h1, .inr (4, [.ref h8, .int 0]))] s.heap := hP
  have hl := lv_entry ([.ref h0, .int 5]) (n := 2) (Nat.le_of_ble_eq_true rfl)
  rw [lg_entry_eq]
  generalize (lg_sl ([.ref h0, .int 5]) ++ List.replicate (2 - (lg_sl ([.ref h0, .int 5])).length) Slot.unset).toArray = ls at hl ⊢
  have hl : lv_has ls 2 [(0, .ref h0), (1, .int 5)] := hl
  refine lv_iload_n hx hb dX11_count_0 rfl (lv_at hl 1 rfl) ?_
  refine lv_tableIn (tgt := 94) hx hb dX11_count_1 (by decide) (by decide) (off := 93) (by decide) (by decide) ?_
  refine lv_aload_n hx hb dX11_count_94 rfl (lv_at hl 0 rfl) ?_
  refine va_get (D := (dC, dI)) (ci := 11) (v := .ref h1) (C := RX11) (T := TX11) (N := 9) hx hb hts in_X11_count_X11 hown hK hP 0 rfl rfl 5 (by decide) (hts (.fieldLink RX11 38 "EachOnHisCue" "letters" "LEachOnHisCue$Letters;") (by decide +kernel)) (fun _ h9 => h9) rfl dX11_count_95 ?_
  refine va_get (D := (dC, dI)) (ci := 4) (v := .int 0) (C := RX4) (T := TX4) (N := 2) hx hb hts in_X11_count_X4 hown hK hP 1 rfl rfl 1 (by decide) (hts (.fieldLink RX11 57 "EachOnHisCue$Letters" "size" "I") (by decide +kernel)) (fun _ h9 => h9) rfl dX11_count_98 ?_
  have hP9 := hP.sub (ws' := []) [] rfl
  have hD9 := hD.sub (ws' := []) [] (by decide) rfl
  exact W.iret (v := 0) hx hb hr (fun t ht hW => ⟨⟨0, (fun k => [].getD k 0), rfl, rfl, by rw [ht]; exact hP9, hD9⟩, hS.F ht⟩) hS.2.2 dX11_count_101
set_option maxHeartbeats 4000000 in
set_option maxRecDepth 100000 in
theorem kX11_count_7 (l : Launch) (dC : Nat → ClassId) (dI : Nat → Nat → Nat) (cI cQ : ClassId) (h0 h1 h2 h3 h4 h5 h6 h7 : Nat) (sz : Nat) : Met l yX11_count vsX11_count ({ frames := 0, cells := 0, slots := 0, locals := 0 }) (va_Pc [.ref h0, .int 6] (zB dC dI cI cQ [(h0, .inr (11, [.ref h1, .ref h2, .int 0, .ref h3, .ref h4, .ref h5, .ref h6, .int 0, .ref h7]))] sz)) (zQi dC dI (va_A [(h0, .inr (11, [.ref h1, .ref h2, .int 0, .ref h3, .ref h4, .ref h5, .ref h6, .int 0, .ref h7]))] sz) (fun ad => []) 0) 0 0 (va_A [(h0, .inr (11, [.ref h1, .ref h2, .int 0, .ref h3, .ref h4, .ref h5, .ref h6, .int 0, .ref h7]))] sz) := by
  refine Met.ofW (cc := cX11_count) (maxL := 2) (ret := (some .int)) (by decide) rfl ?_
  intro p e s m args below meth c s₁ B hml hv
  obtain ⟨rfl, hsz, hP, hZ, hD0⟩ := hv
  obtain ⟨hK, hAO, hN⟩ := id hZ
  have hx := B.exec
  have hb := B.bytes
  have hr := B.returns
  have hts := atoms_spec (ws := vsX11_count) B.pre
  have hown : s.vm.findClass RX11 = some m.cls := findClass_of_methodNamed B.named
  have hlocks := B.notSynchronized
  subst hsz
  have hD := hD0.self (sz := s.heap.size)
  generalize hAe : va_A [(h0, .inr (11, [.ref h1, .ref h2, .int 0, .ref h3, .ref h4, .ref h5, .ref h6, .int 0, .ref h7]))] s.heap.size = A at hD ⊢
  have hA : ∀ q : Nat, s.heap.size ≤ q → A q := fun q h => by rw [← hAe]; exact Or.inr h
  have hS : va_S A s.heap s.heap [] := va_S.rf
  have hP : va_P (dC, dI) vwCl [(h0, .inr (11, [.ref h1, .ref h2, .int 0, .ref h3, .ref h4, .ref h5, .ref h6, .int 0, .ref h7]))] s.heap := hP
  have hl := lv_entry ([.ref h0, .int 6]) (n := 2) (Nat.le_of_ble_eq_true rfl)
  rw [lg_entry_eq]
  generalize (lg_sl ([.ref h0, .int 6]) ++ List.replicate (2 - (lg_sl ([.ref h0, .int 6])).length) Slot.unset).toArray = ls at hl ⊢
  have hl : lv_has ls 2 [(0, .ref h0), (1, .int 6)] := hl
  refine lv_iload_n hx hb dX11_count_0 rfl (lv_at hl 1 rfl) ?_
  refine lv_tableIn (tgt := 102) hx hb dX11_count_1 (by decide) (by decide) (off := 101) (by decide) (by decide) ?_
  refine lv_aload_n hx hb dX11_count_102 rfl (lv_at hl 0 rfl) ?_
  refine va_get (D := (dC, dI)) (ci := 11) (v := .int 0) (C := RX11) (T := TX11) (N := 9) hx hb hts in_X11_count_X11 hown hK hP 0 rfl rfl 7 (by decide) (hts (.fieldLink RX11 46 "EachOnHisCue" "toldSize" "I") (by decide +kernel)) (fun _ h9 => h9) rfl dX11_count_103 ?_
  have hP9 := hP.sub (ws' := []) [] rfl
  have hD9 := hD.sub (ws' := []) [] (by decide) rfl
  exact W.iret (v := 0) hx hb hr (fun t ht hW => ⟨⟨0, (fun k => [].getD k 0), rfl, rfl, by rw [ht]; exact hP9, hD9⟩, hS.F ht⟩) hS.2.2 dX11_count_106
set_option maxHeartbeats 4000000 in
set_option maxRecDepth 100000 in
theorem kX11_count_8 (l : Launch) (dC : Nat → ClassId) (dI : Nat → Nat → Nat) (cI cQ : ClassId) (h0 h1 h2 h3 h4 h5 h6 h7 h8 h9 h10 h11 h12 h13 h14 h15 : Nat) (sz : Nat) : Met l yX11_count vsX11_count ({ frames := 0, cells := 0, slots := 0, locals := 0 }) (va_Pc [.ref h0, .int 7] (zB dC dI cI cQ [(h0, .inr (11, [.ref h1, .ref h2, .int 0, .ref h3, .ref h4, .ref h5, .ref h6, .int 0, .ref h7])), (h1, .inr (7, [.ref h8, .ref h9, .ref h10, .int 0, .ref h11, .ref h12, .ref h13, .ref h14, .int 0, .int 0, .int 10, .ref h15]))] sz)) (zQi dC dI (va_A [(h0, .inr (11, [.ref h1, .ref h2, .int 0, .ref h3, .ref h4, .ref h5, .ref h6, .int 0, .ref h7])), (h1, .inr (7, [.ref h8, .ref h9, .ref h10, .int 0, .ref h11, .ref h12, .ref h13, .ref h14, .int 0, .int 0, .int 10, .ref h15]))] sz) (fun ad => []) 10) 0 0 (va_A [(h0, .inr (11, [.ref h1, .ref h2, .int 0, .ref h3, .ref h4, .ref h5, .ref h6, .int 0, .ref h7])), (h1, .inr (7, [.ref h8, .ref h9, .ref h10, .int 0, .ref h11, .ref h12, .ref h13, .ref h14, .int 0, .int 0, .int 10, .ref h15]))] sz) := by
  refine Met.ofW (cc := cX11_count) (maxL := 2) (ret := (some .int)) (by decide) rfl ?_
  intro p e s m args below meth c s₁ B hml hv
  obtain ⟨rfl, hsz, hP, hZ, hD0⟩ := hv
  obtain ⟨hK, hAO, hN⟩ := id hZ
  have hx := B.exec
  have hb := B.bytes
  have hr := B.returns
  have hts := atoms_spec (ws := vsX11_count) B.pre
  have hown : s.vm.findClass RX11 = some m.cls := findClass_of_methodNamed B.named
  have hlocks := B.notSynchronized
  subst hsz
  have hD := hD0.self (sz := s.heap.size)
  generalize hAe : va_A [(h0, .inr (11, [.ref h1, .ref h2, .int 0, .ref h3, .ref h4, .ref h5, .ref h6, .int 0, .ref h7])), (h1, .inr (7, [.ref h8, .ref h9, .ref h10, .int 0, .ref h11, .ref h12, .ref h13, .ref h14, .int 0, .int 0, .int 10, .ref h15]))] s.heap.size = A at hD ⊢
  have hA : ∀ q : Nat, s.heap.size ≤ q → A q := fun q h => by rw [← hAe]; exact Or.inr h
  have hS : va_S A s.heap s.heap [] := va_S.rf
  have hP : va_P (dC, dI) vwCl [(h0, .inr (11, [.ref h1, .ref h2, .int 0, .ref h3, .ref h4, .ref h5, .ref h6, .int 0, .ref h7])), (h1, .inr (7, [.ref h8, .ref h9, .ref h10, .int 0, .ref h11, .ref h12, .ref h13, .ref h14, .int 0, .int 0, .int 10, .ref h15]))] s.heap := hP
  have hl := lv_entry ([.ref h0, .int 7]) (n := 2) (Nat.le_of_ble_eq_true rfl)
  rw [lg_entry_eq]
  generalize (lg_sl ([.ref h0, .int 7]) ++ List.replicate (2 - (lg_sl ([.ref h0, .int 7])).length) Slot.unset).toArray = ls at hl ⊢
  have hl : lv_has ls 2 [(0, .ref h0), (1, .int 7)] := hl
  refine lv_iload_n hx hb dX11_count_0 rfl (lv_at hl 1 rfl) ?_
  refine lv_tableIn (tgt := 107) hx hb dX11_count_1 (by decide) (by decide) (off := 106) (by decide) (by decide) ?_
  refine lv_aload_n hx hb dX11_count_107 rfl (lv_at hl 0 rfl) ?_
  refine va_get (D := (dC, dI)) (ci := 11) (v := .ref h1) (C := RX11) (T := TX11) (N := 9) hx hb hts in_X11_count_X11 hown hK hP 0 rfl rfl 0 (by decide) (hts (.fieldLink RX11 10 "EachOnHisCue" "play" "LEachOnHisCue$Play;") (by decide +kernel)) (fun _ h9 => h9) rfl dX11_count_108 ?_
  refine va_get (D := (dC, dI)) (ci := 7) (v := .int 10) (C := RX7) (T := TX7) (N := 12) hx hb hts in_X11_count_X7 hown hK hP 1 rfl rfl 10 (by decide) (hts (.fieldLink RX11 124 "EachOnHisCue$Play" "lost" "I") (by decide +kernel)) (fun _ h9 => h9) rfl dX11_count_111 ?_
  have hP9 := hP.sub (ws' := []) [] rfl
  have hD9 := hD.sub (ws' := []) [] (by decide) rfl
  exact W.iret (v := 10) hx hb hr (fun t ht hW => ⟨⟨10, (fun k => [].getD k 0), rfl, rfl, by rw [ht]; exact hP9, hD9⟩, hS.F ht⟩) hS.2.2 dX11_count_114
set_option maxHeartbeats 4000000 in
set_option maxRecDepth 100000 in
theorem kX11_count_9 (l : Launch) (dC : Nat → ClassId) (dI : Nat → Nat → Nat) (cI cQ : ClassId) (h0 : Nat) (p0 : Int32) (hp0l : 8 ≤ p0.toInt) (hp0h : p0.toInt ≤ 10) (sz : Nat) : Met l yX11_count vsX11_count ({ frames := 0, cells := 0, slots := 0, locals := 0 }) (va_Pc [.ref h0, .int p0] (zB dC dI cI cQ [] sz)) (zQi dC dI (va_A [] sz) (fun ad => []) (-9)) 0 0 (va_A [] sz) := by
  refine Met.ofW (cc := cX11_count) (maxL := 2) (ret := (some .int)) (by decide) rfl ?_
  intro p e s m args below meth c s₁ B hml hv
  obtain ⟨rfl, hsz, hP, hZ, hD0⟩ := hv
  obtain ⟨hK, hAO, hN⟩ := id hZ
  have hx := B.exec
  have hb := B.bytes
  have hr := B.returns
  have hts := atoms_spec (ws := vsX11_count) B.pre
  have hown : s.vm.findClass RX11 = some m.cls := findClass_of_methodNamed B.named
  have hlocks := B.notSynchronized
  subst hsz
  have hD := hD0.self (sz := s.heap.size)
  generalize hAe : va_A [] s.heap.size = A at hD ⊢
  have hA : ∀ q : Nat, s.heap.size ≤ q → A q := fun q h => by rw [← hAe]; exact Or.inr h
  have hS : va_S A s.heap s.heap [] := va_S.rf
  have hP : va_P (dC, dI) vwCl [] s.heap := hP
  have hl := lv_entry ([.ref h0, .int p0]) (n := 2) (Nat.le_of_ble_eq_true rfl)
  rw [lg_entry_eq]
  generalize (lg_sl ([.ref h0, .int p0]) ++ List.replicate (2 - (lg_sl ([.ref h0, .int p0])).length) Slot.unset).toArray = ls at hl ⊢
  have hl : lv_has ls 2 [(0, .ref h0), (1, .int p0)] := hl
  refine lv_iload_n hx hb dX11_count_0 rfl (lv_at hl 1 rfl) ?_
  refine lv_tableOut (tgt := 115) hx hb dX11_count_1 (by omega) (by decide) ?_
  refine lv_iload_n hx hb dX11_count_115 rfl (lv_at hl 1 rfl) ?_
  refine lv_bipush (v := 11) hx hb dX11_count_116 (by decide) ?_
  refine lv_icmp_lt (tgt := 139) hx hb dX11_count_118 (by decide) (fun hc => ?_) (fun hc => ?_)
  rotate_left; exact absurd ((fa_lt _ _).mpr (by rw [show (11 : Int32).toInt = 11 from by decide]; omega)) hc
  refine lv_bipush (v := (-9)) hx hb dX11_count_139 (by decide) ?_
  have hP9 := hP.sub (ws' := []) [] rfl
  have hD9 := hD.sub (ws' := []) [] (by decide) rfl
  exact W.iret (v := (-9)) hx hb hr (fun t ht hW => ⟨⟨(-9), (fun k => [].getD k 0), rfl, rfl, by rw [ht]; exact hP9, hD9⟩, hS.F ht⟩) hS.2.2 dX11_count_141
set_option maxHeartbeats 4000000 in
set_option maxRecDepth 100000 in
theorem kX11_count_10 (l : Launch) (dC : Nat → ClassId) (dI : Nat → Nat → Nat) (cI cQ : ClassId) (h0 h1 h2 h3 h4 h5 h6 h7 : Nat) (sz : Nat) : Met l yX11_count vsX11_count ({ frames := 0, cells := 0, slots := 0, locals := 0 }) (va_Pc [.ref h0, .int 11] (zB dC dI cI cQ [(h0, .inr (11, [.ref h2, .ref h3, .int 0, .ref h4, .ref h5, .ref h6, .ref h7, .int 0, .ref h1])), (h1, .inl (cI, 7, .inl (fun _ => 0)))] sz)) (zQi dC dI (va_A [(h0, .inr (11, [.ref h2, .ref h3, .int 0, .ref h4, .ref h5, .ref h6, .ref h7, .int 0, .ref h1])), (h1, .inl (cI, 7, .inl (fun _ => 0)))] sz) (fun ad => []) 0) 0 0 (va_A [(h0, .inr (11, [.ref h2, .ref h3, .int 0, .ref h4, .ref h5, .ref h6, .ref h7, .int 0, .ref h1])), (h1, .inl (cI, 7, .inl (fun _ => 0)))] sz) := by
  refine Met.ofW (cc := cX11_count) (maxL := 2) (ret := (some .int)) (by decide) rfl ?_
  intro p e s m args below meth c s₁ B hml hv
  obtain ⟨rfl, hsz, hP, hZ, hD0⟩ := hv
  obtain ⟨hK, hAO, hN⟩ := id hZ
  have hx := B.exec
  have hb := B.bytes
  have hr := B.returns
  have hts := atoms_spec (ws := vsX11_count) B.pre
  have hown : s.vm.findClass RX11 = some m.cls := findClass_of_methodNamed B.named
  have hlocks := B.notSynchronized
  subst hsz
  have hD := hD0.self (sz := s.heap.size)
  generalize hAe : va_A [(h0, .inr (11, [.ref h2, .ref h3, .int 0, .ref h4, .ref h5, .ref h6, .ref h7, .int 0, .ref h1])), (h1, .inl (cI, 7, .inl (fun _ => 0)))] s.heap.size = A at hD ⊢
  have hA : ∀ q : Nat, s.heap.size ≤ q → A q := fun q h => by rw [← hAe]; exact Or.inr h
  have hS : va_S A s.heap s.heap [] := va_S.rf
  have hP : va_P (dC, dI) vwCl [(h0, .inr (11, [.ref h2, .ref h3, .int 0, .ref h4, .ref h5, .ref h6, .ref h7, .int 0, .ref h1])), (h1, .inl (cI, 7, .inl (fun _ => 0)))] s.heap := hP
  have hl := lv_entry ([.ref h0, .int 11]) (n := 2) (Nat.le_of_ble_eq_true rfl)
  rw [lg_entry_eq]
  generalize (lg_sl ([.ref h0, .int 11]) ++ List.replicate (2 - (lg_sl ([.ref h0, .int 11])).length) Slot.unset).toArray = ls at hl ⊢
  have hl : lv_has ls 2 [(0, .ref h0), (1, .int 11)] := hl
  refine lv_iload_n hx hb dX11_count_0 rfl (lv_at hl 1 rfl) ?_
  refine lv_tableOut (tgt := 115) hx hb dX11_count_1 (by decide) (by decide) ?_
  refine lv_iload_n hx hb dX11_count_115 rfl (lv_at hl 1 rfl) ?_
  refine lv_bipush (v := 11) hx hb dX11_count_116 (by decide) ?_
  refine lv_icmp_lt (tgt := 139) hx hb dX11_count_118 (by decide) (fun hc => ?_) (fun hc => ?_)
  · exact absurd hc (by decide)
  refine lv_iload_n hx hb dX11_count_121 rfl (lv_at hl 1 rfl) ?_
  refine lv_bipush (v := 16) hx hb dX11_count_122 (by decide) ?_
  refine lv_icmp_gt (tgt := 139) hx hb dX11_count_124 (by decide) (fun hc => ?_) (fun hc => ?_)
  · exact absurd hc (by decide)
  refine lv_aload_n hx hb dX11_count_127 rfl (lv_at hl 0 rfl) ?_
  refine va_get (D := (dC, dI)) (ci := 11) (v := .ref h1) (C := RX11) (T := TX11) (N := 9) hx hb hts in_X11_count_X11 hown hK hP 0 rfl rfl 8 (by decide) (hts (.fieldLink RX11 50 "EachOnHisCue" "refusals" "[I") (by decide +kernel)) (fun _ h9 => h9) rfl dX11_count_128 ?_
  refine lv_iload_n hx hb dX11_count_131 rfl (lv_at hl 1 rfl) ?_
  refine lv_bipush (v := 10) hx hb dX11_count_132 (by decide) ?_
  refine lv_isub hx hb dX11_count_134 ?_
  refine lv_topi (fun y1 ey1 => ?_)
  obtain rfl : y1 = 1 := ey1.trans (by decide)
  refine va_iald hx hb hK hP 1 0 rfl rfl (by unfold vp_in; decide) dX11_count_135 ?_
  refine lv_topi (fun y2 ey2 => ?_)
  obtain rfl : y2 = 0 := ey2.trans (by first | rfl | decide)
  refine lv_goto (tgt := 141) hx hb dX11_count_136 (by decide) ?_
  have hP9 := hP.sub (ws' := []) [] rfl
  have hD9 := hD.sub (ws' := []) [] (by decide) rfl
  exact W.iret (v := 0) hx hb hr (fun t ht hW => ⟨⟨0, (fun k => [].getD k 0), rfl, rfl, by rw [ht]; exact hP9, hD9⟩, hS.F ht⟩) hS.2.2 dX11_count_141
set_option maxHeartbeats 4000000 in
set_option maxRecDepth 100000 in
theorem kX11_count_11 (l : Launch) (dC : Nat → ClassId) (dI : Nat → Nat → Nat) (cI cQ : ClassId) (h0 h1 h2 h3 h4 h5 h6 h7 : Nat) (sz : Nat) : Met l yX11_count vsX11_count ({ frames := 0, cells := 0, slots := 0, locals := 0 }) (va_Pc [.ref h0, .int 12] (zB dC dI cI cQ [(h0, .inr (11, [.ref h2, .ref h3, .int 0, .ref h4, .ref h5, .ref h6, .ref h7, .int 0, .ref h1])), (h1, .inl (cI, 7, .inl (fun _ => 0)))] sz)) (zQi dC dI (va_A [(h0, .inr (11, [.ref h2, .ref h3, .int 0, .ref h4, .ref h5, .ref h6, .ref h7, .int 0, .ref h1])), (h1, .inl (cI, 7, .inl (fun _ => 0)))] sz) (fun ad => []) 0) 0 0 (va_A [(h0, .inr (11, [.ref h2, .ref h3, .int 0, .ref h4, .ref h5, .ref h6, .ref h7, .int 0, .ref h1])), (h1, .inl (cI, 7, .inl (fun _ => 0)))] sz) := by
  refine Met.ofW (cc := cX11_count) (maxL := 2) (ret := (some .int)) (by decide) rfl ?_
  intro p e s m args below meth c s₁ B hml hv
  obtain ⟨rfl, hsz, hP, hZ, hD0⟩ := hv
  obtain ⟨hK, hAO, hN⟩ := id hZ
  have hx := B.exec
  have hb := B.bytes
  have hr := B.returns
  have hts := atoms_spec (ws := vsX11_count) B.pre
  have hown : s.vm.findClass RX11 = some m.cls := findClass_of_methodNamed B.named
  have hlocks := B.notSynchronized
  subst hsz
  have hD := hD0.self (sz := s.heap.size)
  generalize hAe : va_A [(h0, .inr (11, [.ref h2, .ref h3, .int 0, .ref h4, .ref h5, .ref h6, .ref h7, .int 0, .ref h1])), (h1, .inl (cI, 7, .inl (fun _ => 0)))] s.heap.size = A at hD ⊢
  have hA : ∀ q : Nat, s.heap.size ≤ q → A q := fun q h => by rw [← hAe]; exact Or.inr h
  have hS : va_S A s.heap s.heap [] := va_S.rf
  have hP : va_P (dC, dI) vwCl [(h0, .inr (11, [.ref h2, .ref h3, .int 0, .ref h4, .ref h5, .ref h6, .ref h7, .int 0, .ref h1])), (h1, .inl (cI, 7, .inl (fun _ => 0)))] s.heap := hP
  have hl := lv_entry ([.ref h0, .int 12]) (n := 2) (Nat.le_of_ble_eq_true rfl)
  rw [lg_entry_eq]
  generalize (lg_sl ([.ref h0, .int 12]) ++ List.replicate (2 - (lg_sl ([.ref h0, .int 12])).length) Slot.unset).toArray = ls at hl ⊢
  have hl : lv_has ls 2 [(0, .ref h0), (1, .int 12)] := hl
  refine lv_iload_n hx hb dX11_count_0 rfl (lv_at hl 1 rfl) ?_
  refine lv_tableOut (tgt := 115) hx hb dX11_count_1 (by decide) (by decide) ?_
  refine lv_iload_n hx hb dX11_count_115 rfl (lv_at hl 1 rfl) ?_
  refine lv_bipush (v := 11) hx hb dX11_count_116 (by decide) ?_
  refine lv_icmp_lt (tgt := 139) hx hb dX11_count_118 (by decide) (fun hc => ?_) (fun hc => ?_)
  · exact absurd hc (by decide)
  refine lv_iload_n hx hb dX11_count_121 rfl (lv_at hl 1 rfl) ?_
  refine lv_bipush (v := 16) hx hb dX11_count_122 (by decide) ?_
  refine lv_icmp_gt (tgt := 139) hx hb dX11_count_124 (by decide) (fun hc => ?_) (fun hc => ?_)
  · exact absurd hc (by decide)
  refine lv_aload_n hx hb dX11_count_127 rfl (lv_at hl 0 rfl) ?_
  refine va_get (D := (dC, dI)) (ci := 11) (v := .ref h1) (C := RX11) (T := TX11) (N := 9) hx hb hts in_X11_count_X11 hown hK hP 0 rfl rfl 8 (by decide) (hts (.fieldLink RX11 50 "EachOnHisCue" "refusals" "[I") (by decide +kernel)) (fun _ h9 => h9) rfl dX11_count_128 ?_
  refine lv_iload_n hx hb dX11_count_131 rfl (lv_at hl 1 rfl) ?_
  refine lv_bipush (v := 10) hx hb dX11_count_132 (by decide) ?_
  refine lv_isub hx hb dX11_count_134 ?_
  refine lv_topi (fun y1 ey1 => ?_)
  obtain rfl : y1 = 2 := ey1.trans (by decide)
  refine va_iald hx hb hK hP 1 0 rfl rfl (by unfold vp_in; decide) dX11_count_135 ?_
  refine lv_topi (fun y2 ey2 => ?_)
  obtain rfl : y2 = 0 := ey2.trans (by first | rfl | decide)
  refine lv_goto (tgt := 141) hx hb dX11_count_136 (by decide) ?_
  have hP9 := hP.sub (ws' := []) [] rfl
  have hD9 := hD.sub (ws' := []) [] (by decide) rfl
  exact W.iret (v := 0) hx hb hr (fun t ht hW => ⟨⟨0, (fun k => [].getD k 0), rfl, rfl, by rw [ht]; exact hP9, hD9⟩, hS.F ht⟩) hS.2.2 dX11_count_141
set_option maxHeartbeats 4000000 in
set_option maxRecDepth 100000 in
theorem kX11_count_12 (l : Launch) (dC : Nat → ClassId) (dI : Nat → Nat → Nat) (cI cQ : ClassId) (h0 h1 h2 h3 h4 h5 h6 h7 : Nat) (sz : Nat) : Met l yX11_count vsX11_count ({ frames := 0, cells := 0, slots := 0, locals := 0 }) (va_Pc [.ref h0, .int 13] (zB dC dI cI cQ [(h0, .inr (11, [.ref h2, .ref h3, .int 0, .ref h4, .ref h5, .ref h6, .ref h7, .int 0, .ref h1])), (h1, .inl (cI, 7, .inl (fun _ => 0)))] sz)) (zQi dC dI (va_A [(h0, .inr (11, [.ref h2, .ref h3, .int 0, .ref h4, .ref h5, .ref h6, .ref h7, .int 0, .ref h1])), (h1, .inl (cI, 7, .inl (fun _ => 0)))] sz) (fun ad => []) 0) 0 0 (va_A [(h0, .inr (11, [.ref h2, .ref h3, .int 0, .ref h4, .ref h5, .ref h6, .ref h7, .int 0, .ref h1])), (h1, .inl (cI, 7, .inl (fun _ => 0)))] sz) := by
  refine Met.ofW (cc := cX11_count) (maxL := 2) (ret := (some .int)) (by decide) rfl ?_
  intro p e s m args below meth c s₁ B hml hv
  obtain ⟨rfl, hsz, hP, hZ, hD0⟩ := hv
  obtain ⟨hK, hAO, hN⟩ := id hZ
  have hx := B.exec
  have hb := B.bytes
  have hr := B.returns
  have hts := atoms_spec (ws := vsX11_count) B.pre
  have hown : s.vm.findClass RX11 = some m.cls := findClass_of_methodNamed B.named
  have hlocks := B.notSynchronized
  subst hsz
  have hD := hD0.self (sz := s.heap.size)
  generalize hAe : va_A [(h0, .inr (11, [.ref h2, .ref h3, .int 0, .ref h4, .ref h5, .ref h6, .ref h7, .int 0, .ref h1])), (h1, .inl (cI, 7, .inl (fun _ => 0)))] s.heap.size = A at hD ⊢
  have hA : ∀ q : Nat, s.heap.size ≤ q → A q := fun q h => by rw [← hAe]; exact Or.inr h
  have hS : va_S A s.heap s.heap [] := va_S.rf
  have hP : va_P (dC, dI) vwCl [(h0, .inr (11, [.ref h2, .ref h3, .int 0, .ref h4, .ref h5, .ref h6, .ref h7, .int 0, .ref h1])), (h1, .inl (cI, 7, .inl (fun _ => 0)))] s.heap := hP
  have hl := lv_entry ([.ref h0, .int 13]) (n := 2) (Nat.le_of_ble_eq_true rfl)
  rw [lg_entry_eq]
  generalize (lg_sl ([.ref h0, .int 13]) ++ List.replicate (2 - (lg_sl ([.ref h0, .int 13])).length) Slot.unset).toArray = ls at hl ⊢
  have hl : lv_has ls 2 [(0, .ref h0), (1, .int 13)] := hl
  refine lv_iload_n hx hb dX11_count_0 rfl (lv_at hl 1 rfl) ?_
  refine lv_tableOut (tgt := 115) hx hb dX11_count_1 (by decide) (by decide) ?_
  refine lv_iload_n hx hb dX11_count_115 rfl (lv_at hl 1 rfl) ?_
  refine lv_bipush (v := 11) hx hb dX11_count_116 (by decide) ?_
  refine lv_icmp_lt (tgt := 139) hx hb dX11_count_118 (by decide) (fun hc => ?_) (fun hc => ?_)
  · exact absurd hc (by decide)
  refine lv_iload_n hx hb dX11_count_121 rfl (lv_at hl 1 rfl) ?_
  refine lv_bipush (v := 16) hx hb dX11_count_122 (by decide) ?_
  refine lv_icmp_gt (tgt := 139) hx hb dX11_count_124 (by decide) (fun hc => ?_) (fun hc => ?_)
  · exact absurd hc (by decide)
  refine lv_aload_n hx hb dX11_count_127 rfl (lv_at hl 0 rfl) ?_
  refine va_get (D := (dC, dI)) (ci := 11) (v := .ref h1) (C := RX11) (T := TX11) (N := 9) hx hb hts in_X11_count_X11 hown hK hP 0 rfl rfl 8 (by decide) (hts (.fieldLink RX11 50 "EachOnHisCue" "refusals" "[I") (by decide +kernel)) (fun _ h9 => h9) rfl dX11_count_128 ?_
  refine lv_iload_n hx hb dX11_count_131 rfl (lv_at hl 1 rfl) ?_
  refine lv_bipush (v := 10) hx hb dX11_count_132 (by decide) ?_
  refine lv_isub hx hb dX11_count_134 ?_
  refine lv_topi (fun y1 ey1 => ?_)
  obtain rfl : y1 = 3 := ey1.trans (by decide)
  refine va_iald hx hb hK hP 1 0 rfl rfl (by unfold vp_in; decide) dX11_count_135 ?_
  refine lv_topi (fun y2 ey2 => ?_)
  obtain rfl : y2 = 0 := ey2.trans (by first | rfl | decide)
  refine lv_goto (tgt := 141) hx hb dX11_count_136 (by decide) ?_
  have hP9 := hP.sub (ws' := []) [] rfl
  have hD9 := hD.sub (ws' := []) [] (by decide) rfl
  exact W.iret (v := 0) hx hb hr (fun t ht hW => ⟨⟨0, (fun k => [].getD k 0), rfl, rfl, by rw [ht]; exact hP9, hD9⟩, hS.F ht⟩) hS.2.2 dX11_count_141
set_option maxHeartbeats 4000000 in
set_option maxRecDepth 100000 in
theorem kX11_count_13 (l : Launch) (dC : Nat → ClassId) (dI : Nat → Nat → Nat) (cI cQ : ClassId) (h0 h1 h2 h3 h4 h5 h6 h7 : Nat) (sz : Nat) : Met l yX11_count vsX11_count ({ frames := 0, cells := 0, slots := 0, locals := 0 }) (va_Pc [.ref h0, .int 14] (zB dC dI cI cQ [(h0, .inr (11, [.ref h2, .ref h3, .int 0, .ref h4, .ref h5, .ref h6, .ref h7, .int 0, .ref h1])), (h1, .inl (cI, 7, .inl (fun _ => 0)))] sz)) (zQi dC dI (va_A [(h0, .inr (11, [.ref h2, .ref h3, .int 0, .ref h4, .ref h5, .ref h6, .ref h7, .int 0, .ref h1])), (h1, .inl (cI, 7, .inl (fun _ => 0)))] sz) (fun ad => []) 0) 0 0 (va_A [(h0, .inr (11, [.ref h2, .ref h3, .int 0, .ref h4, .ref h5, .ref h6, .ref h7, .int 0, .ref h1])), (h1, .inl (cI, 7, .inl (fun _ => 0)))] sz) := by
  refine Met.ofW (cc := cX11_count) (maxL := 2) (ret := (some .int)) (by decide) rfl ?_
  intro p e s m args below meth c s₁ B hml hv
  obtain ⟨rfl, hsz, hP, hZ, hD0⟩ := hv
  obtain ⟨hK, hAO, hN⟩ := id hZ
  have hx := B.exec
  have hb := B.bytes
  have hr := B.returns
  have hts := atoms_spec (ws := vsX11_count) B.pre
  have hown : s.vm.findClass RX11 = some m.cls := findClass_of_methodNamed B.named
  have hlocks := B.notSynchronized
  subst hsz
  have hD := hD0.self (sz := s.heap.size)
  generalize hAe : va_A [(h0, .inr (11, [.ref h2, .ref h3, .int 0, .ref h4, .ref h5, .ref h6, .ref h7, .int 0, .ref h1])), (h1, .inl (cI, 7, .inl (fun _ => 0)))] s.heap.size = A at hD ⊢
  have hA : ∀ q : Nat, s.heap.size ≤ q → A q := fun q h => by rw [← hAe]; exact Or.inr h
  have hS : va_S A s.heap s.heap [] := va_S.rf
  have hP : va_P (dC, dI) vwCl [(h0, .inr (11, [.ref h2, .ref h3, .int 0, .ref h4, .ref h5, .ref h6, .ref h7, .int 0, .ref h1])), (h1, .inl (cI, 7, .inl (fun _ => 0)))] s.heap := hP
  have hl := lv_entry ([.ref h0, .int 14]) (n := 2) (Nat.le_of_ble_eq_true rfl)
  rw [lg_entry_eq]
  generalize (lg_sl ([.ref h0, .int 14]) ++ List.replicate (2 - (lg_sl ([.ref h0, .int 14])).length) Slot.unset).toArray = ls at hl ⊢
  have hl : lv_has ls 2 [(0, .ref h0), (1, .int 14)] := hl
  refine lv_iload_n hx hb dX11_count_0 rfl (lv_at hl 1 rfl) ?_
  refine lv_tableOut (tgt := 115) hx hb dX11_count_1 (by decide) (by decide) ?_
  refine lv_iload_n hx hb dX11_count_115 rfl (lv_at hl 1 rfl) ?_
  refine lv_bipush (v := 11) hx hb dX11_count_116 (by decide) ?_
  refine lv_icmp_lt (tgt := 139) hx hb dX11_count_118 (by decide) (fun hc => ?_) (fun hc => ?_)
  · exact absurd hc (by decide)
  refine lv_iload_n hx hb dX11_count_121 rfl (lv_at hl 1 rfl) ?_
  refine lv_bipush (v := 16) hx hb dX11_count_122 (by decide) ?_
  refine lv_icmp_gt (tgt := 139) hx hb dX11_count_124 (by decide) (fun hc => ?_) (fun hc => ?_)
  · exact absurd hc (by decide)
  refine lv_aload_n hx hb dX11_count_127 rfl (lv_at hl 0 rfl) ?_
  refine va_get (D := (dC, dI)) (ci := 11) (v := .ref h1) (C := RX11) (T := TX11) (N := 9) hx hb hts in_X11_count_X11 hown hK hP 0 rfl rfl 8 (by decide) (hts (.fieldLink RX11 50 "EachOnHisCue" "refusals" "[I") (by decide +kernel)) (fun _ h9 => h9) rfl dX11_count_128 ?_
  refine lv_iload_n hx hb dX11_count_131 rfl (lv_at hl 1 rfl) ?_
  refine lv_bipush (v := 10) hx hb dX11_count_132 (by decide) ?_
  refine lv_isub hx hb dX11_count_134 ?_
  refine lv_topi (fun y1 ey1 => ?_)
  obtain rfl : y1 = 4 := ey1.trans (by decide)
  refine va_iald hx hb hK hP 1 0 rfl rfl (by unfold vp_in; decide) dX11_count_135 ?_
  refine lv_topi (fun y2 ey2 => ?_)
  obtain rfl : y2 = 0 := ey2.trans (by first | rfl | decide)
  refine lv_goto (tgt := 141) hx hb dX11_count_136 (by decide) ?_
  have hP9 := hP.sub (ws' := []) [] rfl
  have hD9 := hD.sub (ws' := []) [] (by decide) rfl
  exact W.iret (v := 0) hx hb hr (fun t ht hW => ⟨⟨0, (fun k => [].getD k 0), rfl, rfl, by rw [ht]; exact hP9, hD9⟩, hS.F ht⟩) hS.2.2 dX11_count_141
set_option maxHeartbeats 4000000 in
set_option maxRecDepth 100000 in
theorem kX11_count_14 (l : Launch) (dC : Nat → ClassId) (dI : Nat → Nat → Nat) (cI cQ : ClassId) (h0 h1 h2 h3 h4 h5 h6 h7 : Nat) (sz : Nat) : Met l yX11_count vsX11_count ({ frames := 0, cells := 0, slots := 0, locals := 0 }) (va_Pc [.ref h0, .int 15] (zB dC dI cI cQ [(h0, .inr (11, [.ref h2, .ref h3, .int 0, .ref h4, .ref h5, .ref h6, .ref h7, .int 0, .ref h1])), (h1, .inl (cI, 7, .inl (fun _ => 0)))] sz)) (zQi dC dI (va_A [(h0, .inr (11, [.ref h2, .ref h3, .int 0, .ref h4, .ref h5, .ref h6, .ref h7, .int 0, .ref h1])), (h1, .inl (cI, 7, .inl (fun _ => 0)))] sz) (fun ad => []) 0) 0 0 (va_A [(h0, .inr (11, [.ref h2, .ref h3, .int 0, .ref h4, .ref h5, .ref h6, .ref h7, .int 0, .ref h1])), (h1, .inl (cI, 7, .inl (fun _ => 0)))] sz) := by
  refine Met.ofW (cc := cX11_count) (maxL := 2) (ret := (some .int)) (by decide) rfl ?_
  intro p e s m args below meth c s₁ B hml hv
  obtain ⟨rfl, hsz, hP, hZ, hD0⟩ := hv
  obtain ⟨hK, hAO, hN⟩ := id hZ
  have hx := B.exec
  have hb := B.bytes
  have hr := B.returns
  have hts := atoms_spec (ws := vsX11_count) B.pre
  have hown : s.vm.findClass RX11 = some m.cls := findClass_of_methodNamed B.named
  have hlocks := B.notSynchronized
  subst hsz
  have hD := hD0.self (sz := s.heap.size)
  generalize hAe : va_A [(h0, .inr (11, [.ref h2, .ref h3, .int 0, .ref h4, .ref h5, .ref h6, .ref h7, .int 0, .ref h1])), (h1, .inl (cI, 7, .inl (fun _ => 0)))] s.heap.size = A at hD ⊢
  have hA : ∀ q : Nat, s.heap.size ≤ q → A q := fun q h => by rw [← hAe]; exact Or.inr h
  have hS : va_S A s.heap s.heap [] := va_S.rf
  have hP : va_P (dC, dI) vwCl [(h0, .inr (11, [.ref h2, .ref h3, .int 0, .ref h4, .ref h5, .ref h6, .ref h7, .int 0, .ref h1])), (h1, .inl (cI, 7, .inl (fun _ => 0)))] s.heap := hP
  have hl := lv_entry ([.ref h0, .int 15]) (n := 2) (Nat.le_of_ble_eq_true rfl)
  rw [lg_entry_eq]
  generalize (lg_sl ([.ref h0, .int 15]) ++ List.replicate (2 - (lg_sl ([.ref h0, .int 15])).length) Slot.unset).toArray = ls at hl ⊢
  have hl : lv_has ls 2 [(0, .ref h0), (1, .int 15)] := hl
  refine lv_iload_n hx hb dX11_count_0 rfl (lv_at hl 1 rfl) ?_
  refine lv_tableOut (tgt := 115) hx hb dX11_count_1 (by decide) (by decide) ?_
  refine lv_iload_n hx hb dX11_count_115 rfl (lv_at hl 1 rfl) ?_
  refine lv_bipush (v := 11) hx hb dX11_count_116 (by decide) ?_
  refine lv_icmp_lt (tgt := 139) hx hb dX11_count_118 (by decide) (fun hc => ?_) (fun hc => ?_)
  · exact absurd hc (by decide)
  refine lv_iload_n hx hb dX11_count_121 rfl (lv_at hl 1 rfl) ?_
  refine lv_bipush (v := 16) hx hb dX11_count_122 (by decide) ?_
  refine lv_icmp_gt (tgt := 139) hx hb dX11_count_124 (by decide) (fun hc => ?_) (fun hc => ?_)
  · exact absurd hc (by decide)
  refine lv_aload_n hx hb dX11_count_127 rfl (lv_at hl 0 rfl) ?_
  refine va_get (D := (dC, dI)) (ci := 11) (v := .ref h1) (C := RX11) (T := TX11) (N := 9) hx hb hts in_X11_count_X11 hown hK hP 0 rfl rfl 8 (by decide) (hts (.fieldLink RX11 50 "EachOnHisCue" "refusals" "[I") (by decide +kernel)) (fun _ h9 => h9) rfl dX11_count_128 ?_
  refine lv_iload_n hx hb dX11_count_131 rfl (lv_at hl 1 rfl) ?_
  refine lv_bipush (v := 10) hx hb dX11_count_132 (by decide) ?_
  refine lv_isub hx hb dX11_count_134 ?_
  refine lv_topi (fun y1 ey1 => ?_)
  obtain rfl : y1 = 5 := ey1.trans (by decide)
  refine va_iald hx hb hK hP 1 0 rfl rfl (by unfold vp_in; decide) dX11_count_135 ?_
  refine lv_topi (fun y2 ey2 => ?_)
  obtain rfl : y2 = 0 := ey2.trans (by first | rfl | decide)
  refine lv_goto (tgt := 141) hx hb dX11_count_136 (by decide) ?_
  have hP9 := hP.sub (ws' := []) [] rfl
  have hD9 := hD.sub (ws' := []) [] (by decide) rfl
  exact W.iret (v := 0) hx hb hr (fun t ht hW => ⟨⟨0, (fun k => [].getD k 0), rfl, rfl, by rw [ht]; exact hP9, hD9⟩, hS.F ht⟩) hS.2.2 dX11_count_141
set_option maxHeartbeats 4000000 in
set_option maxRecDepth 100000 in
theorem kX11_count_15 (l : Launch) (dC : Nat → ClassId) (dI : Nat → Nat → Nat) (cI cQ : ClassId) (h0 h1 h2 h3 h4 h5 h6 h7 : Nat) (sz : Nat) : Met l yX11_count vsX11_count ({ frames := 0, cells := 0, slots := 0, locals := 0 }) (va_Pc [.ref h0, .int 16] (zB dC dI cI cQ [(h0, .inr (11, [.ref h2, .ref h3, .int 0, .ref h4, .ref h5, .ref h6, .ref h7, .int 0, .ref h1])), (h1, .inl (cI, 7, .inl (fun _ => 0)))] sz)) (zQi dC dI (va_A [(h0, .inr (11, [.ref h2, .ref h3, .int 0, .ref h4, .ref h5, .ref h6, .ref h7, .int 0, .ref h1])), (h1, .inl (cI, 7, .inl (fun _ => 0)))] sz) (fun ad => []) 0) 0 0 (va_A [(h0, .inr (11, [.ref h2, .ref h3, .int 0, .ref h4, .ref h5, .ref h6, .ref h7, .int 0, .ref h1])), (h1, .inl (cI, 7, .inl (fun _ => 0)))] sz) := by
  refine Met.ofW (cc := cX11_count) (maxL := 2) (ret := (some .int)) (by decide) rfl ?_
  intro p e s m args below meth c s₁ B hml hv
  obtain ⟨rfl, hsz, hP, hZ, hD0⟩ := hv
  obtain ⟨hK, hAO, hN⟩ := id hZ
  have hx := B.exec
  have hb := B.bytes
  have hr := B.returns
  have hts := atoms_spec (ws := vsX11_count) B.pre
  have hown : s.vm.findClass RX11 = some m.cls := findClass_of_methodNamed B.named
  have hlocks := B.notSynchronized
  subst hsz
  have hD := hD0.self (sz := s.heap.size)
  generalize hAe : va_A [(h0, .inr (11, [.ref h2, .ref h3, .int 0, .ref h4, .ref h5, .ref h6, .ref h7, .int 0, .ref h1])), (h1, .inl (cI, 7, .inl (fun _ => 0)))] s.heap.size = A at hD ⊢
  have hA : ∀ q : Nat, s.heap.size ≤ q → A q := fun q h => by rw [← hAe]; exact Or.inr h
  have hS : va_S A s.heap s.heap [] := va_S.rf
  have hP : va_P (dC, dI) vwCl [(h0, .inr (11, [.ref h2, .ref h3, .int 0, .ref h4, .ref h5, .ref h6, .ref h7, .int 0, .ref h1])), (h1, .inl (cI, 7, .inl (fun _ => 0)))] s.heap := hP
  have hl := lv_entry ([.ref h0, .int 16]) (n := 2) (Nat.le_of_ble_eq_true rfl)
  rw [lg_entry_eq]
  generalize (lg_sl ([.ref h0, .int 16]) ++ List.replicate (2 - (lg_sl ([.ref h0, .int 16])).length) Slot.unset).toArray = ls at hl ⊢
  have hl : lv_has ls 2 [(0, .ref h0), (1, .int 16)] := hl
  refine lv_iload_n hx hb dX11_count_0 rfl (lv_at hl 1 rfl) ?_
  refine lv_tableOut (tgt := 115) hx hb dX11_count_1 (by decide) (by decide) ?_
  refine lv_iload_n hx hb dX11_count_115 rfl (lv_at hl 1 rfl) ?_
  refine lv_bipush (v := 11) hx hb dX11_count_116 (by decide) ?_
  refine lv_icmp_lt (tgt := 139) hx hb dX11_count_118 (by decide) (fun hc => ?_) (fun hc => ?_)
  · exact absurd hc (by decide)
  refine lv_iload_n hx hb dX11_count_121 rfl (lv_at hl 1 rfl) ?_
  refine lv_bipush (v := 16) hx hb dX11_count_122 (by decide) ?_
  refine lv_icmp_gt (tgt := 139) hx hb dX11_count_124 (by decide) (fun hc => ?_) (fun hc => ?_)
  · exact absurd hc (by decide)
  refine lv_aload_n hx hb dX11_count_127 rfl (lv_at hl 0 rfl) ?_
  refine va_get (D := (dC, dI)) (ci := 11) (v := .ref h1) (C := RX11) (T := TX11) (N := 9) hx hb hts in_X11_count_X11 hown hK hP 0 rfl rfl 8 (by decide) (hts (.fieldLink RX11 50 "EachOnHisCue" "refusals" "[I") (by decide +kernel)) (fun _ h9 => h9) rfl dX11_count_128 ?_
  refine lv_iload_n hx hb dX11_count_131 rfl (lv_at hl 1 rfl) ?_
  refine lv_bipush (v := 10) hx hb dX11_count_132 (by decide) ?_
  refine lv_isub hx hb dX11_count_134 ?_
  refine lv_topi (fun y1 ey1 => ?_)
  obtain rfl : y1 = 6 := ey1.trans (by decide)
  refine va_iald hx hb hK hP 1 0 rfl rfl (by unfold vp_in; decide) dX11_count_135 ?_
  refine lv_topi (fun y2 ey2 => ?_)
  obtain rfl : y2 = 0 := ey2.trans (by first | rfl | decide)
  refine lv_goto (tgt := 141) hx hb dX11_count_136 (by decide) ?_
  have hP9 := hP.sub (ws' := []) [] rfl
  have hD9 := hD.sub (ws' := []) [] (by decide) rfl
  exact W.iret (v := 0) hx hb hr (fun t ht hW => ⟨⟨0, (fun k => [].getD k 0), rfl, rfl, by rw [ht]; exact hP9, hD9⟩, hS.F ht⟩) hS.2.2 dX11_count_141
set_option maxHeartbeats 4000000 in
set_option maxRecDepth 100000 in
theorem kX11_count_16 (l : Launch) (dC : Nat → ClassId) (dI : Nat → Nat → Nat) (cI cQ : ClassId) (h0 : Nat) (p0 : Int32) (hp0l : 17 ≤ p0.toInt) (hp0h : p0.toInt ≤ 2147483647) (sz : Nat) : Met l yX11_count vsX11_count ({ frames := 0, cells := 0, slots := 0, locals := 0 }) (va_Pc [.ref h0, .int p0] (zB dC dI cI cQ [] sz)) (zQi dC dI (va_A [] sz) (fun ad => []) (-9)) 0 0 (va_A [] sz) := by
  refine Met.ofW (cc := cX11_count) (maxL := 2) (ret := (some .int)) (by decide) rfl ?_
  intro p e s m args below meth c s₁ B hml hv
  obtain ⟨rfl, hsz, hP, hZ, hD0⟩ := hv
  obtain ⟨hK, hAO, hN⟩ := id hZ
  have hx := B.exec
  have hb := B.bytes
  have hr := B.returns
  have hts := atoms_spec (ws := vsX11_count) B.pre
  have hown : s.vm.findClass RX11 = some m.cls := findClass_of_methodNamed B.named
  have hlocks := B.notSynchronized
  subst hsz
  have hD := hD0.self (sz := s.heap.size)
  generalize hAe : va_A [] s.heap.size = A at hD ⊢
  have hA : ∀ q : Nat, s.heap.size ≤ q → A q := fun q h => by rw [← hAe]; exact Or.inr h
  have hS : va_S A s.heap s.heap [] := va_S.rf
  have hP : va_P (dC, dI) vwCl [] s.heap := hP
  have hl := lv_entry ([.ref h0, .int p0]) (n := 2) (Nat.le_of_ble_eq_true rfl)
  rw [lg_entry_eq]
  generalize (lg_sl ([.ref h0, .int p0]) ++ List.replicate (2 - (lg_sl ([.ref h0, .int p0])).length) Slot.unset).toArray = ls at hl ⊢
  have hl : lv_has ls 2 [(0, .ref h0), (1, .int p0)] := hl
  refine lv_iload_n hx hb dX11_count_0 rfl (lv_at hl 1 rfl) ?_
  refine lv_tableOut (tgt := 115) hx hb dX11_count_1 (by omega) (by decide) ?_
  refine lv_iload_n hx hb dX11_count_115 rfl (lv_at hl 1 rfl) ?_
  refine lv_bipush (v := 11) hx hb dX11_count_116 (by decide) ?_
  refine lv_icmp_lt (tgt := 139) hx hb dX11_count_118 (by decide) (fun hc => ?_) (fun hc => ?_)
  · exact absurd ((fa_lt _ _).mp hc) (by rw [show (11 : Int32).toInt = 11 from by decide]; omega)
  refine lv_iload_n hx hb dX11_count_121 rfl (lv_at hl 1 rfl) ?_
  refine lv_bipush (v := 16) hx hb dX11_count_122 (by decide) ?_
  refine lv_icmp_gt (tgt := 139) hx hb dX11_count_124 (by decide) (fun hc => ?_) (fun hc => ?_)
  rotate_left; exact absurd ((fa_lt _ _).mpr (by rw [show (16 : Int32).toInt = 16 from by decide]; omega)) hc
  refine lv_bipush (v := (-9)) hx hb dX11_count_139 (by decide) ?_
  have hP9 := hP.sub (ws' := []) [] rfl
  have hD9 := hD.sub (ws' := []) [] (by decide) rfl
  exact W.iret (v := (-9)) hx hb hr (fun t ht hW => ⟨⟨(-9), (fun k => [].getD k 0), rfl, rfl, by rw [ht]; exact hP9, hD9⟩, hS.F ht⟩) hS.2.2 dX11_count_141
