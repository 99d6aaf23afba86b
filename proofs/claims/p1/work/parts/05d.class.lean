set_option maxHeartbeats 4000000 in
set_option maxRecDepth 100000 in
theorem kX11_book_1 (l : Launch) (dC : Nat → ClassId) (dI : Nat → Nat → Nat) (cI cQ : ClassId) (h0 h1 h2 h3 h4 h5 h6 h7 : Nat) (p0 : Int32) (hp0l : 0 ≤ p0.toInt) (hp0h : p0.toInt ≤ 2147483647) (p1 : Int32) (hp1l : -2147483648 ≤ p1.toInt) (hp1h : p1.toInt ≤ -1) (sz : Nat) : Met l yX11_book vsX11_book ({ frames := 1, cells := 0, slots := 0, locals := 22 }) (va_Pc [.ref h0, .int p0, .int p1] (zB dC dI cI cQ [(h0, .inr (11, [.ref h2, .ref h3, .int 0, .ref h4, .ref h5, .ref h6, .ref h7, .int 0, .ref h1])), (h1, .inl (cI, 7, .inl (fun _ => 0)))] sz)) (zQi dC dI (va_A [(h0, .inr (11, [.ref h2, .ref h3, .int 0, .ref h4, .ref h5, .ref h6, .ref h7, .int 0, .ref h1])), (h1, .inl (cI, 7, .inl (fun _ => 0)))] sz) (fun ad => []) (-4)) 0 0 (va_A [(h0, .inr (11, [.ref h2, .ref h3, .int 0, .ref h4, .ref h5, .ref h6, .ref h7, .int 0, .ref h1])), (h1, .inl (cI, 7, .inl (fun _ => 0)))] sz) := by
  refine Met.ofW (cc := cX11_book) (maxL := 3) (ret := (some .int)) (by decide) rfl ?_
  intro p e s m args below meth c s₁ B hml hv
  obtain ⟨rfl, hsz, hP, hZ, hD0⟩ := hv
  obtain ⟨hK, hAO, hN⟩ := id hZ
  have hx := B.exec
  have hb := B.bytes
  have hr := B.returns
  have hts := atoms_spec (ws := vsX11_book) B.pre
  have hown : s.vm.findClass RX11 = some m.cls := findClass_of_methodNamed B.named
  have hlocks := B.notSynchronized
  subst hsz
  have hD := hD0.self (sz := s.heap.size)
  generalize hAe : va_A [(h0, .inr (11, [.ref h2, .ref h3, .int 0, .ref h4, .ref h5, .ref h6, .ref h7, .int 0, .ref h1])), (h1, .inl (cI, 7, .inl (fun _ => 0)))] s.heap.size = A at hD ⊢
  have hA : ∀ q : Nat, s.heap.size ≤ q → A q := fun q h => by rw [← hAe]; exact Or.inr h
  have hS : va_S A s.heap s.heap [] := va_S.rf
  have hP : va_P (dC, dI) vwCl [(h0, .inr (11, [.ref h2, .ref h3, .int 0, .ref h4, .ref h5, .ref h6, .ref h7, .int 0, .ref h1])), (h1, .inl (cI, 7, .inl (fun _ => 0)))] s.heap := hP
  have hl := lv_entry ([.ref h0, .int p0, .int p1]) (n := 3) (Nat.le_of_ble_eq_true rfl)
  rw [lg_entry_eq]
  generalize (lg_sl ([.ref h0, .int p0, .int p1]) ++ List.replicate (3 - (lg_sl ([.ref h0, .int p0, .int p1])).length) Slot.unset).toArray = ls at hl ⊢
  have hl : lv_has ls 3 [(0, .ref h0), (1, .int p0), (2, .int p1)] := hl
  refine lv_iload_n hx hb dX11_book_0 rfl (lv_at hl 1 rfl) ?_
  refine lv_if_lt (tgt := 8) hx hb dX11_book_1 (by decide) (fun hc => ?_) (fun hc => ?_)
  · exact absurd ((fa_lt _ _).mp hc) (by rw [show (0 : Int32).toInt = 0 from by decide]; omega)
  refine lv_iload_n hx hb dX11_book_4 rfl (lv_at hl 2 rfl) ?_
  refine lv_if_ge (tgt := 15) hx hb dX11_book_5 (by decide) (fun hc => ?_) (fun hc => ?_)
  · exact absurd ((fa_le _ _).mp hc) (by rw [show (0 : Int32).toInt = 0 from by decide]; omega)
  refine lv_aload_n hx hb dX11_book_8 rfl (lv_at hl 0 rfl) ?_
  refine lv_bipush (v := (-4)) hx hb dX11_book_9 (by decide) ?_
  refine z_calli (wc := [(h0, .inr (11, [.ref h2, .ref h3, .int 0, .ref h4, .ref h5, .ref h6, .ref h7, .int 0, .ref h1])), (h1, .inl (cI, 7, .inl (fun _ => 0)))]) (wr := []) (w1 := (fun _ => [(h0, .inr (11, [.ref h2, .ref h3, .int 0, .ref h4, .ref h5, .ref h6, .ref h7, .int 0, .ref h1])), (h1, .inl (cI, 7, .inl (upd (fun _ => 0) 4 1)))])) (va_runV (As := [.int (-4)]) (rest := []) ⟨hx, hb, hml, hown, hts⟩ (kX11_refuse l dC dI cI cQ h0 h1 h2 h3 h4 h5 h6 h7 s.heap.size) (cwV 1 hts gv_X11_book_X11_refuse_53 rfl rfl rfl (by decide +kernel) ⟨Nat.le_of_ble_eq_true rfl, Nat.le_of_ble_eq_true rfl⟩) ⟨z_blind, va_recv hK hP (ci := 11) (q0 := 0) rfl rfl, z_pre hZ hP hD [0, 1] rfl (by decide)⟩ rfl rfl hl.1 rfl (lv_room (Nat.le_of_ble_eq_true rfl)) dX11_book_11 ⟨Nat.le_of_ble_eq_true rfl, Nat.le_of_ble_eq_true rfl⟩) hP hD hS hA [0, 1] [] rfl rfl (by decide) (by decide) (fun _ H locs hP hD hS => ?_)
  have hP : va_P (dC, dI) vwCl [(h0, .inr (11, [.ref h2, .ref h3, .int 0, .ref h4, .ref h5, .ref h6, .ref h7, .int 0, .ref h1])), (h1, .inl (cI, 7, .inl (upd (fun _ => 0) 4 1)))] H := hP
  have hD : va_D A [(h0, .inr (11, [.ref h2, .ref h3, .int 0, .ref h4, .ref h5, .ref h6, .ref h7, .int 0, .ref h1])), (h1, .inl (cI, 7, .inl (upd (fun _ => 0) 4 1)))] := hD
  have hP9 := hP.sub (ws' := []) [] rfl
  have hD9 := hD.sub (ws' := []) [] (by decide) rfl
  exact W.iret (v := (-4)) hx hb hr (fun t ht hW => ⟨⟨(-4), (fun k => [].getD k 0), rfl, rfl, by rw [ht]; exact hP9, hD9⟩, hS.F ht⟩) hS.2.2 dX11_book_14
set_option maxHeartbeats 4000000 in
set_option maxRecDepth 100000 in
theorem kX11_book_2 (l : Launch) (dC : Nat → ClassId) (dI : Nat → Nat → Nat) (cI cQ : ClassId) (h0 h1 h2 h3 h4 h5 h6 h7 h8 h9 h10 h11 h12 h13 h14 h15 : Nat) (p0 : Int32) (hp0l : 0 ≤ p0.toInt) (hp0h : p0.toInt ≤ 2147483647) (p1 : Int32) (hp1l : 0 ≤ p1.toInt) (hp1h : p1.toInt ≤ 2147483647) (sz : Nat) : Met l yX11_book vsX11_book ({ frames := 1, cells := 0, slots := 0, locals := 22 }) (va_Pc [.ref h0, .int p0, .int p1] (zB dC dI cI cQ [(h0, .inr (11, [.ref h1, .ref h3, .int 0, .ref h4, .ref h5, .ref h6, .ref h7, .int 0, .ref h2])), (h1, .inr (7, [.ref h8, .ref h9, .ref h10, .int 0, .ref h11, .ref h12, .ref h13, .ref h14, .int 0, .int 0, .int 10, .ref h15])), (h2, .inl (cI, 7, .inl (fun _ => 0)))] sz)) (zQi dC dI (va_A [(h0, .inr (11, [.ref h1, .ref h3, .int 0, .ref h4, .ref h5, .ref h6, .ref h7, .int 0, .ref h2])), (h1, .inr (7, [.ref h8, .ref h9, .ref h10, .int 0, .ref h11, .ref h12, .ref h13, .ref h14, .int 0, .int 0, .int 10, .ref h15])), (h2, .inl (cI, 7, .inl (fun _ => 0)))] sz) (fun ad => []) (-3)) 0 0 (va_A [(h0, .inr (11, [.ref h1, .ref h3, .int 0, .ref h4, .ref h5, .ref h6, .ref h7, .int 0, .ref h2])), (h1, .inr (7, [.ref h8, .ref h9, .ref h10, .int 0, .ref h11, .ref h12, .ref h13, .ref h14, .int 0, .int 0, .int 10, .ref h15])), (h2, .inl (cI, 7, .inl (fun _ => 0)))] sz) := by
  refine Met.ofW (cc := cX11_book) (maxL := 3) (ret := (some .int)) (by decide) rfl ?_
  intro p e s m args below meth c s₁ B hml hv
  obtain ⟨rfl, hsz, hP, hZ, hD0⟩ := hv
  obtain ⟨hK, hAO, hN⟩ := id hZ
  have hx := B.exec
  have hb := B.bytes
  have hr := B.returns
  have hts := atoms_spec (ws := vsX11_book) B.pre
  have hown : s.vm.findClass RX11 = some m.cls := findClass_of_methodNamed B.named
  have hlocks := B.notSynchronized
  subst hsz
  have hD := hD0.self (sz := s.heap.size)
  generalize hAe : va_A [(h0, .inr (11, [.ref h1, .ref h3, .int 0, .ref h4, .ref h5, .ref h6, .ref h7, .int 0, .ref h2])), (h1, .inr (7, [.ref h8, .ref h9, .ref h10, .int 0, .ref h11, .ref h12, .ref h13, .ref h14, .int 0, .int 0, .int 10, .ref h15])), (h2, .inl (cI, 7, .inl (fun _ => 0)))] s.heap.size = A at hD ⊢
  have hA : ∀ q : Nat, s.heap.size ≤ q → A q := fun q h => by rw [← hAe]; exact Or.inr h
  have hS : va_S A s.heap s.heap [] := va_S.rf
  have hP : va_P (dC, dI) vwCl [(h0, .inr (11, [.ref h1, .ref h3, .int 0, .ref h4, .ref h5, .ref h6, .ref h7, .int 0, .ref h2])), (h1, .inr (7, [.ref h8, .ref h9, .ref h10, .int 0, .ref h11, .ref h12, .ref h13, .ref h14, .int 0, .int 0, .int 10, .ref h15])), (h2, .inl (cI, 7, .inl (fun _ => 0)))] s.heap := hP
  have hl := lv_entry ([.ref h0, .int p0, .int p1]) (n := 3) (Nat.le_of_ble_eq_true rfl)
  rw [lg_entry_eq]
  generalize (lg_sl ([.ref h0, .int p0, .int p1]) ++ List.replicate (3 - (lg_sl ([.ref h0, .int p0, .int p1])).length) Slot.unset).toArray = ls at hl ⊢
  have hl : lv_has ls 3 [(0, .ref h0), (1, .int p0), (2, .int p1)] := hl
  refine lv_iload_n hx hb dX11_book_0 rfl (lv_at hl 1 rfl) ?_
  refine lv_if_lt (tgt := 8) hx hb dX11_book_1 (by decide) (fun hc => ?_) (fun hc => ?_)
  · exact absurd ((fa_lt _ _).mp hc) (by rw [show (0 : Int32).toInt = 0 from by decide]; omega)
  refine lv_iload_n hx hb dX11_book_4 rfl (lv_at hl 2 rfl) ?_
  refine lv_if_ge (tgt := 15) hx hb dX11_book_5 (by decide) (fun hc => ?_) (fun hc => ?_)
  rotate_left; exact absurd ((fa_le _ _).mpr (by rw [show (0 : Int32).toInt = 0 from by decide]; omega)) hc
  refine lv_aload_n hx hb dX11_book_15 rfl (lv_at hl 0 rfl) ?_
  refine va_get (D := (dC, dI)) (ci := 11) (v := .ref h1) (C := RX11) (T := TX11) (N := 9) hx hb hts in_X11_book_X11 hown hK hP 0 rfl rfl 0 (by decide) (hts (.fieldLink RX11 10 "EachOnHisCue" "play" "LEachOnHisCue$Play;") (by decide +kernel)) (fun _ h9 => h9) rfl dX11_book_16 ?_
  refine va_get (D := (dC, dI)) (ci := 7) (v := .int 0) (C := RX7) (T := TX7) (N := 12) hx hb hts in_X11_book_X7 hown hK hP 1 rfl rfl 9 (by decide) (hts (.fieldLink RX11 137 "EachOnHisCue$Play" "lines" "I") (by decide +kernel)) (fun _ h9 => h9) rfl dX11_book_19 ?_
  refine lv_if_ne (tgt := 32) hx hb dX11_book_22 (by decide) (fun hc => ?_) (fun hc => ?_)
  · exact absurd hc (by decide)
  refine lv_aload_n hx hb dX11_book_25 rfl (lv_at hl 0 rfl) ?_
  refine lv_bipush (v := (-3)) hx hb dX11_book_26 (by decide) ?_
  refine z_calli (wc := [(h0, .inr (11, [.ref h1, .ref h3, .int 0, .ref h4, .ref h5, .ref h6, .ref h7, .int 0, .ref h2])), (h2, .inl (cI, 7, .inl (fun _ => 0)))]) (wr := [(h1, .inr (7, [.ref h8, .ref h9, .ref h10, .int 0, .ref h11, .ref h12, .ref h13, .ref h14, .int 0, .int 0, .int 10, .ref h15]))]) (w1 := (fun _ => [(h0, .inr (11, [.ref h1, .ref h3, .int 0, .ref h4, .ref h5, .ref h6, .ref h7, .int 0, .ref h2])), (h2, .inl (cI, 7, .inl (upd (fun _ => 0) 3 1)))])) (va_runV (As := [.int (-3)]) (rest := []) ⟨hx, hb, hml, hown, hts⟩ (kX11_refuse_3 l dC dI cI cQ h0 h2 h1 h3 h4 h5 h6 h7 s.heap.size) (cwV 1 hts gv_X11_book_X11_refuse_53 rfl rfl rfl (by decide +kernel) ⟨Nat.le_of_ble_eq_true rfl, Nat.le_of_ble_eq_true rfl⟩) ⟨z_blind, va_recv hK hP (ci := 11) (q0 := 0) rfl rfl, z_pre hZ hP hD [0, 2] rfl (by decide)⟩ rfl rfl hl.1 rfl (lv_room (Nat.le_of_ble_eq_true rfl)) dX11_book_28 ⟨Nat.le_of_ble_eq_true rfl, Nat.le_of_ble_eq_true rfl⟩) hP hD hS hA [0, 2] [1] rfl rfl (by decide) (by decide) (fun _ H locs hP hD hS => ?_)
  have hP : va_P (dC, dI) vwCl [(h1, .inr (7, [.ref h8, .ref h9, .ref h10, .int 0, .ref h11, .ref h12, .ref h13, .ref h14, .int 0, .int 0, .int 10, .ref h15])), (h0, .inr (11, [.ref h1, .ref h3, .int 0, .ref h4, .ref h5, .ref h6, .ref h7, .int 0, .ref h2])), (h2, .inl (cI, 7, .inl (upd (fun _ => 0) 3 1)))] H := hP
  have hD : va_D A [(h1, .inr (7, [.ref h8, .ref h9, .ref h10, .int 0, .ref h11, .ref h12, .ref h13, .ref h14, .int 0, .int 0, .int 10, .ref h15])), (h0, .inr (11, [.ref h1, .ref h3, .int 0, .ref h4, .ref h5, .ref h6, .ref h7, .int 0, .ref h2])), (h2, .inl (cI, 7, .inl (upd (fun _ => 0) 3 1)))] := hD
  have hP9 := hP.sub (ws' := []) [] rfl
  have hD9 := hD.sub (ws' := []) [] (by decide) rfl
  exact W.iret (v := (-3)) hx hb hr (fun t ht hW => ⟨⟨(-3), (fun k => [].getD k 0), rfl, rfl, by rw [ht]; exact hP9, hD9⟩, hS.F ht⟩) hS.2.2 dX11_book_31
set_option maxHeartbeats 4000000 in
set_option maxRecDepth 100000 in
theorem kX11_row (l : Launch) (dC : Nat → ClassId) (dI : Nat → Nat → Nat) (cI cQ : ClassId) (h0 h1 h2 h3 h4 h5 h6 h7 : Nat) (p0 : Int32) (hp0l : -2147483648 ≤ p0.toInt) (hp0h : p0.toInt ≤ -1) (sz : Nat) : Met l yX11_row vsX11_row ({ frames := 1, cells := 0, slots := 0, locals := 22 }) (va_Pc [.ref h0, .int p0] (zB dC dI cI cQ [(h0, .inr (11, [.ref h2, .ref h3, .int 0, .ref h4, .ref h5, .ref h6, .ref h7, .int 0, .ref h1])), (h1, .inl (cI, 7, .inl (fun _ => 0)))] sz)) (zQi dC dI (va_A [(h0, .inr (11, [.ref h2, .ref h3, .int 0, .ref h4, .ref h5, .ref h6, .ref h7, .int 0, .ref h1])), (h1, .inl (cI, 7, .inl (fun _ => 0)))] sz) (fun ad => []) (-4)) 0 0 (va_A [(h0, .inr (11, [.ref h2, .ref h3, .int 0, .ref h4, .ref h5, .ref h6, .ref h7, .int 0, .ref h1])), (h1, .inl (cI, 7, .inl (fun _ => 0)))] sz) := by
  refine Met.ofW (cc := cX11_row) (maxL := 2) (ret := (some .int)) (by decide) rfl ?_
  intro p e s m args below meth c s₁ B hml hv
  obtain ⟨rfl, hsz, hP, hZ, hD0⟩ := hv
  obtain ⟨hK, hAO, hN⟩ := id hZ
  have hx := B.exec
  have hb := B.bytes
  have hr := B.returns
  have hts := atoms_spec (ws := vsX11_row) B.pre
  have hown : s.vm.findClass RX11 = some m.cls := findClass_of_methodNamed B.named
  have hlocks := B.notSynchronized
  subst hsz
  have hD := hD0.self (sz := s.heap.size)
  generalize hAe : va_A [(h0, .inr (11, [.ref h2, .ref h3, .int 0, .ref h4, .ref h5, .ref h6, .ref h7, .int 0, .ref h1])), (h1, .inl (cI, 7, .inl (fun _ => 0)))] s.heap.size = A at hD ⊢
  have hA : ∀ q : Nat, s.heap.size ≤ q → A q := fun q h => by rw [← hAe]; exact Or.inr h
  have hS : va_S A s.heap s.heap [] := va_S.rf
  have hP : va_P (dC, dI) vwCl [(h0, .inr (11, [.ref h2, .ref h3, .int 0, .ref h4, .ref h5, .ref h6, .ref h7, .int 0, .ref h1])), (h1, .inl (cI, 7, .inl (fun _ => 0)))] s.heap := hP
  have hl := lv_entry ([.ref h0, .int p0]) (n := 2) (Nat.le_of_ble_eq_true rfl)
  rw [lg_entry_eq]
  generalize (lg_sl ([.ref h0, .int p0]) ++ List.replicate (2 - (lg_sl ([.ref h0, .int p0])).length) Slot.unset).toArray = ls at hl ⊢
  have hl : lv_has ls 2 [(0, .ref h0), (1, .int p0)] := hl
  refine lv_iload_n hx hb dX11_row_0 rfl (lv_at hl 1 rfl) ?_
  refine lv_if_ge (tgt := 11) hx hb dX11_row_1 (by decide) (fun hc => ?_) (fun hc => ?_)
  · exact absurd ((fa_le _ _).mp hc) (by rw [show (0 : Int32).toInt = 0 from by decide]; omega)
  refine lv_aload_n hx hb dX11_row_4 rfl (lv_at hl 0 rfl) ?_
  refine lv_bipush (v := (-4)) hx hb dX11_row_5 (by decide) ?_
  refine z_calli (wc := [(h0, .inr (11, [.ref h2, .ref h3, .int 0, .ref h4, .ref h5, .ref h6, .ref h7, .int 0, .ref h1])), (h1, .inl (cI, 7, .inl (fun _ => 0)))]) (wr := []) (w1 := (fun _ => [(h0, .inr (11, [.ref h2, .ref h3, .int 0, .ref h4, .ref h5, .ref h6, .ref h7, .int 0, .ref h1])), (h1, .inl (cI, 7, .inl (upd (fun _ => 0) 4 1)))])) (va_runV (As := [.int (-4)]) (rest := []) ⟨hx, hb, hml, hown, hts⟩ (kX11_refuse l dC dI cI cQ h0 h1 h2 h3 h4 h5 h6 h7 s.heap.size) (cwV 1 hts gv_X11_row_X11_refuse_53 rfl rfl rfl (by decide +kernel) ⟨Nat.le_of_ble_eq_true rfl, Nat.le_of_ble_eq_true rfl⟩) ⟨z_blind, va_recv hK hP (ci := 11) (q0 := 0) rfl rfl, z_pre hZ hP hD [0, 1] rfl (by decide)⟩ rfl rfl hl.1 rfl (lv_room (Nat.le_of_ble_eq_true rfl)) dX11_row_7 ⟨Nat.le_of_ble_eq_true rfl, Nat.le_of_ble_eq_true rfl⟩) hP hD hS hA [0, 1] [] rfl rfl (by decide) (by decide) (fun _ H locs hP hD hS => ?_)
  have hP : va_P (dC, dI) vwCl [(h0, .inr (11, [.ref h2, .ref h3, .int 0, .ref h4, .ref h5, .ref h6, .ref h7, .int 0, .ref h1])), (h1, .inl (cI, 7, .inl (upd (fun _ => 0) 4 1)))] H := hP
  have hD : va_D A [(h0, .inr (11, [.ref h2, .ref h3, .int 0, .ref h4, .ref h5, .ref h6, .ref h7, .int 0, .ref h1])), (h1, .inl (cI, 7, .inl (upd (fun _ => 0) 4 1)))] := hD
  have hP9 := hP.sub (ws' := []) [] rfl
  have hD9 := hD.sub (ws' := []) [] (by decide) rfl
  exact W.iret (v := (-4)) hx hb hr (fun t ht hW => ⟨⟨(-4), (fun k => [].getD k 0), rfl, rfl, by rw [ht]; exact hP9, hD9⟩, hS.F ht⟩) hS.2.2 dX11_row_10
set_option maxHeartbeats 4000000 in
set_option maxRecDepth 100000 in
theorem kX11_row_1 (l : Launch) (dC : Nat → ClassId) (dI : Nat → Nat → Nat) (cI cQ : ClassId) (h0 h1 h2 h3 h4 h5 h6 h7 : Nat) (p0 : Int32) (hp0l : 0 ≤ p0.toInt) (hp0h : p0.toInt ≤ 11) (sz : Nat) : Met l yX11_row vsX11_row ({ frames := 0, cells := 0, slots := 0, locals := 0 }) (va_Pc [.ref h0, .int p0] (zB dC dI cI cQ [(h0, .inr (11, [.ref h2, .ref h3, .int 0, .ref h4, .ref h5, .ref h6, .ref h1, .int 0, .ref h7])), (h1, .inl (cI, 12, .inl (fun _ => 0)))] sz)) (zQi dC dI (va_A [(h0, .inr (11, [.ref h2, .ref h3, .int 0, .ref h4, .ref h5, .ref h6, .ref h1, .int 0, .ref h7])), (h1, .inl (cI, 12, .inl (fun _ => 0)))] sz) (fun ad => []) 1) 0 0 (va_A [(h0, .inr (11, [.ref h2, .ref h3, .int 0, .ref h4, .ref h5, .ref h6, .ref h1, .int 0, .ref h7])), (h1, .inl (cI, 12, .inl (fun _ => 0)))] sz) := by
  refine Met.ofW (cc := cX11_row) (maxL := 2) (ret := (some .int)) (by decide) rfl ?_
  intro p e s m args below meth c s₁ B hml hv
  obtain ⟨rfl, hsz, hP, hZ, hD0⟩ := hv
  obtain ⟨hK, hAO, hN⟩ := id hZ
  have hx := B.exec
  have hb := B.bytes
  have hr := B.returns
  have hts := atoms_spec (ws := vsX11_row) B.pre
  have hown : s.vm.findClass RX11 = some m.cls := findClass_of_methodNamed B.named
  have hlocks := B.notSynchronized
  subst hsz
  have hD := hD0.self (sz := s.heap.size)
  generalize hAe : va_A [(h0, .inr (11, [.ref h2, .ref h3, .int 0, .ref h4, .ref h5, .ref h6, .ref h1, .int 0, .ref h7])), (h1, .inl (cI, 12, .inl (fun _ => 0)))] s.heap.size = A at hD ⊢
  have hA : ∀ q : Nat, s.heap.size ≤ q → A q := fun q h => by rw [← hAe]; exact Or.inr h
  have hS : va_S A s.heap s.heap [] := va_S.rf
  have hP : va_P (dC, dI) vwCl [(h0, .inr (11, [.ref h2, .ref h3, .int 0, .ref h4, .ref h5, .ref h6, .ref h1, .int 0, .ref h7])), (h1, .inl (cI, 12, .inl (fun _ => 0)))] s.heap := hP
  have hl := lv_entry ([.ref h0, .int p0]) (n := 2) (Nat.le_of_ble_eq_true rfl)
  rw [lg_entry_eq]
  generalize (lg_sl ([.ref h0, .int p0]) ++ List.replicate (2 - (lg_sl ([.ref h0, .int p0])).length) Slot.unset).toArray = ls at hl ⊢
  have hl : lv_has ls 2 [(0, .ref h0), (1, .int p0)] := hl
  refine lv_iload_n hx hb dX11_row_0 rfl (lv_at hl 1 rfl) ?_
  refine lv_if_ge (tgt := 11) hx hb dX11_row_1 (by decide) (fun hc => ?_) (fun hc => ?_)
  rotate_left; exact absurd ((fa_le _ _).mpr (by rw [show (0 : Int32).toInt = 0 from by decide]; omega)) hc
  refine lv_iload_n hx hb dX11_row_11 rfl (lv_at hl 1 rfl) ?_
  refine lv_bipush (v := 12) hx hb dX11_row_12 (by decide) ?_
  refine lv_icmp_ge (tgt := 26) hx hb dX11_row_14 (by decide) (fun hc => ?_) (fun hc => ?_)
  · exact absurd ((fa_le _ _).mp hc) (by rw [show (12 : Int32).toInt = 12 from by decide]; omega)
  refine lv_aload_n hx hb dX11_row_17 rfl (lv_at hl 0 rfl) ?_
  refine va_get (D := (dC, dI)) (ci := 11) (v := .int 0) (C := RX11) (T := TX11) (N := 9) hx hb hts in_X11_row_X11 hown hK hP 0 rfl rfl 7 (by decide) (hts (.fieldLink RX11 46 "EachOnHisCue" "toldSize" "I") (by decide +kernel)) (fun _ h9 => h9) rfl dX11_row_18 ?_
  refine lv_bipush (v := 12) hx hb dX11_row_21 (by decide) ?_
  refine lv_icmp_lt (tgt := 33) hx hb dX11_row_23 (by decide) (fun hc => ?_) (fun hc => ?_)
  rotate_left; exact absurd hc (by decide)
  refine lv_aload_n hx hb dX11_row_33 rfl (lv_at hl 0 rfl) ?_
  refine va_get (D := (dC, dI)) (ci := 11) (v := .ref h1) (C := RX11) (T := TX11) (N := 9) hx hb hts in_X11_row_X11 hown hK hP 0 rfl rfl 6 (by decide) (hts (.fieldLink RX11 42 "EachOnHisCue" "told" "[I") (by decide +kernel)) (fun _ h9 => h9) rfl dX11_row_34 ?_
  refine lv_aload_n hx hb dX11_row_37 rfl (lv_at hl 0 rfl) ?_
  refine va_get (D := (dC, dI)) (ci := 11) (v := .int 0) (C := RX11) (T := TX11) (N := 9) hx hb hts in_X11_row_X11 hown hK hP 0 rfl rfl 7 (by decide) (hts (.fieldLink RX11 46 "EachOnHisCue" "toldSize" "I") (by decide +kernel)) (fun _ h9 => h9) rfl dX11_row_38 ?_
  refine lv_iload_n hx hb dX11_row_41 rfl (lv_at hl 1 rfl) ?_
  refine va_iast hx hb hK hP hD hS 1 0 rfl rfl (by unfold vp_in; decide) dX11_row_42 (fun H locs hP hD hS => ?_)
  have hP : va_P (dC, dI) vwCl [(h0, .inr (11, [.ref h2, .ref h3, .int 0, .ref h4, .ref h5, .ref h6, .ref h1, .int 0, .ref h7])), (h1, .inl (cI, 12, .inl (upd (fun _ => 0) 0 p0)))] H := hP
  have hD : va_D A [(h0, .inr (11, [.ref h2, .ref h3, .int 0, .ref h4, .ref h5, .ref h6, .ref h1, .int 0, .ref h7])), (h1, .inl (cI, 12, .inl (upd (fun _ => 0) 0 p0)))] := hD
  refine lv_aload_n hx hb dX11_row_43 rfl (lv_at hl 0 rfl) ?_
  refine lv_dup hx hb dX11_row_44 rfl ?_
  refine va_get (D := (dC, dI)) (ci := 11) (v := .int 0) (C := RX11) (T := TX11) (N := 9) hx hb hts in_X11_row_X11 hown hK hP 0 rfl rfl 7 (by decide) (hts (.fieldLink RX11 46 "EachOnHisCue" "toldSize" "I") (by decide +kernel)) (fun _ h9 => h9) rfl dX11_row_45 ?_
  refine lv_iconst (v := 1) hx hb dX11_row_48 (by decide) ?_
  refine lv_iadd hx hb dX11_row_49 ?_
  refine lv_topi (fun y1 ey1 => ?_)
  obtain rfl : y1 = 1 := ey1.trans (by decide)
  refine va_put (D := (dC, dI)) (ci := 11) (v := .int 1) (ty := .int) (C := RX11) (T := TX11) (N := 9) hx hb hts in_X11_row_X11 tyX11 tyX11_ok nmX11 hown hK hP hD hS 0 rfl rfl 7 (by decide) (hts (.fieldLink RX11 46 "EachOnHisCue" "toldSize" "I") (by decide +kernel)) (fun _ h9 => h9) rfl (by decide +kernel) rfl rfl (Nat.le_of_ble_eq_true rfl) dX11_row_50 (fun H locs hP hD hS => ?_)
  have hP : va_P (dC, dI) vwCl [(h0, .inr (11, [.ref h2, .ref h3, .int 0, .ref h4, .ref h5, .ref h6, .ref h1, .int 1, .ref h7])), (h1, .inl (cI, 12, .inl (upd (fun _ => 0) 0 p0)))] H := hP
  have hD : va_D A [(h0, .inr (11, [.ref h2, .ref h3, .int 0, .ref h4, .ref h5, .ref h6, .ref h1, .int 1, .ref h7])), (h1, .inl (cI, 12, .inl (upd (fun _ => 0) 0 p0)))] := hD
  refine lv_aload_n hx hb dX11_row_53 rfl (lv_at hl 0 rfl) ?_
  refine va_get (D := (dC, dI)) (ci := 11) (v := .int 1) (C := RX11) (T := TX11) (N := 9) hx hb hts in_X11_row_X11 hown hK hP 0 rfl rfl 7 (by decide) (hts (.fieldLink RX11 46 "EachOnHisCue" "toldSize" "I") (by decide +kernel)) (fun _ h9 => h9) rfl dX11_row_54 ?_
  have hP9 := hP.sub (ws' := []) [] rfl
  have hD9 := hD.sub (ws' := []) [] (by decide) rfl
  exact W.iret (v := 1) hx hb hr (fun t ht hW => ⟨⟨1, (fun k => [].getD k 0), rfl, rfl, by rw [ht]; exact hP9, hD9⟩, hS.F ht⟩) hS.2.2 dX11_row_57
set_option maxHeartbeats 4000000 in
set_option maxRecDepth 100000 in
theorem kX11_row_2 (l : Launch) (dC : Nat → ClassId) (dI : Nat → Nat → Nat) (cI cQ : ClassId) (h0 h1 h2 h3 h4 h5 h6 h7 : Nat) (p0 : Int32) (hp0l : 12 ≤ p0.toInt) (hp0h : p0.toInt ≤ 2147483647) (sz : Nat) : Met l yX11_row vsX11_row ({ frames := 1, cells := 0, slots := 0, locals := 22 }) (va_Pc [.ref h0, .int p0] (zB dC dI cI cQ [(h0, .inr (11, [.ref h2, .ref h3, .int 0, .ref h4, .ref h5, .ref h6, .ref h7, .int 0, .ref h1])), (h1, .inl (cI, 7, .inl (fun _ => 0)))] sz)) (zQi dC dI (va_A [(h0, .inr (11, [.ref h2, .ref h3, .int 0, .ref h4, .ref h5, .ref h6, .ref h7, .int 0, .ref h1])), (h1, .inl (cI, 7, .inl (fun _ => 0)))] sz) (fun ad => []) (-6)) 0 0 (va_A [(h0, .inr (11, [.ref h2, .ref h3, .int 0, .ref h4, .ref h5, .ref h6, .ref h7, .int 0, .ref h1])), (h1, .inl (cI, 7, .inl (fun _ => 0)))] sz) := by
  refine Met.ofW (cc := cX11_row) (maxL := 2) (ret := (some .int)) (by decide) rfl ?_
  intro p e s m args below meth c s₁ B hml hv
  obtain ⟨rfl, hsz, hP, hZ, hD0⟩ := hv
  obtain ⟨hK, hAO, hN⟩ := id hZ
  have hx := B.exec
  have hb := B.bytes
  have hr := B.returns
  have hts := atoms_spec (ws := vsX11_row) B.pre
  have hown : s.vm.findClass RX11 = some m.cls := findClass_of_methodNamed B.named
  have hlocks := B.notSynchronized
  subst hsz
  have hD := hD0.self (sz := s.heap.size)
  generalize hAe : va_A [(h0, .inr (11, [.ref h2, .ref h3, .int 0, .ref h4, .ref h5, .ref h6, .ref h7, .int 0, .ref h1])), (h1, .inl (cI, 7, .inl (fun _ => 0)))] s.heap.size = A at hD ⊢
  have hA : ∀ q : Nat, s.heap.size ≤ q → A q := fun q h => by rw [← hAe]; exact Or.inr h
  have hS : va_S A s.heap s.heap [] := va_S.rf
  have hP : va_P (dC, dI) vwCl [(h0, .inr (11, [.ref h2, .ref h3, .int 0, .ref h4, .ref h5, .ref h6, .ref h7, .int 0, .ref h1])), (h1, .inl (cI, 7, .inl (fun _ => 0)))] s.heap := hP
  have hl := lv_entry ([.ref h0, .int p0]) (n := 2) (Nat.le_of_ble_eq_true rfl)
  rw [lg_entry_eq]
  generalize (lg_sl ([.ref h0, .int p0]) ++ List.replicate (2 - (lg_sl ([.ref h0, .int p0])).length) Slot.unset).toArray = ls at hl ⊢
  have hl : lv_has ls 2 [(0, .ref h0), (1, .int p0)] := hl
  refine lv_iload_n hx hb dX11_row_0 rfl (lv_at hl 1 rfl) ?_
  refine lv_if_ge (tgt := 11) hx hb dX11_row_1 (by decide) (fun hc => ?_) (fun hc => ?_)
  rotate_left; exact absurd ((fa_le _ _).mpr (by rw [show (0 : Int32).toInt = 0 from by decide]; omega)) hc
  refine lv_iload_n hx hb dX11_row_11 rfl (lv_at hl 1 rfl) ?_
  refine lv_bipush (v := 12) hx hb dX11_row_12 (by decide) ?_
  refine lv_icmp_ge (tgt := 26) hx hb dX11_row_14 (by decide) (fun hc => ?_) (fun hc => ?_)
  rotate_left; exact absurd ((fa_le _ _).mpr (by rw [show (12 : Int32).toInt = 12 from by decide]; omega)) hc
  refine lv_aload_n hx hb dX11_row_26 rfl (lv_at hl 0 rfl) ?_
  refine lv_bipush (v := (-6)) hx hb dX11_row_27 (by decide) ?_
  refine z_calli (wc := [(h0, .inr (11, [.ref h2, .ref h3, .int 0, .ref h4, .ref h5, .ref h6, .ref h7, .int 0, .ref h1])), (h1, .inl (cI, 7, .inl (fun _ => 0)))]) (wr := []) (w1 := (fun _ => [(h0, .inr (11, [.ref h2, .ref h3, .int 0, .ref h4, .ref h5, .ref h6, .ref h7, .int 0, .ref h1])), (h1, .inl (cI, 7, .inl (upd (fun _ => 0) 6 1)))])) (va_runV (As := [.int (-6)]) (rest := []) ⟨hx, hb, hml, hown, hts⟩ (kX11_refuse_1 l dC dI cI cQ h0 h1 h2 h3 h4 h5 h6 h7 s.heap.size) (cwV 1 hts gv_X11_row_X11_refuse_53 rfl rfl rfl (by decide +kernel) ⟨Nat.le_of_ble_eq_true rfl, Nat.le_of_ble_eq_true rfl⟩) ⟨z_blind, va_recv hK hP (ci := 11) (q0 := 0) rfl rfl, z_pre hZ hP hD [0, 1] rfl (by decide)⟩ rfl rfl hl.1 rfl (lv_room (Nat.le_of_ble_eq_true rfl)) dX11_row_29 ⟨Nat.le_of_ble_eq_true rfl, Nat.le_of_ble_eq_true rfl⟩) hP hD hS hA [0, 1] [] rfl rfl (by decide) (by decide) (fun _ H locs hP hD hS => ?_)
  have hP : va_P (dC, dI) vwCl [(h0, .inr (11, [.ref h2, .ref h3, .int 0, .ref h4, .ref h5, .ref h6, .ref h7, .int 0, .ref h1])), (h1, .inl (cI, 7, .inl (upd (fun _ => 0) 6 1)))] H := hP
  have hD : va_D A [(h0, .inr (11, [.ref h2, .ref h3, .int 0, .ref h4, .ref h5, .ref h6, .ref h7, .int 0, .ref h1])), (h1, .inl (cI, 7, .inl (upd (fun _ => 0) 6 1)))] := hD
  have hP9 := hP.sub (ws' := []) [] rfl
  have hD9 := hD.sub (ws' := []) [] (by decide) rfl
  exact W.iret (v := (-6)) hx hb hr (fun t ht hW => ⟨⟨(-6), (fun k => [].getD k 0), rfl, rfl, by rw [ht]; exact hP9, hD9⟩, hS.F ht⟩) hS.2.2 dX11_row_32
set_option maxHeartbeats 4000000 in
set_option maxRecDepth 100000 in
theorem kX11_judge (l : Launch) (dC : Nat → ClassId) (dI : Nat → Nat → Nat) (cI cQ : ClassId) (h0 h1 h2 h3 h4 h5 h6 h7 h8 h9 h10 h11 h12 h13 h14 h15 : Nat) (sz : Nat) : Met l yX11_judge vsX11_judge ({ frames := 1, cells := 0, slots := 0, locals := 22 }) (va_Pc [.ref h0] (zB dC dI cI cQ [(h0, .inr (11, [.ref h1, .ref h3, .int 0, .ref h4, .ref h5, .ref h6, .ref h7, .int 0, .ref h2])), (h1, .inr (7, [.ref h8, .ref h9, .ref h10, .int 0, .ref h11, .ref h12, .ref h13, .ref h14, .int 0, .int 0, .int 10, .ref h15])), (h2, .inl (cI, 7, .inl (fun _ => 0)))] sz)) (zQi dC dI (va_A [(h0, .inr (11, [.ref h1, .ref h3, .int 0, .ref h4, .ref h5, .ref h6, .ref h7, .int 0, .ref h2])), (h1, .inr (7, [.ref h8, .ref h9, .ref h10, .int 0, .ref h11, .ref h12, .ref h13, .ref h14, .int 0, .int 0, .int 10, .ref h15])), (h2, .inl (cI, 7, .inl (fun _ => 0)))] sz) (fun ad => []) (-3)) 0 0 (va_A [(h0, .inr (11, [.ref h1, .ref h3, .int 0, .ref h4, .ref h5, .ref h6, .ref h7, .int 0, .ref h2])), (h1, .inr (7, [.ref h8, .ref h9, .ref h10, .int 0, .ref h11, .ref h12, .ref h13, .ref h14, .int 0, .int 0, .int 10, .ref h15])), (h2, .inl (cI, 7, .inl (fun _ => 0)))] sz) := by
  refine Met.ofW (cc := cX11_judge) (maxL := 1) (ret := (some .int)) (by decide) rfl ?_
  intro p e s m args below meth c s₁ B hml hv
  obtain ⟨rfl, hsz, hP, hZ, hD0⟩ := hv
  obtain ⟨hK, hAO, hN⟩ := id hZ
  have hx := B.exec
  have hb := B.bytes
  have hr := B.returns
  have hts := atoms_spec (ws := vsX11_judge) B.pre
  have hown : s.vm.findClass RX11 = some m.cls := findClass_of_methodNamed B.named
  have hlocks := B.notSynchronized
  subst hsz
  have hD := hD0.self (sz := s.heap.size)
  generalize hAe : va_A [(h0, .inr (11, [.ref h1, .ref h3, .int 0, .ref h4, .ref h5, .ref h6, .ref h7, .int 0, .ref h2])), (h1, .inr (7, [.ref h8, .ref h9, .ref h10, .int 0, .ref h11, .ref h12, .ref h13, .ref h14, .int 0, .int 0, .int 10, .ref h15])), (h2, .inl (cI, 7, .inl (fun _ => 0)))] s.heap.size = A at hD ⊢
  have hA : ∀ q : Nat, s.heap.size ≤ q → A q := fun q h => by rw [← hAe]; exact Or.inr h
  have hS : va_S A s.heap s.heap [] := va_S.rf
  have hP : va_P (dC, dI) vwCl [(h0, .inr (11, [.ref h1, .ref h3, .int 0, .ref h4, .ref h5, .ref h6, .ref h7, .int 0, .ref h2])), (h1, .inr (7, [.ref h8, .ref h9, .ref h10, .int 0, .ref h11, .ref h12, .ref h13, .ref h14, .int 0, .int 0, .int 10, .ref h15])), (h2, .inl (cI, 7, .inl (fun _ => 0)))] s.heap := hP
  have hl := lv_entry ([.ref h0]) (n := 1) (Nat.le_of_ble_eq_true rfl)
  rw [lg_entry_eq]
  generalize (lg_sl ([.ref h0]) ++ List.replicate (1 - (lg_sl ([.ref h0])).length) Slot.unset).toArray = ls at hl ⊢
  have hl : lv_has ls 1 [(0, .ref h0)] := hl
  refine lv_aload_n hx hb dX11_judge_0 rfl (lv_at hl 0 rfl) ?_
  refine va_get (D := (dC, dI)) (ci := 11) (v := .ref h1) (C := RX11) (T := TX11) (N := 9) hx hb hts in_X11_judge_X11 hown hK hP 0 rfl rfl 0 (by decide) (hts (.fieldLink RX11 10 "EachOnHisCue" "play" "LEachOnHisCue$Play;") (by decide +kernel)) (fun _ h9 => h9) rfl dX11_judge_1 ?_
  refine va_get (D := (dC, dI)) (ci := 7) (v := .int 0) (C := RX7) (T := TX7) (N := 12) hx hb hts in_X11_judge_X7 hown hK hP 1 rfl rfl 9 (by decide) (hts (.fieldLink RX11 137 "EachOnHisCue$Play" "lines" "I") (by decide +kernel)) (fun _ h9 => h9) rfl dX11_judge_4 ?_
  refine lv_if_ne (tgt := 17) hx hb dX11_judge_7 (by decide) (fun hc => ?_) (fun hc => ?_)
  · exact absurd hc (by decide)
  refine lv_aload_n hx hb dX11_judge_10 rfl (lv_at hl 0 rfl) ?_
  refine lv_bipush (v := (-3)) hx hb dX11_judge_11 (by decide) ?_
  refine z_calli (wc := [(h0, .inr (11, [.ref h1, .ref h3, .int 0, .ref h4, .ref h5, .ref h6, .ref h7, .int 0, .ref h2])), (h2, .inl (cI, 7, .inl (fun _ => 0)))]) (wr := [(h1, .inr (7, [.ref h8, .ref h9, .ref h10, .int 0, .ref h11, .ref h12, .ref h13, .ref h14, .int 0, .int 0, .int 10, .ref h15]))]) (w1 := (fun _ => [(h0, .inr (11, [.ref h1, .ref h3, .int 0, .ref h4, .ref h5, .ref h6, .ref h7, .int 0, .ref h2])), (h2, .inl (cI, 7, .inl (upd (fun _ => 0) 3 1)))])) (va_runV (As := [.int (-3)]) (rest := []) ⟨hx, hb, hml, hown, hts⟩ (kX11_refuse_3 l dC dI cI cQ h0 h2 h1 h3 h4 h5 h6 h7 s.heap.size) (cwV 1 hts gv_X11_judge_X11_refuse_53 rfl rfl rfl (by decide +kernel) ⟨Nat.le_of_ble_eq_true rfl, Nat.le_of_ble_eq_true rfl⟩) ⟨z_blind, va_recv hK hP (ci := 11) (q0 := 0) rfl rfl, z_pre hZ hP hD [0, 2] rfl (by decide)⟩ rfl rfl hl.1 rfl (lv_room (Nat.le_of_ble_eq_true rfl)) dX11_judge_13 ⟨Nat.le_of_ble_eq_true rfl, Nat.le_of_ble_eq_true rfl⟩) hP hD hS hA [0, 2] [1] rfl rfl (by decide) (by decide) (fun _ H locs hP hD hS => ?_)
  have hP : va_P (dC, dI) vwCl [(h1, .inr (7, [.ref h8, .ref h9, .ref h10, .int 0, .ref h11, .ref h12, .ref h13, .ref h14, .int 0, .int 0, .int 10, .ref h15])), (h0, .inr (11, [.ref h1, .ref h3, .int 0, .ref h4, .ref h5, .ref h6, .ref h7, .int 0, .ref h2])), (h2, .inl (cI, 7, .inl (upd (fun _ => 0) 3 1)))] H := hP
  have hD : va_D A [(h1, .inr (7, [.ref h8, .ref h9, .ref h10, .int 0, .ref h11, .ref h12, .ref h13, .ref h14, .int 0, .int 0, .int 10, .ref h15])), (h0, .inr (11, [.ref h1, .ref h3, .int 0, .ref h4, .ref h5, .ref h6, .ref h7, .int 0, .ref h2])), (h2, .inl (cI, 7, .inl (upd (fun _ => 0) 3 1)))] := hD
  have hP9 := hP.sub (ws' := []) [] rfl
  have hD9 := hD.sub (ws' := []) [] (by decide) rfl
  exact W.iret (v := (-3)) hx hb hr (fun t ht hW => ⟨⟨(-3), (fun k => [].getD k 0), rfl, rfl, by rw [ht]; exact hP9, hD9⟩, hS.F ht⟩) hS.2.2 dX11_judge_16
set_option maxHeartbeats 4000000 in
set_option maxRecDepth 100000 in
theorem kX5_weave (l : Launch) (dC : Nat → ClassId) (dI : Nat → Nat → Nat) (cI cQ : ClassId) (h0 h1 h2 h3 h4 h5 h6 h7 h8 h9 h10 : Nat) (sz : Nat) : Met l yX5_weave vsX5_weave ({ frames := 0, cells := 0, slots := 0, locals := 0 }) (va_Pc [.ref h0, .ref h1, .int 0] (zB dC dI cI cQ [(h1, .inr (7, [.ref h2, .ref h3, .ref h4, .int 0, .ref h5, .ref h6, .ref h7, .ref h8, .int 0, .int 0, .int 10, .ref h9])), (h0, .inr (5, [.ref h10, .int 0]))] sz)) (zQv dC dI (va_A [(h1, .inr (7, [.ref h2, .ref h3, .ref h4, .int 0, .ref h5, .ref h6, .ref h7, .ref h8, .int 0, .int 0, .int 10, .ref h9])), (h0, .inr (5, [.ref h10, .int 0]))] sz) (fun ad => [(h1, .inr (7, [.ref h2, .ref h3, .ref h4, .int 0, .ref h5, .ref h6, .ref h7, .ref h8, .int 0, .int 0, .int 10, .ref h9])), (h0, .inr (5, [.ref h10, .int 0]))])) 0 0 (va_A [(h1, .inr (7, [.ref h2, .ref h3, .ref h4, .int 0, .ref h5, .ref h6, .ref h7, .ref h8, .int 0, .int 0, .int 10, .ref h9])), (h0, .inr (5, [.ref h10, .int 0]))] sz) := by
  refine Met.ofW (cc := cX5_weave) (maxL := 4) (ret := none) (by decide) rfl ?_
  intro p e s m args below meth c s₁ B hml hv
  obtain ⟨rfl, hsz, hP, hZ, hD0⟩ := hv
  obtain ⟨hK, hAO, hN⟩ := id hZ
  have hx := B.exec
  have hb := B.bytes
  have hr := B.returns
  have hts := atoms_spec (ws := vsX5_weave) B.pre
  have hown : s.vm.findClass RX5 = some m.cls := findClass_of_methodNamed B.named
  have hlocks := B.notSynchronized
  subst hsz
  have hD := hD0.self (sz := s.heap.size)
  generalize hAe : va_A [(h1, .inr (7, [.ref h2, .ref h3, .ref h4, .int 0, .ref h5, .ref h6, .ref h7, .ref h8, .int 0, .int 0, .int 10, .ref h9])), (h0, .inr (5, [.ref h10, .int 0]))] s.heap.size = A at hD ⊢
  have hA : ∀ q : Nat, s.heap.size ≤ q → A q := fun q h => by rw [← hAe]; exact Or.inr h
  have hS : va_S A s.heap s.heap [] := va_S.rf
  have hP : va_P (dC, dI) vwCl [(h1, .inr (7, [.ref h2, .ref h3, .ref h4, .int 0, .ref h5, .ref h6, .ref h7, .ref h8, .int 0, .int 0, .int 10, .ref h9])), (h0, .inr (5, [.ref h10, .int 0]))] s.heap := hP
  have hl := lv_entry ([.ref h0, .ref h1, .int 0]) (n := 4) (Nat.le_of_ble_eq_true rfl)
  rw [lg_entry_eq]
  generalize (lg_sl ([.ref h0, .ref h1, .int 0]) ++ List.replicate (4 - (lg_sl ([.ref h0, .ref h1, .int 0])).length) Slot.unset).toArray = ls at hl ⊢
  have hl : lv_has ls 4 [(0, .ref h0), (1, .ref h1), (2, .int 0)] := hl
  refine lv_aload_n hx hb dX5_weave_0 rfl (lv_at hl 0 rfl) ?_
  refine lv_aload_n hx hb dX5_weave_1 rfl (lv_at hl 1 rfl) ?_
  refine va_get (D := (dC, dI)) (ci := 7) (v := .int 0) (C := RX7) (T := TX7) (N := 12) hx hb hts in_X5_weave_X7 hown hK hP 0 rfl rfl 9 (by decide) (hts (.fieldLink RX5 19 "EachOnHisCue$Play" "lines" "I") (by decide +kernel)) (fun _ h9 => h9) rfl dX5_weave_2 ?_
  refine va_put (D := (dC, dI)) (ci := 5) (v := .int 0) (ty := .int) (C := RX5) (T := TX5) (N := 2) hx hb hts in_X5_weave_X5 tyX5 tyX5_ok nmX5 hown hK hP hD hS 1 rfl rfl 1 (by decide) (hts (.fieldLink RX5 15 "EachOnHisCue$Net" "lines" "I") (by decide +kernel)) (fun _ h9 => h9) rfl (by decide +kernel) rfl rfl (Nat.le_of_ble_eq_true rfl) dX5_weave_5 (fun H locs hP hD hS => ?_)
  have hP : va_P (dC, dI) vwCl [(h1, .inr (7, [.ref h2, .ref h3, .ref h4, .int 0, .ref h5, .ref h6, .ref h7, .ref h8, .int 0, .int 0, .int 10, .ref h9])), (h0, .inr (5, [.ref h10, .int 0]))] H := hP
  have hD : va_D A [(h1, .inr (7, [.ref h2, .ref h3, .ref h4, .int 0, .ref h5, .ref h6, .ref h7, .ref h8, .int 0, .int 0, .int 10, .ref h9])), (h0, .inr (5, [.ref h10, .int 0]))] := hD
  refine lv_iconst (v := 0) hx hb dX5_weave_8 (by decide) ?_
  refine lv_istore_n (lv' := [(3, .int 0), (0, .ref h0), (1, .ref h1), (2, .int 0)]) hx hb dX5_weave_9 rfl hl (by decide) rfl (fun ls hl => ?_)
  refine lv_iload_n hx hb dX5_weave_10 rfl (lv_at hl 0 rfl) ?_
  refine lv_aload_n hx hb dX5_weave_11 rfl (lv_at hl 1 rfl) ?_
  refine va_get (D := (dC, dI)) (ci := 5) (v := .int 0) (C := RX5) (T := TX5) (N := 2) hx hb hts in_X5_weave_X5 hown hK hP 1 rfl rfl 1 (by decide) (hts (.fieldLink RX5 15 "EachOnHisCue$Net" "lines" "I") (by decide +kernel)) (fun _ h9 => h9) rfl dX5_weave_12 ?_
  refine lv_icmp_ge (tgt := 47) hx hb dX5_weave_15 (by decide) (fun hc => ?_) (fun hc => ?_)
  rotate_left; exact absurd hc (by decide)
  have hP9 := hP.sub (ws' := [(h1, .inr (7, [.ref h2, .ref h3, .ref h4, .int 0, .ref h5, .ref h6, .ref h7, .ref h8, .int 0, .int 0, .int 10, .ref h9])), (h0, .inr (5, [.ref h10, .int 0]))]) [0, 1] rfl
  have hD9 := hD.sub (ws' := [(h1, .inr (7, [.ref h2, .ref h3, .ref h4, .int 0, .ref h5, .ref h6, .ref h7, .ref h8, .int 0, .int 0, .int 10, .ref h9])), (h0, .inr (5, [.ref h10, .int 0]))]) [0, 1] (by decide) rfl
  exact W.vret hx hb hr (fun t ht hW => ⟨⟨(fun k => [].getD k 0), rfl, trivial, by rw [ht]; exact hP9, hD9⟩, hS.F ht⟩) hS.2.2 dX5_weave_47
set_option maxHeartbeats 4000000 in
set_option maxRecDepth 100000 in
theorem kX7_linesOfSick (l : Launch) (dC : Nat → ClassId) (dI : Nat → Nat → Nat) (cI cQ : ClassId) (h0 h1 h2 h3 h4 h5 h6 h7 h8 : Nat) (sz : Nat) : Met l yX7_linesOfSick vsX7_linesOfSick ({ frames := 0, cells := 0, slots := 0, locals := 0 }) (va_Pc [.ref h0] (zB dC dI cI cQ [(h0, .inr (7, [.ref h1, .ref h2, .ref h3, .int 0, .ref h4, .ref h5, .ref h6, .ref h7, .int 0, .int 0, .int 10, .ref h8]))] sz)) (zQi dC dI (va_A [(h0, .inr (7, [.ref h1, .ref h2, .ref h3, .int 0, .ref h4, .ref h5, .ref h6, .ref h7, .int 0, .int 0, .int 10, .ref h8]))] sz) (fun ad => [(h0, .inr (7, [.ref h1, .ref h2, .ref h3, .int 0, .ref h4, .ref h5, .ref h6, .ref h7, .int 0, .int 0, .int 10, .ref h8]))]) 0) 0 0 (va_A [(h0, .inr (7, [.ref h1, .ref h2, .ref h3, .int 0, .ref h4, .ref h5, .ref h6, .ref h7, .int 0, .int 0, .int 10, .ref h8]))] sz) := by
  refine Met.ofW (cc := cX7_linesOfSick) (maxL := 3) (ret := (some .int)) (by decide) rfl ?_
  intro p e s m args below meth c s₁ B hml hv
  obtain ⟨rfl, hsz, hP, hZ, hD0⟩ := hv
  obtain ⟨hK, hAO, hN⟩ := id hZ
  have hx := B.exec
  have hb := B.bytes
  have hr := B.returns
  have hts := atoms_spec (ws := vsX7_linesOfSick) B.pre
  have hown : s.vm.findClass RX7 = some m.cls := findClass_of_methodNamed B.named
  have hlocks := B.notSynchronized
  subst hsz
  have hD := hD0.self (sz := s.heap.size)
  generalize hAe : va_A [(h0, .inr (7, [.ref h1, .ref h2, .ref h3, .int 0, .ref h4, .ref h5, .ref h6, .ref h7, .int 0, .int 0, .int 10, .ref h8]))] s.heap.size = A at hD ⊢
  have hA : ∀ q : Nat, s.heap.size ≤ q → A q := fun q h => by rw [← hAe]; exact Or.inr h
  have hS : va_S A s.heap s.heap [] := va_S.rf
  have hP : va_P (dC, dI) vwCl [(h0, .inr (7, [.ref h1, .ref h2, .ref h3, .int 0, .ref h4, .ref h5, .ref h6, .ref h7, .int 0, .int 0, .int 10, .ref h8]))] s.heap := hP
  have hl := lv_entry ([.ref h0]) (n := 3) (Nat.le_of_ble_eq_true rfl)
  rw [lg_entry_eq]
  generalize (lg_sl ([.ref h0]) ++ List.replicate (3 - (lg_sl ([.ref h0])).length) Slot.unset).toArray = ls at hl ⊢
  have hl : lv_has ls 3 [(0, .ref h0)] := hl
  refine lv_iconst (v := 0) hx hb dX7_linesOfSick_0 (by decide) ?_
  refine lv_istore_n (lv' := [(1, .int 0), (0, .ref h0)]) hx hb dX7_linesOfSick_1 rfl hl (by decide) rfl (fun ls hl => ?_)
  refine lv_iconst (v := 0) hx hb dX7_linesOfSick_2 (by decide) ?_
  refine lv_istore_n (lv' := [(2, .int 0), (1, .int 0), (0, .ref h0)]) hx hb dX7_linesOfSick_3 rfl hl (by decide) rfl (fun ls hl => ?_)
  refine lv_iload_n hx hb dX7_linesOfSick_4 rfl (lv_at hl 0 rfl) ?_
  refine lv_aload_n hx hb dX7_linesOfSick_5 rfl (lv_at hl 2 rfl) ?_
  refine va_get (D := (dC, dI)) (ci := 7) (v := .int 0) (C := RX7) (T := TX7) (N := 12) hx hb hts in_X7_linesOfSick_X7 hown hK hP 0 rfl rfl 3 (by decide) (hts (.fieldLink RX7 24 "EachOnHisCue$Play" "players" "I") (by decide +kernel)) (fun _ h9 => h9) rfl dX7_linesOfSick_6 ?_
  refine lv_icmp_ge (tgt := 39) hx hb dX7_linesOfSick_9 (by decide) (fun hc => ?_) (fun hc => ?_)
  rotate_left; exact absurd hc (by decide)
  refine lv_iload_n hx hb dX7_linesOfSick_39 rfl (lv_at hl 1 rfl) ?_
  have hP9 := hP.sub (ws' := [(h0, .inr (7, [.ref h1, .ref h2, .ref h3, .int 0, .ref h4, .ref h5, .ref h6, .ref h7, .int 0, .int 0, .int 10, .ref h8]))]) [0] rfl
  have hD9 := hD.sub (ws' := [(h0, .inr (7, [.ref h1, .ref h2, .ref h3, .int 0, .ref h4, .ref h5, .ref h6, .ref h7, .int 0, .int 0, .int 10, .ref h8]))]) [0] (by decide) rfl
  exact W.iret (v := 0) hx hb hr (fun t ht hW => ⟨⟨0, (fun k => [].getD k 0), rfl, rfl, by rw [ht]; exact hP9, hD9⟩, hS.F ht⟩) hS.2.2 dX7_linesOfSick_40
set_option maxHeartbeats 4000000 in
set_option maxRecDepth 100000 in
theorem kX5_weaveWithoutSick (l : Launch) (dC : Nat → ClassId) (dI : Nat → Nat → Nat) (cI cQ : ClassId) (h0 h1 h2 h3 h4 h5 h6 h7 h8 h9 h10 : Nat) (sz : Nat) : Met l yX5_weaveWithoutSick vsX5_weaveWithoutSick ({ frames := 1, cells := 0, slots := 0, locals := 23 }) (va_Pc [.ref h0, .ref h1] (zB dC dI cI cQ [(h1, .inr (7, [.ref h2, .ref h3, .ref h4, .int 0, .ref h5, .ref h6, .ref h7, .ref h8, .int 0, .int 0, .int 10, .ref h9])), (h0, .inr (5, [.ref h10, .int 0]))] sz)) (zQv dC dI (va_A [(h1, .inr (7, [.ref h2, .ref h3, .ref h4, .int 0, .ref h5, .ref h6, .ref h7, .ref h8, .int 0, .int 0, .int 10, .ref h9])), (h0, .inr (5, [.ref h10, .int 0]))] sz) (fun ad => [(h1, .inr (7, [.ref h2, .ref h3, .ref h4, .int 0, .ref h5, .ref h6, .ref h7, .ref h8, .int 0, .int 0, .int 10, .ref h9])), (h0, .inr (5, [.ref h10, .int 0]))])) 0 0 (va_A [(h1, .inr (7, [.ref h2, .ref h3, .ref h4, .int 0, .ref h5, .ref h6, .ref h7, .ref h8, .int 0, .int 0, .int 10, .ref h9])), (h0, .inr (5, [.ref h10, .int 0]))] sz) := by
  refine Met.ofW (cc := cX5_weaveWithoutSick) (maxL := 4) (ret := none) (by decide) rfl ?_
  intro p e s m args below meth c s₁ B hml hv
  obtain ⟨rfl, hsz, hP, hZ, hD0⟩ := hv
  obtain ⟨hK, hAO, hN⟩ := id hZ
  have hx := B.exec
  have hb := B.bytes
  have hr := B.returns
  have hts := atoms_spec (ws := vsX5_weaveWithoutSick) B.pre
  have hown : s.vm.findClass RX5 = some m.cls := findClass_of_methodNamed B.named
  have hlocks := B.notSynchronized
  subst hsz
  have hD := hD0.self (sz := s.heap.size)
  generalize hAe : va_A [(h1, .inr (7, [.ref h2, .ref h3, .ref h4, .int 0, .ref h5, .ref h6, .ref h7, .ref h8, .int 0, .int 0, .int 10, .ref h9])), (h0, .inr (5, [.ref h10, .int 0]))] s.heap.size = A at hD ⊢
  have hA : ∀ q : Nat, s.heap.size ≤ q → A q := fun q h => by rw [← hAe]; exact Or.inr h
  have hS : va_S A s.heap s.heap [] := va_S.rf
  have hP : va_P (dC, dI) vwCl [(h1, .inr (7, [.ref h2, .ref h3, .ref h4, .int 0, .ref h5, .ref h6, .ref h7, .ref h8, .int 0, .int 0, .int 10, .ref h9])), (h0, .inr (5, [.ref h10, .int 0]))] s.heap := hP
  have hl := lv_entry ([.ref h0, .ref h1]) (n := 4) (Nat.le_of_ble_eq_true rfl)
  rw [lg_entry_eq]
  generalize (lg_sl ([.ref h0, .ref h1]) ++ List.replicate (4 - (lg_sl ([.ref h0, .ref h1])).length) Slot.unset).toArray = ls at hl ⊢
  have hl : lv_has ls 4 [(0, .ref h0), (1, .ref h1)] := hl
  refine lv_aload_n hx hb dX5_weaveWithoutSick_0 rfl (lv_at hl 0 rfl) ?_
  refine lv_aload_n hx hb dX5_weaveWithoutSick_1 rfl (lv_at hl 1 rfl) ?_
  refine lv_iconst (v := 0) hx hb dX5_weaveWithoutSick_2 (by decide) ?_
  refine z_callv (wc := [(h1, .inr (7, [.ref h2, .ref h3, .ref h4, .int 0, .ref h5, .ref h6, .ref h7, .ref h8, .int 0, .int 0, .int 10, .ref h9])), (h0, .inr (5, [.ref h10, .int 0]))]) (wr := []) (w1 := (fun _ => [(h1, .inr (7, [.ref h2, .ref h3, .ref h4, .int 0, .ref h5, .ref h6, .ref h7, .ref h8, .int 0, .int 0, .int 10, .ref h9])), (h0, .inr (5, [.ref h10, .int 0]))])) (va_runV (As := [.ref h1, .int 0]) (rest := []) ⟨hx, hb, hml, hown, hts⟩ (kX5_weave l dC dI cI cQ h0 h1 h2 h3 h4 h5 h6 h7 h8 h9 h10 s.heap.size) (cwV 2 hts gv_X5_weaveWithoutSick_X5_weave_32 rfl rfl rfl (by decide +kernel) ⟨Nat.le_of_ble_eq_true rfl, Nat.le_of_ble_eq_true rfl⟩) ⟨z_blind, va_recv hK hP (ci := 5) (q0 := 1) rfl rfl, z_pre hZ hP hD [0, 1] rfl (by decide)⟩ rfl rfl hl.1 rfl (lv_room (Nat.le_of_ble_eq_true rfl)) dX5_weaveWithoutSick_3 ⟨Nat.le_of_ble_eq_true rfl, Nat.le_of_ble_eq_true rfl⟩) hP hD hS hA [0, 1] [] rfl rfl (by decide) (by decide) (fun _ H locs hP hD hS => ?_)
  have hP : va_P (dC, dI) vwCl [(h1, .inr (7, [.ref h2, .ref h3, .ref h4, .int 0, .ref h5, .ref h6, .ref h7, .ref h8, .int 0, .int 0, .int 10, .ref h9])), (h0, .inr (5, [.ref h10, .int 0]))] H := hP
  have hD : va_D A [(h1, .inr (7, [.ref h2, .ref h3, .ref h4, .int 0, .ref h5, .ref h6, .ref h7, .ref h8, .int 0, .int 0, .int 10, .ref h9])), (h0, .inr (5, [.ref h10, .int 0]))] := hD
  refine lv_aload_n hx hb dX5_weaveWithoutSick_6 rfl (lv_at hl 1 rfl) ?_
  refine z_calli (wc := [(h1, .inr (7, [.ref h2, .ref h3, .ref h4, .int 0, .ref h5, .ref h6, .ref h7, .ref h8, .int 0, .int 0, .int 10, .ref h9]))]) (wr := [(h0, .inr (5, [.ref h10, .int 0]))]) (w1 := (fun _ => [(h1, .inr (7, [.ref h2, .ref h3, .ref h4, .int 0, .ref h5, .ref h6, .ref h7, .ref h8, .int 0, .int 0, .int 10, .ref h9]))])) (va_runV (As := []) (rest := []) ⟨hx, hb, hml, hown, hts⟩ (kX7_linesOfSick l dC dI cI cQ h1 h2 h3 h4 h5 h6 h7 h8 h9 H.size) (cwV 0 hts gv_X5_weaveWithoutSick_X7_linesOfSick_36 rfl rfl rfl (by decide +kernel) ⟨Nat.le_of_ble_eq_true rfl, Nat.le_of_ble_eq_true rfl⟩) ⟨z_blind, va_recv hK hP (ci := 7) (q0 := 0) rfl rfl, z_pre hZ hP hD [0] rfl (by decide)⟩ rfl rfl hl.1 rfl (lv_room (Nat.le_of_ble_eq_true rfl)) dX5_weaveWithoutSick_7 ⟨Nat.le_of_ble_eq_true rfl, Nat.le_of_ble_eq_true rfl⟩) hP hD hS hA [0] [1] rfl rfl (by decide) (by decide) (fun _ H locs hP hD hS => ?_)
  have hP : va_P (dC, dI) vwCl [(h0, .inr (5, [.ref h10, .int 0])), (h1, .inr (7, [.ref h2, .ref h3, .ref h4, .int 0, .ref h5, .ref h6, .ref h7, .ref h8, .int 0, .int 0, .int 10, .ref h9]))] H := hP
  have hD : va_D A [(h0, .inr (5, [.ref h10, .int 0])), (h1, .inr (7, [.ref h2, .ref h3, .ref h4, .int 0, .ref h5, .ref h6, .ref h7, .ref h8, .int 0, .int 0, .int 10, .ref h9]))] := hD
  refine lv_iconst (v := (-1)) hx hb dX5_weaveWithoutSick_10 (by decide) ?_
  refine lv_ixor hx hb dX5_weaveWithoutSick_11 ?_
  refine lv_topi (fun y3 ey3 => ?_)
  obtain rfl : y3 = (-1) := ey3.trans (by decide)
  refine lv_istore_n (lv' := [(2, .int (-1)), (0, .ref h0), (1, .ref h1)]) hx hb dX5_weaveWithoutSick_12 rfl hl (by decide) rfl (fun ls hl => ?_)
  refine lv_iconst (v := 0) hx hb dX5_weaveWithoutSick_13 (by decide) ?_
  refine lv_istore_n (lv' := [(3, .int 0), (2, .int (-1)), (0, .ref h0), (1, .ref h1)]) hx hb dX5_weaveWithoutSick_14 rfl hl (by decide) rfl (fun ls hl => ?_)
  refine lv_iload_n hx hb dX5_weaveWithoutSick_15 rfl (lv_at hl 0 rfl) ?_
  refine lv_aload_n hx hb dX5_weaveWithoutSick_16 rfl (lv_at hl 2 rfl) ?_
  refine va_get (D := (dC, dI)) (ci := 5) (v := .int 0) (C := RX5) (T := TX5) (N := 2) hx hb hts in_X5_weaveWithoutSick_X5 hown hK hP 0 rfl rfl 1 (by decide) (hts (.fieldLink RX5 15 "EachOnHisCue$Net" "lines" "I") (by decide +kernel)) (fun _ h9 => h9) rfl dX5_weaveWithoutSick_17 ?_
  refine lv_icmp_ge (tgt := 39) hx hb dX5_weaveWithoutSick_20 (by decide) (fun hc => ?_) (fun hc => ?_)
  rotate_left; exact absurd hc (by decide)
  have hP9 := hP.sub (ws' := [(h1, .inr (7, [.ref h2, .ref h3, .ref h4, .int 0, .ref h5, .ref h6, .ref h7, .ref h8, .int 0, .int 0, .int 10, .ref h9])), (h0, .inr (5, [.ref h10, .int 0]))]) [1, 0] rfl
  have hD9 := hD.sub (ws' := [(h1, .inr (7, [.ref h2, .ref h3, .ref h4, .int 0, .ref h5, .ref h6, .ref h7, .ref h8, .int 0, .int 0, .int 10, .ref h9])), (h0, .inr (5, [.ref h10, .int 0]))]) [1, 0] (by decide) rfl
  exact W.vret hx hb hr (fun t ht hW => ⟨⟨(fun k => [].getD k 0), rfl, trivial, by rw [ht]; exact hP9, hD9⟩, hS.F ht⟩) hS.2.2 dX5_weaveWithoutSick_39
set_option maxHeartbeats 4000000 in
set_option maxRecDepth 100000 in
theorem kX5_firstThatCannotFollow (l : Launch) (dC : Nat → ClassId) (dI : Nat → Nat → Nat) (cI cQ : ClassId) (h0 h1 : Nat) (sz : Nat) : Met l yX5_firstThatCannotFollow vsX5_firstThatCannotFollow ({ frames := 0, cells := 0, slots := 0, locals := 0 }) (va_Pc [.ref h0, .ref h1, .int 0] (zB dC dI cI cQ [] sz)) (zQi dC dI (va_A [] sz) (fun ad => []) (-9)) 0 0 (va_A [] sz) := by
  refine Met.ofW (cc := cX5_firstThatCannotFollow) (maxL := 5) (ret := (some .int)) (by decide) rfl ?_
  intro p e s m args below meth c s₁ B hml hv
  obtain ⟨rfl, hsz, hP, hZ, hD0⟩ := hv
  obtain ⟨hK, hAO, hN⟩ := id hZ
  have hx := B.exec
  have hb := B.bytes
  have hr := B.returns
  have hts := atoms_spec (ws := vsX5_firstThatCannotFollow) B.pre
  have hown : s.vm.findClass RX5 = some m.cls := findClass_of_methodNamed B.named
  have hlocks := B.notSynchronized
  subst hsz
  have hD := hD0.self (sz := s.heap.size)
  generalize hAe : va_A [] s.heap.size = A at hD ⊢
  have hA : ∀ q : Nat, s.heap.size ≤ q → A q := fun q h => by rw [← hAe]; exact Or.inr h
  have hS : va_S A s.heap s.heap [] := va_S.rf
  have hP : va_P (dC, dI) vwCl [] s.heap := hP
  have hl := lv_entry ([.ref h0, .ref h1, .int 0]) (n := 5) (Nat.le_of_ble_eq_true rfl)
  rw [lg_entry_eq]
  generalize (lg_sl ([.ref h0, .ref h1, .int 0]) ++ List.replicate (5 - (lg_sl ([.ref h0, .ref h1, .int 0])).length) Slot.unset).toArray = ls at hl ⊢
  have hl : lv_has ls 5 [(0, .ref h0), (1, .ref h1), (2, .int 0)] := hl
  refine lv_iconst (v := 0) hx hb dX5_firstThatCannotFollow_0 (by decide) ?_
  refine lv_istore_n (lv' := [(3, .int 0), (0, .ref h0), (1, .ref h1), (2, .int 0)]) hx hb dX5_firstThatCannotFollow_1 rfl hl (by decide) rfl (fun ls hl => ?_)
  refine lv_iload_n hx hb dX5_firstThatCannotFollow_2 rfl (lv_at hl 0 rfl) ?_
  refine lv_iload_n hx hb dX5_firstThatCannotFollow_3 rfl (lv_at hl 3 rfl) ?_
  refine lv_icmp_ge (tgt := 58) hx hb dX5_firstThatCannotFollow_4 (by decide) (fun hc => ?_) (fun hc => ?_)
  rotate_left; exact absurd hc (by decide)
  refine lv_bipush (v := (-9)) hx hb dX5_firstThatCannotFollow_58 (by decide) ?_
  have hP9 := hP.sub (ws' := []) [] rfl
  have hD9 := hD.sub (ws' := []) [] (by decide) rfl
  exact W.iret (v := (-9)) hx hb hr (fun t ht hW => ⟨⟨(-9), (fun k => [].getD k 0), rfl, rfl, by rw [ht]; exact hP9, hD9⟩, hS.F ht⟩) hS.2.2 dX5_firstThatCannotFollow_60
set_option maxHeartbeats 4000000 in
set_option maxRecDepth 100000 in
theorem kX11_possible (l : Launch) (dC : Nat → ClassId) (dI : Nat → Nat → Nat) (cI cQ : ClassId) (h0 h1 h2 h3 h4 h5 h6 h7 h8 h9 h10 h11 h12 h13 h14 h15 h16 : Nat) (sz : Nat) : Met l yX11_possible vsX11_possible ({ frames := 2, cells := 0, slots := 0, locals := 46 }) (va_Pc [.ref h0] (zB dC dI cI cQ [(h0, .inr (11, [.ref h1, .ref h3, .int 0, .ref h4, .ref h2, .ref h5, .ref h6, .int 0, .ref h7])), (h1, .inr (7, [.ref h8, .ref h9, .ref h10, .int 0, .ref h11, .ref h12, .ref h13, .ref h14, .int 0, .int 0, .int 10, .ref h15])), (h2, .inr (5, [.ref h16, .int 0]))] sz)) (zQi dC dI (va_A [(h0, .inr (11, [.ref h1, .ref h3, .int 0, .ref h4, .ref h2, .ref h5, .ref h6, .int 0, .ref h7])), (h1, .inr (7, [.ref h8, .ref h9, .ref h10, .int 0, .ref h11, .ref h12, .ref h13, .ref h14, .int 0, .int 0, .int 10, .ref h15])), (h2, .inr (5, [.ref h16, .int 0]))] sz) (fun ad => []) (-9)) 0 0 (va_A [(h0, .inr (11, [.ref h1, .ref h3, .int 0, .ref h4, .ref h2, .ref h5, .ref h6, .int 0, .ref h7])), (h1, .inr (7, [.ref h8, .ref h9, .ref h10, .int 0, .ref h11, .ref h12, .ref h13, .ref h14, .int 0, .int 0, .int 10, .ref h15])), (h2, .inr (5, [.ref h16, .int 0]))] sz) := by
  refine Met.ofW (cc := cX11_possible) (maxL := 2) (ret := (some .int)) (by decide) rfl ?_
  intro p e s m args below meth c s₁ B hml hv
  obtain ⟨rfl, hsz, hP, hZ, hD0⟩ := hv
  obtain ⟨hK, hAO, hN⟩ := id hZ
  have hx := B.exec
  have hb := B.bytes
  have hr := B.returns
  have hts := atoms_spec (ws := vsX11_possible) B.pre
  have hown : s.vm.findClass RX11 = some m.cls := findClass_of_methodNamed B.named
  have hlocks := B.notSynchronized
  subst hsz
  have hD := hD0.self (sz := s.heap.size)
  generalize hAe : va_A [(h0, .inr (11, [.ref h1, .ref h3, .int 0, .ref h4, .ref h2, .ref h5, .ref h6, .int 0, .ref h7])), (h1, .inr (7, [.ref h8, .ref h9, .ref h10, .int 0, .ref h11, .ref h12, .ref h13, .ref h14, .int 0, .int 0, .int 10, .ref h15])), (h2, .inr (5, [.ref h16, .int 0]))] s.heap.size = A at hD ⊢
  have hA : ∀ q : Nat, s.heap.size ≤ q → A q := fun q h => by rw [← hAe]; exact Or.inr h
  have hS : va_S A s.heap s.heap [] := va_S.rf
  have hP : va_P (dC, dI) vwCl [(h0, .inr (11, [.ref h1, .ref h3, .int 0, .ref h4, .ref h2, .ref h5, .ref h6, .int 0, .ref h7])), (h1, .inr (7, [.ref h8, .ref h9, .ref h10, .int 0, .ref h11, .ref h12, .ref h13, .ref h14, .int 0, .int 0, .int 10, .ref h15])), (h2, .inr (5, [.ref h16, .int 0]))] s.heap := hP
  have hl := lv_entry ([.ref h0]) (n := 2) (Nat.le_of_ble_eq_true rfl)
  rw [lg_entry_eq]
  generalize (lg_sl ([.ref h0]) ++ List.replicate (2 - (lg_sl ([.ref h0])).length) Slot.unset).toArray = ls at hl ⊢
  have hl : lv_has ls 2 [(0, .ref h0)] := hl
  refine lv_aload_n hx hb dX11_possible_0 rfl (lv_at hl 0 rfl) ?_
  refine va_get (D := (dC, dI)) (ci := 11) (v := .ref h2) (C := RX11) (T := TX11) (N := 9) hx hb hts in_X11_possible_X11 hown hK hP 0 rfl rfl 4 (by decide) (hts (.fieldLink RX11 34 "EachOnHisCue" "web" "LEachOnHisCue$Net;") (by decide +kernel)) (fun _ h9 => h9) rfl dX11_possible_1 ?_
  refine lv_aload_n hx hb dX11_possible_4 rfl (lv_at hl 0 rfl) ?_
  refine va_get (D := (dC, dI)) (ci := 11) (v := .ref h1) (C := RX11) (T := TX11) (N := 9) hx hb hts in_X11_possible_X11 hown hK hP 0 rfl rfl 0 (by decide) (hts (.fieldLink RX11 10 "EachOnHisCue" "play" "LEachOnHisCue$Play;") (by decide +kernel)) (fun _ h9 => h9) rfl dX11_possible_5 ?_
  refine z_callv (wc := [(h1, .inr (7, [.ref h8, .ref h9, .ref h10, .int 0, .ref h11, .ref h12, .ref h13, .ref h14, .int 0, .int 0, .int 10, .ref h15])), (h2, .inr (5, [.ref h16, .int 0]))]) (wr := [(h0, .inr (11, [.ref h1, .ref h3, .int 0, .ref h4, .ref h2, .ref h5, .ref h6, .int 0, .ref h7]))]) (w1 := (fun _ => [(h1, .inr (7, [.ref h8, .ref h9, .ref h10, .int 0, .ref h11, .ref h12, .ref h13, .ref h14, .int 0, .int 0, .int 10, .ref h15])), (h2, .inr (5, [.ref h16, .int 0]))])) (va_runV (As := [.ref h1]) (rest := []) ⟨hx, hb, hml, hown, hts⟩ (kX5_weaveWithoutSick l dC dI cI cQ h2 h1 h8 h9 h10 h11 h12 h13 h14 h15 h16 s.heap.size) (cwV 1 hts gv_X11_possible_X5_weaveWithoutSick_167 rfl rfl rfl (by decide +kernel) ⟨Nat.le_of_ble_eq_true rfl, Nat.le_of_ble_eq_true rfl⟩) ⟨z_blind, va_recv hK hP (ci := 5) (q0 := 2) rfl rfl, z_pre hZ hP hD [1, 2] rfl (by decide)⟩ rfl rfl hl.1 rfl (lv_room (Nat.le_of_ble_eq_true rfl)) dX11_possible_8 ⟨Nat.le_of_ble_eq_true rfl, Nat.le_of_ble_eq_true rfl⟩) hP hD hS hA [1, 2] [0] rfl rfl (by decide) (by decide) (fun _ H locs hP hD hS => ?_)
  have hP : va_P (dC, dI) vwCl [(h0, .inr (11, [.ref h1, .ref h3, .int 0, .ref h4, .ref h2, .ref h5, .ref h6, .int 0, .ref h7])), (h1, .inr (7, [.ref h8, .ref h9, .ref h10, .int 0, .ref h11, .ref h12, .ref h13, .ref h14, .int 0, .int 0, .int 10, .ref h15])), (h2, .inr (5, [.ref h16, .int 0]))] H := hP
  have hD : va_D A [(h0, .inr (11, [.ref h1, .ref h3, .int 0, .ref h4, .ref h2, .ref h5, .ref h6, .int 0, .ref h7])), (h1, .inr (7, [.ref h8, .ref h9, .ref h10, .int 0, .ref h11, .ref h12, .ref h13, .ref h14, .int 0, .int 0, .int 10, .ref h15])), (h2, .inr (5, [.ref h16, .int 0]))] := hD
  refine lv_aload_n hx hb dX11_possible_11 rfl (lv_at hl 0 rfl) ?_
  refine va_get (D := (dC, dI)) (ci := 11) (v := .ref h2) (C := RX11) (T := TX11) (N := 9) hx hb hts in_X11_possible_X11 hown hK hP 0 rfl rfl 4 (by decide) (hts (.fieldLink RX11 34 "EachOnHisCue" "web" "LEachOnHisCue$Net;") (by decide +kernel)) (fun _ h9 => h9) rfl dX11_possible_12 ?_
  refine lv_aload_n hx hb dX11_possible_15 rfl (lv_at hl 0 rfl) ?_
  refine va_get (D := (dC, dI)) (ci := 11) (v := .ref h6) (C := RX11) (T := TX11) (N := 9) hx hb hts in_X11_possible_X11 hown hK hP 0 rfl rfl 6 (by decide) (hts (.fieldLink RX11 42 "EachOnHisCue" "told" "[I") (by decide +kernel)) (fun _ h9 => h9) rfl dX11_possible_16 ?_
  refine lv_aload_n hx hb dX11_possible_19 rfl (lv_at hl 0 rfl) ?_
  refine va_get (D := (dC, dI)) (ci := 11) (v := .int 0) (C := RX11) (T := TX11) (N := 9) hx hb hts in_X11_possible_X11 hown hK hP 0 rfl rfl 7 (by decide) (hts (.fieldLink RX11 46 "EachOnHisCue" "toldSize" "I") (by decide +kernel)) (fun _ h9 => h9) rfl dX11_possible_20 ?_
  refine z_calli (wc := []) (wr := [(h0, .inr (11, [.ref h1, .ref h3, .int 0, .ref h4, .ref h2, .ref h5, .ref h6, .int 0, .ref h7])), (h1, .inr (7, [.ref h8, .ref h9, .ref h10, .int 0, .ref h11, .ref h12, .ref h13, .ref h14, .int 0, .int 0, .int 10, .ref h15])), (h2, .inr (5, [.ref h16, .int 0]))]) (w1 := (fun _ => [])) (va_runV (As := [.ref h6, .int 0]) (rest := []) ⟨hx, hb, hml, hown, hts⟩ (kX5_firstThatCannotFollow l dC dI cI cQ h2 h6 H.size) (cwV 2 hts gv_X11_possible_X5_firstThatCannotFollow_228 rfl rfl rfl (by decide +kernel) ⟨Nat.le_of_ble_eq_true rfl, Nat.le_of_ble_eq_true rfl⟩) ⟨z_blind, va_recv hK hP (ci := 5) (q0 := 2) rfl rfl, z_pre hZ hP hD [] rfl (by decide)⟩ rfl rfl hl.1 rfl (lv_room (Nat.le_of_ble_eq_true rfl)) dX11_possible_23 ⟨Nat.le_of_ble_eq_true rfl, Nat.le_of_ble_eq_true rfl⟩) hP hD hS hA [] [0, 1, 2] rfl rfl (by decide) (by decide) (fun _ H locs hP hD hS => ?_)
  have hP : va_P (dC, dI) vwCl [(h0, .inr (11, [.ref h1, .ref h3, .int 0, .ref h4, .ref h2, .ref h5, .ref h6, .int 0, .ref h7])), (h1, .inr (7, [.ref h8, .ref h9, .ref h10, .int 0, .ref h11, .ref h12, .ref h13, .ref h14, .int 0, .int 0, .int 10, .ref h15])), (h2, .inr (5, [.ref h16, .int 0]))] H := hP
  have hD : va_D A [(h0, .inr (11, [.ref h1, .ref h3, .int 0, .ref h4, .ref h2, .ref h5, .ref h6, .int 0, .ref h7])), (h1, .inr (7, [.ref h8, .ref h9, .ref h10, .int 0, .ref h11, .ref h12, .ref h13, .ref h14, .int 0, .int 0, .int 10, .ref h15])), (h2, .inr (5, [.ref h16, .int 0]))] := hD
  refine lv_istore_n (lv' := [(1, .int (-9)), (0, .ref h0)]) hx hb dX11_possible_26 rfl hl (by decide) rfl (fun ls hl => ?_)
  refine lv_aload_n hx hb dX11_possible_27 rfl (lv_at hl 1 rfl) ?_
  refine lv_iconst (v := 0) hx hb dX11_possible_28 (by decide) ?_
  refine va_put (D := (dC, dI)) (ci := 11) (v := .int 0) (ty := .int) (C := RX11) (T := TX11) (N := 9) hx hb hts in_X11_possible_X11 tyX11 tyX11_ok nmX11 hown hK hP hD hS 0 rfl rfl 7 (by decide) (hts (.fieldLink RX11 46 "EachOnHisCue" "toldSize" "I") (by decide +kernel)) (fun _ h9 => h9) rfl (by decide +kernel) rfl rfl (Nat.le_of_ble_eq_true rfl) dX11_possible_29 (fun H locs hP hD hS => ?_)
  have hP : va_P (dC, dI) vwCl [(h0, .inr (11, [.ref h1, .ref h3, .int 0, .ref h4, .ref h2, .ref h5, .ref h6, .int 0, .ref h7])), (h1, .inr (7, [.ref h8, .ref h9, .ref h10, .int 0, .ref h11, .ref h12, .ref h13, .ref h14, .int 0, .int 0, .int 10, .ref h15])), (h2, .inr (5, [.ref h16, .int 0]))] H := hP
  have hD : va_D A [(h0, .inr (11, [.ref h1, .ref h3, .int 0, .ref h4, .ref h2, .ref h5, .ref h6, .int 0, .ref h7])), (h1, .inr (7, [.ref h8, .ref h9, .ref h10, .int 0, .ref h11, .ref h12, .ref h13, .ref h14, .int 0, .int 0, .int 10, .ref h15])), (h2, .inr (5, [.ref h16, .int 0]))] := hD
  refine lv_iload_n hx hb dX11_possible_32 rfl (lv_at hl 0 rfl) ?_
  have hP9 := hP.sub (ws' := []) [] rfl
  have hD9 := hD.sub (ws' := []) [] (by decide) rfl
  exact W.iret (v := (-9)) hx hb hr (fun t ht hW => ⟨⟨(-9), (fun k => [].getD k 0), rfl, rfl, by rw [ht]; exact hP9, hD9⟩, hS.F ht⟩) hS.2.2 dX11_possible_33
set_option maxHeartbeats 4000000 in
set_option maxRecDepth 100000 in
theorem kX11_lot (l : Launch) (dC : Nat → ClassId) (dI : Nat → Nat → Nat) (cI cQ : ClassId) (h0 h1 h2 h3 h4 h5 h6 h7 : Nat) (p0 : Int32) (hp0l : -2147483648 ≤ p0.toInt) (hp0h : p0.toInt ≤ 0) (p1 : Int32) (hp1l : -2147483648 ≤ p1.toInt) (hp1h : p1.toInt ≤ 2147483647) (sz : Nat) : Met l yX11_lot vsX11_lot ({ frames := 1, cells := 0, slots := 0, locals := 22 }) (va_Pc [.ref h0, .int p0, .int p1] (zB dC dI cI cQ [(h0, .inr (11, [.ref h2, .ref h3, .int 0, .ref h4, .ref h5, .ref h6, .ref h7, .int 0, .ref h1])), (h1, .inl (cI, 7, .inl (fun _ => 0)))] sz)) (zQi dC dI (va_A [(h0, .inr (11, [.ref h2, .ref h3, .int 0, .ref h4, .ref h5, .ref h6, .ref h7, .int 0, .ref h1])), (h1, .inl (cI, 7, .inl (fun _ => 0)))] sz) (fun ad => []) (-4)) 0 0 (va_A [(h0, .inr (11, [.ref h2, .ref h3, .int 0, .ref h4, .ref h5, .ref h6, .ref h7, .int 0, .ref h1])), (h1, .inl (cI, 7, .inl (fun _ => 0)))] sz) := by
  refine Met.ofW (cc := cX11_lot) (maxL := 5) (ret := (some .int)) (by decide) rfl ?_
  intro p e s m args below meth c s₁ B hml hv
  obtain ⟨rfl, hsz, hP, hZ, hD0⟩ := hv
  obtain ⟨hK, hAO, hN⟩ := id hZ
  have hx := B.exec
  have hb := B.bytes
  have hr := B.returns
  have hts := atoms_spec (ws := vsX11_lot) B.pre
  have hown : s.vm.findClass RX11 = some m.cls := findClass_of_methodNamed B.named
  have hlocks := B.notSynchronized
  subst hsz
  have hD := hD0.self (sz := s.heap.size)
  generalize hAe : va_A [(h0, .inr (11, [.ref h2, .ref h3, .int 0, .ref h4, .ref h5, .ref h6, .ref h7, .int 0, .ref h1])), (h1, .inl (cI, 7, .inl (fun _ => 0)))] s.heap.size = A at hD ⊢
  have hA : ∀ q : Nat, s.heap.size ≤ q → A q := fun q h => by rw [← hAe]; exact Or.inr h
  have hS : va_S A s.heap s.heap [] := va_S.rf
  have hP : va_P (dC, dI) vwCl [(h0, .inr (11, [.ref h2, .ref h3, .int 0, .ref h4, .ref h5, .ref h6, .ref h7, .int 0, .ref h1])), (h1, .inl (cI, 7, .inl (fun _ => 0)))] s.heap := hP
  have hl := lv_entry ([.ref h0, .int p0, .int p1]) (n := 5) (Nat.le_of_ble_eq_true rfl)
  rw [lg_entry_eq]
  generalize (lg_sl ([.ref h0, .int p0, .int p1]) ++ List.replicate (5 - (lg_sl ([.ref h0, .int p0, .int p1])).length) Slot.unset).toArray = ls at hl ⊢
  have hl : lv_has ls 5 [(0, .ref h0), (1, .int p0), (2, .int p1)] := hl
  refine lv_iload_n hx hb dX11_lot_0 rfl (lv_at hl 1 rfl) ?_
  refine lv_iconst (v := 1) hx hb dX11_lot_1 (by decide) ?_
  refine lv_icmp_ge (tgt := 12) hx hb dX11_lot_2 (by decide) (fun hc => ?_) (fun hc => ?_)
  · exact absurd ((fa_le _ _).mp hc) (by rw [show (1 : Int32).toInt = 1 from by decide]; omega)
  refine lv_aload_n hx hb dX11_lot_5 rfl (lv_at hl 0 rfl) ?_
  refine lv_bipush (v := (-4)) hx hb dX11_lot_6 (by decide) ?_
  refine z_calli (wc := [(h0, .inr (11, [.ref h2, .ref h3, .int 0, .ref h4, .ref h5, .ref h6, .ref h7, .int 0, .ref h1])), (h1, .inl (cI, 7, .inl (fun _ => 0)))]) (wr := []) (w1 := (fun _ => [(h0, .inr (11, [.ref h2, .ref h3, .int 0, .ref h4, .ref h5, .ref h6, .ref h7, .int 0, .ref h1])), (h1, .inl (cI, 7, .inl (upd (fun _ => 0) 4 1)))])) (va_runV (As := [.int (-4)]) (rest := []) ⟨hx, hb, hml, hown, hts⟩ (kX11_refuse l dC dI cI cQ h0 h1 h2 h3 h4 h5 h6 h7 s.heap.size) (cwV 1 hts gv_X11_lot_X11_refuse_53 rfl rfl rfl (by decide +kernel) ⟨Nat.le_of_ble_eq_true rfl, Nat.le_of_ble_eq_true rfl⟩) ⟨z_blind, va_recv hK hP (ci := 11) (q0 := 0) rfl rfl, z_pre hZ hP hD [0, 1] rfl (by decide)⟩ rfl rfl hl.1 rfl (lv_room (Nat.le_of_ble_eq_true rfl)) dX11_lot_8 ⟨Nat.le_of_ble_eq_true rfl, Nat.le_of_ble_eq_true rfl⟩) hP hD hS hA [0, 1] [] rfl rfl (by decide) (by decide) (fun _ H locs hP hD hS => ?_)
  have hP : va_P (dC, dI) vwCl [(h0, .inr (11, [.ref h2, .ref h3, .int 0, .ref h4, .ref h5, .ref h6, .ref h7, .int 0, .ref h1])), (h1, .inl (cI, 7, .inl (upd (fun _ => 0) 4 1)))] H := hP
  have hD : va_D A [(h0, .inr (11, [.ref h2, .ref h3, .int 0, .ref h4, .ref h5, .ref h6, .ref h7, .int 0, .ref h1])), (h1, .inl (cI, 7, .inl (upd (fun _ => 0) 4 1)))] := hD
  have hP9 := hP.sub (ws' := []) [] rfl
  have hD9 := hD.sub (ws' := []) [] (by decide) rfl
  exact W.iret (v := (-4)) hx hb hr (fun t ht hW => ⟨⟨(-4), (fun k => [].getD k 0), rfl, rfl, by rw [ht]; exact hP9, hD9⟩, hS.F ht⟩) hS.2.2 dX11_lot_11
set_option maxHeartbeats 4000000 in
set_option maxRecDepth 100000 in
theorem kX11_lot_1 (l : Launch) (dC : Nat → ClassId) (dI : Nat → Nat → Nat) (cI cQ : ClassId) (h0 h1 h2 h3 h4 h5 h6 h7 h8 h9 h10 h11 h12 h13 h14 h15 : Nat) (p0 : Int32) (hp0l : 1 ≤ p0.toInt) (hp0h : p0.toInt ≤ 20) (p1 : Int32) (hp1l : -2147483648 ≤ p1.toInt) (hp1h : p1.toInt ≤ 2147483647) (sz : Nat) : Met l yX11_lot vsX11_lot ({ frames := 1, cells := 0, slots := 0, locals := 22 }) (va_Pc [.ref h0, .int p0, .int p1] (zB dC dI cI cQ [(h0, .inr (11, [.ref h1, .ref h3, .int 0, .ref h4, .ref h5, .ref h6, .ref h7, .int 0, .ref h2])), (h1, .inr (7, [.ref h8, .ref h9, .ref h10, .int 0, .ref h11, .ref h12, .ref h13, .ref h14, .int 0, .int 0, .int 10, .ref h15])), (h2, .inl (cI, 7, .inl (fun _ => 0)))] sz)) (zQi dC dI (va_A [(h0, .inr (11, [.ref h1, .ref h3, .int 0, .ref h4, .ref h5, .ref h6, .ref h7, .int 0, .ref h2])), (h1, .inr (7, [.ref h8, .ref h9, .ref h10, .int 0, .ref h11, .ref h12, .ref h13, .ref h14, .int 0, .int 0, .int 10, .ref h15])), (h2, .inl (cI, 7, .inl (fun _ => 0)))] sz) (fun ad => []) (-3)) 0 0 (va_A [(h0, .inr (11, [.ref h1, .ref h3, .int 0, .ref h4, .ref h5, .ref h6, .ref h7, .int 0, .ref h2])), (h1, .inr (7, [.ref h8, .ref h9, .ref h10, .int 0, .ref h11, .ref h12, .ref h13, .ref h14, .int 0, .int 0, .int 10, .ref h15])), (h2, .inl (cI, 7, .inl (fun _ => 0)))] sz) := by
  refine Met.ofW (cc := cX11_lot) (maxL := 5) (ret := (some .int)) (by decide) rfl ?_
  intro p e s m args below meth c s₁ B hml hv
  obtain ⟨rfl, hsz, hP, hZ, hD0⟩ := hv
  obtain ⟨hK, hAO, hN⟩ := id hZ
  have hx := B.exec
  have hb := B.bytes
  have hr := B.returns
  have hts := atoms_spec (ws := vsX11_lot) B.pre
  have hown : s.vm.findClass RX11 = some m.cls := findClass_of_methodNamed B.named
  have hlocks := B.notSynchronized
  subst hsz
  have hD := hD0.self (sz := s.heap.size)
  generalize hAe : va_A [(h0, .inr (11, [.ref h1, .ref h3, .int 0, .ref h4, .ref h5, .ref h6, .ref h7, .int 0, .ref h2])), (h1, .inr (7, [.ref h8, .ref h9, .ref h10, .int 0, .ref h11, .ref h12, .ref h13, .ref h14, .int 0, .int 0, .int 10, .ref h15])), (h2, .inl (cI, 7, .inl (fun _ => 0)))] s.heap.size = A at hD ⊢
  have hA : ∀ q : Nat, s.heap.size ≤ q → A q := fun q h => by rw [← hAe]; exact Or.inr h
  have hS : va_S A s.heap s.heap [] := va_S.rf
  have hP : va_P (dC, dI) vwCl [(h0, .inr (11, [.ref h1, .ref h3, .int 0, .ref h4, .ref h5, .ref h6, .ref h7, .int 0, .ref h2])), (h1, .inr (7, [.ref h8, .ref h9, .ref h10, .int 0, .ref h11, .ref h12, .ref h13, .ref h14, .int 0, .int 0, .int 10, .ref h15])), (h2, .inl (cI, 7, .inl (fun _ => 0)))] s.heap := hP
  have hl := lv_entry ([.ref h0, .int p0, .int p1]) (n := 5) (Nat.le_of_ble_eq_true rfl)
  rw [lg_entry_eq]
  generalize (lg_sl ([.ref h0, .int p0, .int p1]) ++ List.replicate (5 - (lg_sl ([.ref h0, .int p0, .int p1])).length) Slot.unset).toArray = ls at hl ⊢
  have hl : lv_has ls 5 [(0, .ref h0), (1, .int p0), (2, .int p1)] := hl
  refine lv_iload_n hx hb dX11_lot_0 rfl (lv_at hl 1 rfl) ?_
  refine lv_iconst (v := 1) hx hb dX11_lot_1 (by decide) ?_
  refine lv_icmp_ge (tgt := 12) hx hb dX11_lot_2 (by decide) (fun hc => ?_) (fun hc => ?_)
  rotate_left; exact absurd ((fa_le _ _).mpr (by rw [show (1 : Int32).toInt = 1 from by decide]; omega)) hc
  refine lv_iload_n hx hb dX11_lot_12 rfl (lv_at hl 1 rfl) ?_
  refine lv_bipush (v := 20) hx hb dX11_lot_13 (by decide) ?_
  refine lv_icmp_le (tgt := 25) hx hb dX11_lot_15 (by decide) (fun hc => ?_) (fun hc => ?_)
  rotate_left; exact absurd ((fa_le _ _).mpr (by rw [show (20 : Int32).toInt = 20 from by decide]; omega)) hc
  refine lv_aload_n hx hb dX11_lot_25 rfl (lv_at hl 0 rfl) ?_
  refine va_get (D := (dC, dI)) (ci := 11) (v := .ref h1) (C := RX11) (T := TX11) (N := 9) hx hb hts in_X11_lot_X11 hown hK hP 0 rfl rfl 0 (by decide) (hts (.fieldLink RX11 10 "EachOnHisCue" "play" "LEachOnHisCue$Play;") (by decide +kernel)) (fun _ h9 => h9) rfl dX11_lot_26 ?_
  refine va_get (D := (dC, dI)) (ci := 7) (v := .int 0) (C := RX7) (T := TX7) (N := 12) hx hb hts in_X11_lot_X7 hown hK hP 1 rfl rfl 9 (by decide) (hts (.fieldLink RX11 137 "EachOnHisCue$Play" "lines" "I") (by decide +kernel)) (fun _ h9 => h9) rfl dX11_lot_29 ?_
  refine lv_if_ne (tgt := 42) hx hb dX11_lot_32 (by decide) (fun hc => ?_) (fun hc => ?_)
  · exact absurd hc (by decide)
  refine lv_aload_n hx hb dX11_lot_35 rfl (lv_at hl 0 rfl) ?_
  refine lv_bipush (v := (-3)) hx hb dX11_lot_36 (by decide) ?_
  refine z_calli (wc := [(h0, .inr (11, [.ref h1, .ref h3, .int 0, .ref h4, .ref h5, .ref h6, .ref h7, .int 0, .ref h2])), (h2, .inl (cI, 7, .inl (fun _ => 0)))]) (wr := [(h1, .inr (7, [.ref h8, .ref h9, .ref h10, .int 0, .ref h11, .ref h12, .ref h13, .ref h14, .int 0, .int 0, .int 10, .ref h15]))]) (w1 := (fun _ => [(h0, .inr (11, [.ref h1, .ref h3, .int 0, .ref h4, .ref h5, .ref h6, .ref h7, .int 0, .ref h2])), (h2, .inl (cI, 7, .inl (upd (fun _ => 0) 3 1)))])) (va_runV (As := [.int (-3)]) (rest := []) ⟨hx, hb, hml, hown, hts⟩ (kX11_refuse_3 l dC dI cI cQ h0 h2 h1 h3 h4 h5 h6 h7 s.heap.size) (cwV 1 hts gv_X11_lot_X11_refuse_53 rfl rfl rfl (by decide +kernel) ⟨Nat.le_of_ble_eq_true rfl, Nat.le_of_ble_eq_true rfl⟩) ⟨z_blind, va_recv hK hP (ci := 11) (q0 := 0) rfl rfl, z_pre hZ hP hD [0, 2] rfl (by decide)⟩ rfl rfl hl.1 rfl (lv_room (Nat.le_of_ble_eq_true rfl)) dX11_lot_38 ⟨Nat.le_of_ble_eq_true rfl, Nat.le_of_ble_eq_true rfl⟩) hP hD hS hA [0, 2] [1] rfl rfl (by decide) (by decide) (fun _ H locs hP hD hS => ?_)
  have hP : va_P (dC, dI) vwCl [(h1, .inr (7, [.ref h8, .ref h9, .ref h10, .int 0, .ref h11, .ref h12, .ref h13, .ref h14, .int 0, .int 0, .int 10, .ref h15])), (h0, .inr (11, [.ref h1, .ref h3, .int 0, .ref h4, .ref h5, .ref h6, .ref h7, .int 0, .ref h2])), (h2, .inl (cI, 7, .inl (upd (fun _ => 0) 3 1)))] H := hP
  have hD : va_D A [(h1, .inr (7, [.ref h8, .ref h9, .ref h10, .int 0, .ref h11, .ref h12, .ref h13, .ref h14, .int 0, .int 0, .int 10, .ref h15])), (h0, .inr (11, [.ref h1, .ref h3, .int 0, .ref h4, .ref h5, .ref h6, .ref h7, .int 0, .ref h2])), (h2, .inl (cI, 7, .inl (upd (fun _ => 0) 3 1)))] := hD
  have hP9 := hP.sub (ws' := []) [] rfl
  have hD9 := hD.sub (ws' := []) [] (by decide) rfl
  exact W.iret (v := (-3)) hx hb hr (fun t ht hW => ⟨⟨(-3), (fun k => [].getD k 0), rfl, rfl, by rw [ht]; exact hP9, hD9⟩, hS.F ht⟩) hS.2.2 dX11_lot_41
set_option maxHeartbeats 4000000 in
set_option maxRecDepth 100000 in
theorem kX11_lot_2 (l : Launch) (dC : Nat → ClassId) (dI : Nat → Nat → Nat) (cI cQ : ClassId) (h0 h1 h2 h3 h4 h5 h6 h7 : Nat) (p0 : Int32) (hp0l : 21 ≤ p0.toInt) (hp0h : p0.toInt ≤ 2147483647) (p1 : Int32) (hp1l : -2147483648 ≤ p1.toInt) (hp1h : p1.toInt ≤ 2147483647) (sz : Nat) : Met l yX11_lot vsX11_lot ({ frames := 1, cells := 0, slots := 0, locals := 22 }) (va_Pc [.ref h0, .int p0, .int p1] (zB dC dI cI cQ [(h0, .inr (11, [.ref h2, .ref h3, .int 0, .ref h4, .ref h5, .ref h6, .ref h7, .int 0, .ref h1])), (h1, .inl (cI, 7, .inl (fun _ => 0)))] sz)) (zQi dC dI (va_A [(h0, .inr (11, [.ref h2, .ref h3, .int 0, .ref h4, .ref h5, .ref h6, .ref h7, .int 0, .ref h1])), (h1, .inl (cI, 7, .inl (fun _ => 0)))] sz) (fun ad => []) (-6)) 0 0 (va_A [(h0, .inr (11, [.ref h2, .ref h3, .int 0, .ref h4, .ref h5, .ref h6, .ref h7, .int 0, .ref h1])), (h1, .inl (cI, 7, .inl (fun _ => 0)))] sz) := by
  refine Met.ofW (cc := cX11_lot) (maxL := 5) (ret := (some .int)) (by decide) rfl ?_
  intro p e s m args below meth c s₁ B hml hv
  obtain ⟨rfl, hsz, hP, hZ, hD0⟩ := hv
  obtain ⟨hK, hAO, hN⟩ := id hZ
  have hx := B.exec
  have hb := B.bytes
  have hr := B.returns
  have hts := atoms_spec (ws := vsX11_lot) B.pre
  have hown : s.vm.findClass RX11 = some m.cls := findClass_of_methodNamed B.named
  have hlocks := B.notSynchronized
  subst hsz
  have hD := hD0.self (sz := s.heap.size)
  generalize hAe : va_A [(h0, .inr (11, [.ref h2, .ref h3, .int 0, .ref h4, .ref h5, .ref h6, .ref h7, .int 0, .ref h1])), (h1, .inl (cI, 7, .inl (fun _ => 0)))] s.heap.size = A at hD ⊢
  have hA : ∀ q : Nat, s.heap.size ≤ q → A q := fun q h => by rw [← hAe]; exact Or.inr h
  have hS : va_S A s.heap s.heap [] := va_S.rf
  have hP : va_P (dC, dI) vwCl [(h0, .inr (11, [.ref h2, .ref h3, .int 0, .ref h4, .ref h5, .ref h6, .ref h7, .int 0, .ref h1])), (h1, .inl (cI, 7, .inl (fun _ => 0)))] s.heap := hP
  have hl := lv_entry ([.ref h0, .int p0, .int p1]) (n := 5) (Nat.le_of_ble_eq_true rfl)
  rw [lg_entry_eq]
  generalize (lg_sl ([.ref h0, .int p0, .int p1]) ++ List.replicate (5 - (lg_sl ([.ref h0, .int p0, .int p1])).length) Slot.unset).toArray = ls at hl ⊢
  have hl : lv_has ls 5 [(0, .ref h0), (1, .int p0), (2, .int p1)] := hl
  refine lv_iload_n hx hb dX11_lot_0 rfl (lv_at hl 1 rfl) ?_
  refine lv_iconst (v := 1) hx hb dX11_lot_1 (by decide) ?_
  refine lv_icmp_ge (tgt := 12) hx hb dX11_lot_2 (by decide) (fun hc => ?_) (fun hc => ?_)
  rotate_left; exact absurd ((fa_le _ _).mpr (by rw [show (1 : Int32).toInt = 1 from by decide]; omega)) hc
  refine lv_iload_n hx hb dX11_lot_12 rfl (lv_at hl 1 rfl) ?_
  refine lv_bipush (v := 20) hx hb dX11_lot_13 (by decide) ?_
  refine lv_icmp_le (tgt := 25) hx hb dX11_lot_15 (by decide) (fun hc => ?_) (fun hc => ?_)
  · exact absurd ((fa_le _ _).mp hc) (by rw [show (20 : Int32).toInt = 20 from by decide]; omega)
  refine lv_aload_n hx hb dX11_lot_18 rfl (lv_at hl 0 rfl) ?_
  refine lv_bipush (v := (-6)) hx hb dX11_lot_19 (by decide) ?_
  refine z_calli (wc := [(h0, .inr (11, [.ref h2, .ref h3, .int 0, .ref h4, .ref h5, .ref h6, .ref h7, .int 0, .ref h1])), (h1, .inl (cI, 7, .inl (fun _ => 0)))]) (wr := []) (w1 := (fun _ => [(h0, .inr (11, [.ref h2, .ref h3, .int 0, .ref h4, .ref h5, .ref h6, .ref h7, .int 0, .ref h1])), (h1, .inl (cI, 7, .inl (upd (fun _ => 0) 6 1)))])) (va_runV (As := [.int (-6)]) (rest := []) ⟨hx, hb, hml, hown, hts⟩ (kX11_refuse_1 l dC dI cI cQ h0 h1 h2 h3 h4 h5 h6 h7 s.heap.size) (cwV 1 hts gv_X11_lot_X11_refuse_53 rfl rfl rfl (by decide +kernel) ⟨Nat.le_of_ble_eq_true rfl, Nat.le_of_ble_eq_true rfl⟩) ⟨z_blind, va_recv hK hP (ci := 11) (q0 := 0) rfl rfl, z_pre hZ hP hD [0, 1] rfl (by decide)⟩ rfl rfl hl.1 rfl (lv_room (Nat.le_of_ble_eq_true rfl)) dX11_lot_21 ⟨Nat.le_of_ble_eq_true rfl, Nat.le_of_ble_eq_true rfl⟩) hP hD hS hA [0, 1] [] rfl rfl (by decide) (by decide) (fun _ H locs hP hD hS => ?_)
  have hP : va_P (dC, dI) vwCl [(h0, .inr (11, [.ref h2, .ref h3, .int 0, .ref h4, .ref h5, .ref h6, .ref h7, .int 0, .ref h1])), (h1, .inl (cI, 7, .inl (upd (fun _ => 0) 6 1)))] H := hP
  have hD : va_D A [(h0, .inr (11, [.ref h2, .ref h3, .int 0, .ref h4, .ref h5, .ref h6, .ref h7, .int 0, .ref h1])), (h1, .inl (cI, 7, .inl (upd (fun _ => 0) 6 1)))] := hD
  have hP9 := hP.sub (ws' := []) [] rfl
  have hD9 := hD.sub (ws' := []) [] (by decide) rfl
  exact W.iret (v := (-6)) hx hb hr (fun t ht hW => ⟨⟨(-6), (fun k => [].getD k 0), rfl, rfl, by rw [ht]; exact hP9, hD9⟩, hS.F ht⟩) hS.2.2 dX11_lot_24
set_option maxHeartbeats 4000000 in
set_option maxRecDepth 100000 in
theorem kX9_take (l : Launch) (dC : Nat → ClassId) (dI : Nat → Nat → Nat) (cI cQ : ClassId) (h0 h1 : Nat) (sz : Nat) : Met l yX9_take vsX9_take ({ frames := 0, cells := 0, slots := 0, locals := 0 }) (va_Pc [.ref h0, .ref h1] (zB dC dI cI cQ [(h1, .inr (9, [.int 0, .int 0, .int (-9), .int 0, .int 0])), (h0, .inr (9, [.int 0, .int 0, .int (-9), .int 0, .int 0]))] sz)) (zQv dC dI (va_A [(h1, .inr (9, [.int 0, .int 0, .int (-9), .int 0, .int 0])), (h0, .inr (9, [.int 0, .int 0, .int (-9), .int 0, .int 0]))] sz) (fun ad => [(h1, .inr (9, [.int 0, .int 0, .int (-9), .int 0, .int 0])), (h0, .inr (9, [.int 0, .int 0, .int (-9), .int 0, .int 0]))])) 0 0 (va_A [(h1, .inr (9, [.int 0, .int 0, .int (-9), .int 0, .int 0])), (h0, .inr (9, [.int 0, .int 0, .int (-9), .int 0, .int 0]))] sz) := by
  refine Met.ofW (cc := cX9_take) (maxL := 2) (ret := none) (by decide) rfl ?_
  intro p e s m args below meth c s₁ B hml hv
  obtain ⟨rfl, hsz, hP, hZ, hD0⟩ := hv
  obtain ⟨hK, hAO, hN⟩ := id hZ
  have hx := B.exec
  have hb := B.bytes
  have hr := B.returns
  have hts := atoms_spec (ws := vsX9_take) B.pre
  have hown : s.vm.findClass RX9 = some m.cls := findClass_of_methodNamed B.named
  have hlocks := B.notSynchronized
  subst hsz
  have hD := hD0.self (sz := s.heap.size)
  generalize hAe : va_A [(h1, .inr (9, [.int 0, .int 0, .int (-9), .int 0, .int 0])), (h0, .inr (9, [.int 0, .int 0, .int (-9), .int 0, .int 0]))] s.heap.size = A at hD ⊢
  have hA : ∀ q : Nat, s.heap.size ≤ q → A q := fun q h => by rw [← hAe]; exact Or.inr h
  have hS : va_S A s.heap s.heap [] := va_S.rf
  have hP : va_P (dC, dI) vwCl [(h1, .inr (9, [.int 0, .int 0, .int (-9), .int 0, .int 0])), (h0, .inr (9, [.int 0, .int 0, .int (-9), .int 0, .int 0]))] s.heap := hP
  have hl := lv_entry ([.ref h0, .ref h1]) (n := 2) (Nat.le_of_ble_eq_true rfl)
  rw [lg_entry_eq]
  generalize (lg_sl ([.ref h0, .ref h1]) ++ List.replicate (2 - (lg_sl ([.ref h0, .ref h1])).length) Slot.unset).toArray = ls at hl ⊢
  have hl : lv_has ls 2 [(0, .ref h0), (1, .ref h1)] := hl
  refine lv_aload_n hx hb dX9_take_0 rfl (lv_at hl 0 rfl) ?_
  refine lv_aload_n hx hb dX9_take_1 rfl (lv_at hl 1 rfl) ?_
  refine va_get (D := (dC, dI)) (ci := 9) (v := .int 0) (C := RX9) (T := TX9) (N := 5) hx hb hts in_X9_take_X9 hown hK hP 0 rfl rfl 0 (by decide) (hts (.fieldLink RX9 9 "EachOnHisCue$Saying" "said" "I") (by decide +kernel)) (fun _ h9 => h9) rfl dX9_take_2 ?_
  refine va_put (D := (dC, dI)) (ci := 9) (v := .int 0) (ty := .int) (C := RX9) (T := TX9) (N := 5) hx hb hts in_X9_take_X9 tyX9 tyX9_ok nmX9 hown hK hP hD hS 1 rfl rfl 0 (by decide) (hts (.fieldLink RX9 9 "EachOnHisCue$Saying" "said" "I") (by decide +kernel)) (fun _ h9 => h9) rfl (by decide +kernel) rfl rfl (Nat.le_of_ble_eq_true rfl) dX9_take_5 (fun H locs hP hD hS => ?_)
  have hP : va_P (dC, dI) vwCl [(h1, .inr (9, [.int 0, .int 0, .int (-9), .int 0, .int 0])), (h0, .inr (9, [.int 0, .int 0, .int (-9), .int 0, .int 0]))] H := hP
  have hD : va_D A [(h1, .inr (9, [.int 0, .int 0, .int (-9), .int 0, .int 0])), (h0, .inr (9, [.int 0, .int 0, .int (-9), .int 0, .int 0]))] := hD
  refine lv_aload_n hx hb dX9_take_8 rfl (lv_at hl 0 rfl) ?_
  refine lv_aload_n hx hb dX9_take_9 rfl (lv_at hl 1 rfl) ?_
  refine va_get (D := (dC, dI)) (ci := 9) (v := .int 0) (C := RX9) (T := TX9) (N := 5) hx hb hts in_X9_take_X9 hown hK hP 0 rfl rfl 1 (by decide) (hts (.fieldLink RX9 15 "EachOnHisCue$Saying" "dead" "I") (by decide +kernel)) (fun _ h9 => h9) rfl dX9_take_10 ?_
  refine va_put (D := (dC, dI)) (ci := 9) (v := .int 0) (ty := .int) (C := RX9) (T := TX9) (N := 5) hx hb hts in_X9_take_X9 tyX9 tyX9_ok nmX9 hown hK hP hD hS 1 rfl rfl 1 (by decide) (hts (.fieldLink RX9 15 "EachOnHisCue$Saying" "dead" "I") (by decide +kernel)) (fun _ h9 => h9) rfl (by decide +kernel) rfl rfl (Nat.le_of_ble_eq_true rfl) dX9_take_13 (fun H locs hP hD hS => ?_)
  have hP : va_P (dC, dI) vwCl [(h1, .inr (9, [.int 0, .int 0, .int (-9), .int 0, .int 0])), (h0, .inr (9, [.int 0, .int 0, .int (-9), .int 0, .int 0]))] H := hP
  have hD : va_D A [(h1, .inr (9, [.int 0, .int 0, .int (-9), .int 0, .int 0])), (h0, .inr (9, [.int 0, .int 0, .int (-9), .int 0, .int 0]))] := hD
  refine lv_aload_n hx hb dX9_take_16 rfl (lv_at hl 0 rfl) ?_
  refine lv_aload_n hx hb dX9_take_17 rfl (lv_at hl 1 rfl) ?_
  refine va_get (D := (dC, dI)) (ci := 9) (v := .int (-9)) (C := RX9) (T := TX9) (N := 5) hx hb hts in_X9_take_X9 hown hK hP 0 rfl rfl 2 (by decide) (hts (.fieldLink RX9 18 "EachOnHisCue$Saying" "latest" "I") (by decide +kernel)) (fun _ h9 => h9) rfl dX9_take_18 ?_
  refine va_put (D := (dC, dI)) (ci := 9) (v := .int (-9)) (ty := .int) (C := RX9) (T := TX9) (N := 5) hx hb hts in_X9_take_X9 tyX9 tyX9_ok nmX9 hown hK hP hD hS 1 rfl rfl 2 (by decide) (hts (.fieldLink RX9 18 "EachOnHisCue$Saying" "latest" "I") (by decide +kernel)) (fun _ h9 => h9) rfl (by decide +kernel) rfl rfl (Nat.le_of_ble_eq_true rfl) dX9_take_21 (fun H locs hP hD hS => ?_)
  have hP : va_P (dC, dI) vwCl [(h1, .inr (9, [.int 0, .int 0, .int (-9), .int 0, .int 0])), (h0, .inr (9, [.int 0, .int 0, .int (-9), .int 0, .int 0]))] H := hP
  have hD : va_D A [(h1, .inr (9, [.int 0, .int 0, .int (-9), .int 0, .int 0])), (h0, .inr (9, [.int 0, .int 0, .int (-9), .int 0, .int 0]))] := hD
  refine lv_aload_n hx hb dX9_take_24 rfl (lv_at hl 0 rfl) ?_
  refine lv_aload_n hx hb dX9_take_25 rfl (lv_at hl 1 rfl) ?_
  refine va_get (D := (dC, dI)) (ci := 9) (v := .int 0) (C := RX9) (T := TX9) (N := 5) hx hb hts in_X9_take_X9 hown hK hP 0 rfl rfl 3 (by decide) (hts (.fieldLink RX9 21 "EachOnHisCue$Saying" "times" "I") (by decide +kernel)) (fun _ h9 => h9) rfl dX9_take_26 ?_
  refine va_put (D := (dC, dI)) (ci := 9) (v := .int 0) (ty := .int) (C := RX9) (T := TX9) (N := 5) hx hb hts in_X9_take_X9 tyX9 tyX9_ok nmX9 hown hK hP hD hS 1 rfl rfl 3 (by decide) (hts (.fieldLink RX9 21 "EachOnHisCue$Saying" "times" "I") (by decide +kernel)) (fun _ h9 => h9) rfl (by decide +kernel) rfl rfl (Nat.le_of_ble_eq_true rfl) dX9_take_29 (fun H locs hP hD hS => ?_)
  have hP : va_P (dC, dI) vwCl [(h1, .inr (9, [.int 0, .int 0, .int (-9), .int 0, .int 0])), (h0, .inr (9, [.int 0, .int 0, .int (-9), .int 0, .int 0]))] H := hP
  have hD : va_D A [(h1, .inr (9, [.int 0, .int 0, .int (-9), .int 0, .int 0])), (h0, .inr (9, [.int 0, .int 0, .int (-9), .int 0, .int 0]))] := hD
  refine lv_aload_n hx hb dX9_take_32 rfl (lv_at hl 0 rfl) ?_
  refine lv_aload_n hx hb dX9_take_33 rfl (lv_at hl 1 rfl) ?_
  refine va_get (D := (dC, dI)) (ci := 9) (v := .int 0) (C := RX9) (T := TX9) (N := 5) hx hb hts in_X9_take_X9 hown hK hP 0 rfl rfl 4 (by decide) (hts (.fieldLink RX9 24 "EachOnHisCue$Saying" "leaps" "I") (by decide +kernel)) (fun _ h9 => h9) rfl dX9_take_34 ?_
  refine va_put (D := (dC, dI)) (ci := 9) (v := .int 0) (ty := .int) (C := RX9) (T := TX9) (N := 5) hx hb hts in_X9_take_X9 tyX9 tyX9_ok nmX9 hown hK hP hD hS 1 rfl rfl 4 (by decide) (hts (.fieldLink RX9 24 "EachOnHisCue$Saying" "leaps" "I") (by decide +kernel)) (fun _ h9 => h9) rfl (by decide +kernel) rfl rfl (Nat.le_of_ble_eq_true rfl) dX9_take_37 (fun H locs hP hD hS => ?_)
  have hP : va_P (dC, dI) vwCl [(h1, .inr (9, [.int 0, .int 0, .int (-9), .int 0, .int 0])), (h0, .inr (9, [.int 0, .int 0, .int (-9), .int 0, .int 0]))] H := hP
  have hD : va_D A [(h1, .inr (9, [.int 0, .int 0, .int (-9), .int 0, .int 0])), (h0, .inr (9, [.int 0, .int 0, .int (-9), .int 0, .int 0]))] := hD
  have hP9 := hP.sub (ws' := [(h1, .inr (9, [.int 0, .int 0, .int (-9), .int 0, .int 0])), (h0, .inr (9, [.int 0, .int 0, .int (-9), .int 0, .int 0]))]) [0, 1] rfl
  have hD9 := hD.sub (ws' := [(h1, .inr (9, [.int 0, .int 0, .int (-9), .int 0, .int 0])), (h0, .inr (9, [.int 0, .int 0, .int (-9), .int 0, .int 0]))]) [0, 1] (by decide) rfl
  exact W.vret hx hb hr (fun t ht hW => ⟨⟨(fun k => [].getD k 0), rfl, trivial, by rw [ht]; exact hP9, hD9⟩, hS.F ht⟩) hS.2.2 dX9_take_40
set_option maxHeartbeats 4000000 in
set_option maxRecDepth 100000 in
theorem kX7_take (l : Launch) (dC : Nat → ClassId) (dI : Nat → Nat → Nat) (cI cQ : ClassId) (h0 h1 h2 h3 h4 h5 h6 h7 h8 h9 h10 h11 h12 h13 h14 h15 h16 h17 : Nat) (sz : Nat) : Met l yX7_take vsX7_take ({ frames := 1, cells := 0, slots := 0, locals := 21 }) (va_Pc [.ref h0, .ref h1] (zB dC dI cI cQ [(h1, .inr (7, [.ref h2, .ref h3, .ref h4, .int 0, .ref h5, .ref h6, .ref h7, .ref h8, .int 0, .int 0, .int 10, .ref h9])), (h2, .inl (cQ, 5, .inr (.inr (.inr (.inr (fun _ => none)))))), (h3, .inl (cI, 5, .inl (fun _ => 0))), (h4, .inl (cI, 5, .inl (fun _ => 0))), (h5, .inl (cI, 12, .inl (fun _ => 0))), (h6, .inl (cI, 12, .inl (fun _ => 0))), (h7, .inl (cI, 12, .inl (fun _ => 0))), (h8, .inl (cI, 12, .inl (fun _ => 0))), (h9, .inr (9, [.int 0, .int 0, .int (-9), .int 0, .int 0])), (h0, .inr (7, [.ref h10, .ref h11, .ref h12, .int 0, .ref h13, .ref h14, .ref h15, .ref h16, .int 0, .int 0, .int 10, .ref h17])), (h10, .inl (cQ, 5, .inr (.inr (.inr (.inr (fun _ => none)))))), (h11, .inl (cI, 5, .inl (fun _ => 0))), (h12, .inl (cI, 5, .inl (fun _ => 0))), (h13, .inl (cI, 12, .inl (fun _ => 0))), (h14, .inl (cI, 12, .inl (fun _ => 0))), (h15, .inl (cI, 12, .inl (fun _ => 0))), (h16, .inl (cI, 12, .inl (fun _ => 0))), (h17, .inr (9, [.int 0, .int 0, .int (-9), .int 0, .int 0]))] sz)) (zQv dC dI (va_A [(h1, .inr (7, [.ref h2, .ref h3, .ref h4, .int 0, .ref h5, .ref h6, .ref h7, .ref h8, .int 0, .int 0, .int 10, .ref h9])), (h2, .inl (cQ, 5, .inr (.inr (.inr (.inr (fun _ => none)))))), (h3, .inl (cI, 5, .inl (fun _ => 0))), (h4, .inl (cI, 5, .inl (fun _ => 0))), (h5, .inl (cI, 12, .inl (fun _ => 0))), (h6, .inl (cI, 12, .inl (fun _ => 0))), (h7, .inl (cI, 12, .inl (fun _ => 0))), (h8, .inl (cI, 12, .inl (fun _ => 0))), (h9, .inr (9, [.int 0, .int 0, .int (-9), .int 0, .int 0])), (h0, .inr (7, [.ref h10, .ref h11, .ref h12, .int 0, .ref h13, .ref h14, .ref h15, .ref h16, .int 0, .int 0, .int 10, .ref h17])), (h10, .inl (cQ, 5, .inr (.inr (.inr (.inr (fun _ => none)))))), (h11, .inl (cI, 5, .inl (fun _ => 0))), (h12, .inl (cI, 5, .inl (fun _ => 0))), (h13, .inl (cI, 12, .inl (fun _ => 0))), (h14, .inl (cI, 12, .inl (fun _ => 0))), (h15, .inl (cI, 12, .inl (fun _ => 0))), (h16, .inl (cI, 12, .inl (fun _ => 0))), (h17, .inr (9, [.int 0, .int 0, .int (-9), .int 0, .int 0]))] sz) (fun ad => [(h1, .inr (7, [.ref h2, .ref h3, .ref h4, .int 0, .ref h5, .ref h6, .ref h7, .ref h8, .int 0, .int 0, .int 10, .ref h9])), (h2, .inl (cQ, 5, .inr (.inr (.inr (.inr (fun _ => none)))))), (h3, .inl (cI, 5, .inl (fun _ => 0))), (h4, .inl (cI, 5, .inl (fun _ => 0))), (h5, .inl (cI, 12, .inl (fun _ => 0))), (h6, .inl (cI, 12, .inl (fun _ => 0))), (h7, .inl (cI, 12, .inl (fun _ => 0))), (h8, .inl (cI, 12, .inl (fun _ => 0))), (h9, .inr (9, [.int 0, .int 0, .int (-9), .int 0, .int 0])), (h0, .inr (7, [.ref h10, .ref h11, .ref h12, .int 0, .ref h13, .ref h14, .ref h15, .ref h16, .int 0, .int 0, .int 10, .ref h17])), (h10, .inl (cQ, 5, .inr (.inr (.inr (.inr (fun _ => none)))))), (h11, .inl (cI, 5, .inl (fun _ => 0))), (h12, .inl (cI, 5, .inl (fun _ => 0))), (h13, .inl (cI, 12, .inl (fun _ => 0))), (h14, .inl (cI, 12, .inl (fun _ => 0))), (h15, .inl (cI, 12, .inl (fun _ => 0))), (h16, .inl (cI, 12, .inl (fun _ => 0))), (h17, .inr (9, [.int 0, .int 0, .int (-9), .int 0, .int 0]))])) 0 0 (va_A [(h1, .inr (7, [.ref h2, .ref h3, .ref h4, .int 0, .ref h5, .ref h6, .ref h7, .ref h8, .int 0, .int 0, .int 10, .ref h9])), (h2, .inl (cQ, 5, .inr (.inr (.inr (.inr (fun _ => none)))))), (h3, .inl (cI, 5, .inl (fun _ => 0))), (h4, .inl (cI, 5, .inl (fun _ => 0))), (h5, .inl (cI, 12, .inl (fun _ => 0))), (h6, .inl (cI, 12, .inl (fun _ => 0))), (h7, .inl (cI, 12, .inl (fun _ => 0))), (h8, .inl (cI, 12, .inl (fun _ => 0))), (h9, .inr (9, [.int 0, .int 0, .int (-9), .int 0, .int 0])), (h0, .inr (7, [.ref h10, .ref h11, .ref h12, .int 0, .ref h13, .ref h14, .ref h15, .ref h16, .int 0, .int 0, .int 10, .ref h17])), (h10, .inl (cQ, 5, .inr (.inr (.inr (.inr (fun _ => none)))))), (h11, .inl (cI, 5, .inl (fun _ => 0))), (h12, .inl (cI, 5, .inl (fun _ => 0))), (h13, .inl (cI, 12, .inl (fun _ => 0))), (h14, .inl (cI, 12, .inl (fun _ => 0))), (h15, .inl (cI, 12, .inl (fun _ => 0))), (h16, .inl (cI, 12, .inl (fun _ => 0))), (h17, .inr (9, [.int 0, .int 0, .int (-9), .int 0, .int 0]))] sz) := by
  refine Met.ofW (cc := cX7_take) (maxL := 3) (ret := none) (by decide) rfl ?_
  intro p e s m args below meth c s₁ B hml hv
  obtain ⟨rfl, hsz, hP, hZ, hD0⟩ := hv
  obtain ⟨hK, hAO, hN⟩ := id hZ
  have hx := B.exec
  have hb := B.bytes
  have hr := B.returns
  have hts := atoms_spec (ws := vsX7_take) B.pre
  have hown : s.vm.findClass RX7 = some m.cls := findClass_of_methodNamed B.named
  have hlocks := B.notSynchronized
  subst hsz
  have hD := hD0.self (sz := s.heap.size)
  generalize hAe : va_A [(h1, .inr (7, [.ref h2, .ref h3, .ref h4, .int 0, .ref h5, .ref h6, .ref h7, .ref h8, .int 0, .int 0, .int 10, .ref h9])), (h2, .inl (cQ, 5, .inr (.inr (.inr (.inr (fun _ => none)))))), (h3, .inl (cI, 5, .inl (fun _ => 0))), (h4, .inl (cI, 5, .inl (fun _ => 0))), (h5, .inl (cI, 12, .inl (fun _ => 0))), (h6, .inl (cI, 12, .inl (fun _ => 0))), (h7, .inl (cI, 12, .inl (fun _ => 0))), (h8, .inl (cI, 12, .inl (fun _ => 0))), (h9, .inr (9, [.int 0, .int 0, .int (-9), .int 0, .int 0])), (h0, .inr (7, [.ref h10, .ref h11, .ref h12, .int 0, .ref h13, .ref h14, .ref h15, .ref h16, .int 0, .int 0, .int 10, .ref h17])), (h10, .inl (cQ, 5, .inr (.inr (.inr (.inr (fun _ => none)))))), (h11, .inl (cI, 5, .inl (fun _ => 0))), (h12, .inl (cI, 5, .inl (fun _ => 0))), (h13, .inl (cI, 12, .inl (fun _ => 0))), (h14, .inl (cI, 12, .inl (fun _ => 0))), (h15, .inl (cI, 12, .inl (fun _ => 0))), (h16, .inl (cI, 12, .inl (fun _ => 0))), (h17, .inr (9, [.int 0, .int 0, .int (-9), .int 0, .int 0]))] s.heap.size = A at hD ⊢
  have hA : ∀ q : Nat, s.heap.size ≤ q → A q := fun q h => by rw [← hAe]; exact Or.inr h
  have hS : va_S A s.heap s.heap [] := va_S.rf
  have hP : va_P (dC, dI) vwCl [(h1, .inr (7, [.ref h2, .ref h3, .ref h4, .int 0, .ref h5, .ref h6, .ref h7, .ref h8, .int 0, .int 0, .int 10, .ref h9])), (h2, .inl (cQ, 5, .inr (.inr (.inr (.inr (fun _ => none)))))), (h3, .inl (cI, 5, .inl (fun _ => 0))), (h4, .inl (cI, 5, .inl (fun _ => 0))), (h5, .inl (cI, 12, .inl (fun _ => 0))), (h6, .inl (cI, 12, .inl (fun _ => 0))), (h7, .inl (cI, 12, .inl (fun _ => 0))), (h8, .inl (cI, 12, .inl (fun _ => 0))), (h9, .inr (9, [.int 0, .int 0, .int (-9), .int 0, .int 0])), (h0, .inr (7, [.ref h10, .ref h11, .ref h12, .int 0, .ref h13, .ref h14, .ref h15, .ref h16, .int 0, .int 0, .int 10, .ref h17])), (h10, .inl (cQ, 5, .inr (.inr (.inr (.inr (fun _ => none)))))), (h11, .inl (cI, 5, .inl (fun _ => 0))), (h12, .inl (cI, 5, .inl (fun _ => 0))), (h13, .inl (cI, 12, .inl (fun _ => 0))), (h14, .inl (cI, 12, .inl (fun _ => 0))), (h15, .inl (cI, 12, .inl (fun _ => 0))), (h16, .inl (cI, 12, .inl (fun _ => 0))), (h17, .inr (9, [.int 0, .int 0, .int (-9), .int 0, .int 0]))] s.heap := hP
  have hl := lv_entry ([.ref h0, .ref h1]) (n := 3) (Nat.le_of_ble_eq_true rfl)
  rw [lg_entry_eq]
  generalize (lg_sl ([.ref h0, .ref h1]) ++ List.replicate (3 - (lg_sl ([.ref h0, .ref h1])).length) Slot.unset).toArray = ls at hl ⊢
  have hl : lv_has ls 3 [(0, .ref h0), (1, .ref h1)] := hl
  refine lv_iconst (v := 0) hx hb dX7_take_0 (by decide) ?_
  refine lv_istore_n (lv' := [(2, .int 0), (0, .ref h0), (1, .ref h1)]) hx hb dX7_take_1 rfl hl (by decide) rfl (fun ls hl => ?_)
  have hloop : ∀ (n j : Nat), j + n = 5 → ∀ (H : Heap) (locs : List Loc) (ls : Array Slot), lv_has ls 3 [(2, .int (nI (j + 0))), (0, .ref h0), (1, .ref h1)] → va_P (dC, dI) vwCl [(h1, .inr (7, [.ref h2, .ref h3, .ref h4, .int 0, .ref h5, .ref h6, .ref h7, .ref h8, .int 0, .int 0, .int 10, .ref h9])), (h2, .inl (cQ, 5, .inr (.inr (.inr (.inr (fun _ => none)))))), (h3, .inl (cI, 5, .inl (fun _ => 0))), (h4, .inl (cI, 5, .inl (fun _ => 0))), (h5, .inl (cI, 12, .inl (fun _ => 0))), (h6, .inl (cI, 12, .inl (fun _ => 0))), (h7, .inl (cI, 12, .inl (fun _ => 0))), (h8, .inl (cI, 12, .inl (fun _ => 0))), (h9, .inr (9, [.int 0, .int 0, .int (-9), .int 0, .int 0])), (h0, .inr (7, [.ref h10, .ref h11, .ref h12, .int 0, .ref h13, .ref h14, .ref h15, .ref h16, .int 0, .int 0, .int 10, .ref h17])), (h10, .inl (cQ, 5, .inr (.inr (.inr (.inr (fun _ => none)))))), (h11, .inl (cI, 5, .inl (fun _ => 0))), (h12, .inl (cI, 5, .inl (fun _ => 0))), (h13, .inl (cI, 12, .inl (fun _ => 0))), (h14, .inl (cI, 12, .inl (fun _ => 0))), (h15, .inl (cI, 12, .inl (fun _ => 0))), (h16, .inl (cI, 12, .inl (fun _ => 0))), (h17, .inr (9, [.int 0, .int 0, .int (-9), .int 0, .int 0]))] H → va_D A [(h1, .inr (7, [.ref h2, .ref h3, .ref h4, .int 0, .ref h5, .ref h6, .ref h7, .ref h8, .int 0, .int 0, .int 10, .ref h9])), (h2, .inl (cQ, 5, .inr (.inr (.inr (.inr (fun _ => none)))))), (h3, .inl (cI, 5, .inl (fun _ => 0))), (h4, .inl (cI, 5, .inl (fun _ => 0))), (h5, .inl (cI, 12, .inl (fun _ => 0))), (h6, .inl (cI, 12, .inl (fun _ => 0))), (h7, .inl (cI, 12, .inl (fun _ => 0))), (h8, .inl (cI, 12, .inl (fun _ => 0))), (h9, .inr (9, [.int 0, .int 0, .int (-9), .int 0, .int 0])), (h0, .inr (7, [.ref h10, .ref h11, .ref h12, .int 0, .ref h13, .ref h14, .ref h15, .ref h16, .int 0, .int 0, .int 10, .ref h17])), (h10, .inl (cQ, 5, .inr (.inr (.inr (.inr (fun _ => none)))))), (h11, .inl (cI, 5, .inl (fun _ => 0))), (h12, .inl (cI, 5, .inl (fun _ => 0))), (h13, .inl (cI, 12, .inl (fun _ => 0))), (h14, .inl (cI, 12, .inl (fun _ => 0))), (h15, .inl (cI, 12, .inl (fun _ => 0))), (h16, .inl (cI, 12, .inl (fun _ => 0))), (h17, .inr (9, [.int 0, .int 0, .int (-9), .int 0, .int 0]))] → va_S A s.heap H locs → W p l e (headSpec vsX7_take ({ frames := 1, cells := 0, slots := 0, locals := 21 })).room s m ([.ref h0, .ref h1] : List Value).toArray below meth c H locs 0 0 (MQ below (zQv dC dI A (fun ad => [(h1, .inr (7, [.ref h2, .ref h3, .ref h4, .int 0, .ref h5, .ref h6, .ref h7, .ref h8, .int 0, .int 0, .int 10, .ref h9])), (h2, .inl (cQ, 5, .inr (.inr (.inr (.inr (fun _ => none)))))), (h3, .inl (cI, 5, .inl (fun _ => 0))), (h4, .inl (cI, 5, .inl (fun _ => 0))), (h5, .inl (cI, 12, .inl (fun _ => 0))), (h6, .inl (cI, 12, .inl (fun _ => 0))), (h7, .inl (cI, 12, .inl (fun _ => 0))), (h8, .inl (cI, 12, .inl (fun _ => 0))), (h9, .inr (9, [.int 0, .int 0, .int (-9), .int 0, .int 0])), (h0, .inr (7, [.ref h10, .ref h11, .ref h12, .int 0, .ref h13, .ref h14, .ref h15, .ref h16, .int 0, .int 0, .int 10, .ref h17])), (h10, .inl (cQ, 5, .inr (.inr (.inr (.inr (fun _ => none)))))), (h11, .inl (cI, 5, .inl (fun _ => 0))), (h12, .inl (cI, 5, .inl (fun _ => 0))), (h13, .inl (cI, 12, .inl (fun _ => 0))), (h14, .inl (cI, 12, .inl (fun _ => 0))), (h15, .inl (cI, 12, .inl (fun _ => 0))), (h16, .inl (cI, 12, .inl (fun _ => 0))), (h17, .inr (9, [.int 0, .int 0, .int (-9), .int 0, .int 0]))])) ([.ref h0, .ref h1] : List Value).toArray s 0 0 A) (F0 m 2 ls []) := by
    intro n
    induction n with
    | succ n ih =>
      intro j hj H locs ls hl hP hD hS
      refine lv_iload_n hx hb dX7_take_2 rfl (lv_at hl 0 rfl) ?_
      refine lv_iconst (v := 5) hx hb dX7_take_3 (by decide) ?_
      refine lv_icmp_ge (tgt := 49) hx hb dX7_take_4 (by decide) (fun hc => ?_) (fun hc => ?_)
      · exact absurd ((fa_le _ _).mp hc) (by rw [nI_toInt (show j + 0 < 2 ^ 31 by omega), show (5 : Int32).toInt = 5 from by decide]; omega)
      refine lv_aload_n hx hb dX7_take_7 rfl (lv_at hl 1 rfl) ?_
      refine va_get (D := (dC, dI)) (ci := 7) (v := .ref h10) (C := RX7) (T := TX7) (N := 12) hx hb hts in_X7_take_X7 hown hK hP 9 rfl rfl 0 (by decide) (hts (.fieldLink RX7 11 "EachOnHisCue$Play" "cast" "[LEachOnHisCue$Next;") (by decide +kernel)) (fun _ h9 => h9) rfl dX7_take_8 ?_
      refine lv_iload_n hx hb dX7_take_11 rfl (lv_at hl 0 rfl) ?_
      refine lv_aload_n hx hb dX7_take_12 rfl (lv_at hl 2 rfl) ?_
      refine va_get (D := (dC, dI)) (ci := 7) (v := .ref h2) (C := RX7) (T := TX7) (N := 12) hx hb hts in_X7_take_X7 hown hK hP 0 rfl rfl 0 (by decide) (hts (.fieldLink RX7 11 "EachOnHisCue$Play" "cast" "[LEachOnHisCue$Next;") (by decide +kernel)) (fun _ h9 => h9) rfl dX7_take_13 ?_
      refine lv_iload_n hx hb dX7_take_16 rfl (lv_at hl 0 rfl) ?_
      refine va_aldq hx hb hK hP 1 1 rfl rfl (vp_in_nI (show j + 0 < 5 by omega) (by decide)) dX7_take_17 ?_
      refine va_astqN hx hb hK hP hD hS 10 1 rfl rfl (vp_in_nI (show j + 0 < 5 by omega) (by decide)) dX7_take_18 (fun H locs hP hD hS => ?_)
      rw [z_upN] at hP hD
      have hP : va_P (dC, dI) vwCl [(h1, .inr (7, [.ref h2, .ref h3, .ref h4, .int 0, .ref h5, .ref h6, .ref h7, .ref h8, .int 0, .int 0, .int 10, .ref h9])), (h2, .inl (cQ, 5, .inr (.inr (.inr (.inr (fun _ => none)))))), (h3, .inl (cI, 5, .inl (fun _ => 0))), (h4, .inl (cI, 5, .inl (fun _ => 0))), (h5, .inl (cI, 12, .inl (fun _ => 0))), (h6, .inl (cI, 12, .inl (fun _ => 0))), (h7, .inl (cI, 12, .inl (fun _ => 0))), (h8, .inl (cI, 12, .inl (fun _ => 0))), (h9, .inr (9, [.int 0, .int 0, .int (-9), .int 0, .int 0])), (h0, .inr (7, [.ref h10, .ref h11, .ref h12, .int 0, .ref h13, .ref h14, .ref h15, .ref h16, .int 0, .int 0, .int 10, .ref h17])), (h10, .inl (cQ, 5, .inr (.inr (.inr (.inr (fun _ => none)))))), (h11, .inl (cI, 5, .inl (fun _ => 0))), (h12, .inl (cI, 5, .inl (fun _ => 0))), (h13, .inl (cI, 12, .inl (fun _ => 0))), (h14, .inl (cI, 12, .inl (fun _ => 0))), (h15, .inl (cI, 12, .inl (fun _ => 0))), (h16, .inl (cI, 12, .inl (fun _ => 0))), (h17, .inr (9, [.int 0, .int 0, .int (-9), .int 0, .int 0]))] H := hP
      have hD : va_D A [(h1, .inr (7, [.ref h2, .ref h3, .ref h4, .int 0, .ref h5, .ref h6, .ref h7, .ref h8, .int 0, .int 0, .int 10, .ref h9])), (h2, .inl (cQ, 5, .inr (.inr (.inr (.inr (fun _ => none)))))), (h3, .inl (cI, 5, .inl (fun _ => 0))), (h4, .inl (cI, 5, .inl (fun _ => 0))), (h5, .inl (cI, 12, .inl (fun _ => 0))), (h6, .inl (cI, 12, .inl (fun _ => 0))), (h7, .inl (cI, 12, .inl (fun _ => 0))), (h8, .inl (cI, 12, .inl (fun _ => 0))), (h9, .inr (9, [.int 0, .int 0, .int (-9), .int 0, .int 0])), (h0, .inr (7, [.ref h10, .ref h11, .ref h12, .int 0, .ref h13, .ref h14, .ref h15, .ref h16, .int 0, .int 0, .int 10, .ref h17])), (h10, .inl (cQ, 5, .inr (.inr (.inr (.inr (fun _ => none)))))), (h11, .inl (cI, 5, .inl (fun _ => 0))), (h12, .inl (cI, 5, .inl (fun _ => 0))), (h13, .inl (cI, 12, .inl (fun _ => 0))), (h14, .inl (cI, 12, .inl (fun _ => 0))), (h15, .inl (cI, 12, .inl (fun _ => 0))), (h16, .inl (cI, 12, .inl (fun _ => 0))), (h17, .inr (9, [.int 0, .int 0, .int (-9), .int 0, .int 0]))] := hD
      refine lv_aload_n hx hb dX7_take_19 rfl (lv_at hl 1 rfl) ?_
      refine va_get (D := (dC, dI)) (ci := 7) (v := .ref h11) (C := RX7) (T := TX7) (N := 12) hx hb hts in_X7_take_X7 hown hK hP 9 rfl rfl 1 (by decide) (hts (.fieldLink RX7 17 "EachOnHisCue$Play" "speeds" "[I") (by decide +kernel)) (fun _ h9 => h9) rfl dX7_take_20 ?_
      refine lv_iload_n hx hb dX7_take_23 rfl (lv_at hl 0 rfl) ?_
      refine lv_aload_n hx hb dX7_take_24 rfl (lv_at hl 2 rfl) ?_
      refine va_get (D := (dC, dI)) (ci := 7) (v := .ref h3) (C := RX7) (T := TX7) (N := 12) hx hb hts in_X7_take_X7 hown hK hP 0 rfl rfl 1 (by decide) (hts (.fieldLink RX7 17 "EachOnHisCue$Play" "speeds" "[I") (by decide +kernel)) (fun _ h9 => h9) rfl dX7_take_25 ?_
      refine lv_iload_n hx hb dX7_take_28 rfl (lv_at hl 0 rfl) ?_
      refine va_iald hx hb hK hP 2 0 rfl rfl (vp_in_nI (show j + 0 < 5 by omega) (by decide)) dX7_take_29 ?_
      refine lv_topi (fun y1 ey1 => ?_)
      obtain rfl : y1 = 0 := ey1.trans (by first | rfl | decide)
      refine va_iast hx hb hK hP hD hS 11 0 rfl rfl (vp_in_nI (show j + 0 < 5 by omega) (by decide)) dX7_take_30 (fun H locs hP hD hS => ?_)
      rw [z_upd0] at hP hD
      have hP : va_P (dC, dI) vwCl [(h1, .inr (7, [.ref h2, .ref h3, .ref h4, .int 0, .ref h5, .ref h6, .ref h7, .ref h8, .int 0, .int 0, .int 10, .ref h9])), (h2, .inl (cQ, 5, .inr (.inr (.inr (.inr (fun _ => none)))))), (h3, .inl (cI, 5, .inl (fun _ => 0))), (h4, .inl (cI, 5, .inl (fun _ => 0))), (h5, .inl (cI, 12, .inl (fun _ => 0))), (h6, .inl (cI, 12, .inl (fun _ => 0))), (h7, .inl (cI, 12, .inl (fun _ => 0))), (h8, .inl (cI, 12, .inl (fun _ => 0))), (h9, .inr (9, [.int 0, .int 0, .int (-9), .int 0, .int 0])), (h0, .inr (7, [.ref h10, .ref h11, .ref h12, .int 0, .ref h13, .ref h14, .ref h15, .ref h16, .int 0, .int 0, .int 10, .ref h17])), (h10, .inl (cQ, 5, .inr (.inr (.inr (.inr (fun _ => none)))))), (h11, .inl (cI, 5, .inl (fun _ => 0))), (h12, .inl (cI, 5, .inl (fun _ => 0))), (h13, .inl (cI, 12, .inl (fun _ => 0))), (h14, .inl (cI, 12, .inl (fun _ => 0))), (h15, .inl (cI, 12, .inl (fun _ => 0))), (h16, .inl (cI, 12, .inl (fun _ => 0))), (h17, .inr (9, [.int 0, .int 0, .int (-9), .int 0, .int 0]))] H := hP
      have hD : va_D A [(h1, .inr (7, [.ref h2, .ref h3, .ref h4, .int 0, .ref h5, .ref h6, .ref h7, .ref h8, .int 0, .int 0, .int 10, .ref h9])), (h2, .inl (cQ, 5, .inr (.inr (.inr (.inr (fun _ => none)))))), (h3, .inl (cI, 5, .inl (fun _ => 0))), (h4, .inl (cI, 5, .inl (fun _ => 0))), (h5, .inl (cI, 12, .inl (fun _ => 0))), (h6, .inl (cI, 12, .inl (fun _ => 0))), (h7, .inl (cI, 12, .inl (fun _ => 0))), (h8, .inl (cI, 12, .inl (fun _ => 0))), (h9, .inr (9, [.int 0, .int 0, .int (-9), .int 0, .int 0])), (h0, .inr (7, [.ref h10, .ref h11, .ref h12, .int 0, .ref h13, .ref h14, .ref h15, .ref h16, .int 0, .int 0, .int 10, .ref h17])), (h10, .inl (cQ, 5, .inr (.inr (.inr (.inr (fun _ => none)))))), (h11, .inl (cI, 5, .inl (fun _ => 0))), (h12, .inl (cI, 5, .inl (fun _ => 0))), (h13, .inl (cI, 12, .inl (fun _ => 0))), (h14, .inl (cI, 12, .inl (fun _ => 0))), (h15, .inl (cI, 12, .inl (fun _ => 0))), (h16, .inl (cI, 12, .inl (fun _ => 0))), (h17, .inr (9, [.int 0, .int 0, .int (-9), .int 0, .int 0]))] := hD
      refine lv_aload_n hx hb dX7_take_31 rfl (lv_at hl 1 rfl) ?_
      refine va_get (D := (dC, dI)) (ci := 7) (v := .ref h12) (C := RX7) (T := TX7) (N := 12) hx hb hts in_X7_take_X7 hown hK hP 9 rfl rfl 2 (by decide) (hts (.fieldLink RX7 21 "EachOnHisCue$Play" "own" "[I") (by decide +kernel)) (fun _ h9 => h9) rfl dX7_take_32 ?_
      refine lv_iload_n hx hb dX7_take_35 rfl (lv_at hl 0 rfl) ?_
      refine lv_aload_n hx hb dX7_take_36 rfl (lv_at hl 2 rfl) ?_
      refine va_get (D := (dC, dI)) (ci := 7) (v := .ref h4) (C := RX7) (T := TX7) (N := 12) hx hb hts in_X7_take_X7 hown hK hP 0 rfl rfl 2 (by decide) (hts (.fieldLink RX7 21 "EachOnHisCue$Play" "own" "[I") (by decide +kernel)) (fun _ h9 => h9) rfl dX7_take_37 ?_
      refine lv_iload_n hx hb dX7_take_40 rfl (lv_at hl 0 rfl) ?_
      refine va_iald hx hb hK hP 3 0 rfl rfl (vp_in_nI (show j + 0 < 5 by omega) (by decide)) dX7_take_41 ?_
      refine lv_topi (fun y2 ey2 => ?_)
      obtain rfl : y2 = 0 := ey2.trans (by first | rfl | decide)
      refine va_iast hx hb hK hP hD hS 12 0 rfl rfl (vp_in_nI (show j + 0 < 5 by omega) (by decide)) dX7_take_42 (fun H locs hP hD hS => ?_)
      rw [z_upd0] at hP hD
      have hP : va_P (dC, dI) vwCl [(h1, .inr (7, [.ref h2, .ref h3, .ref h4, .int 0, .ref h5, .ref h6, .ref h7, .ref h8, .int 0, .int 0, .int 10, .ref h9])), (h2, .inl (cQ, 5, .inr (.inr (.inr (.inr (fun _ => none)))))), (h3, .inl (cI, 5, .inl (fun _ => 0))), (h4, .inl (cI, 5, .inl (fun _ => 0))), (h5, .inl (cI, 12, .inl (fun _ => 0))), (h6, .inl (cI, 12, .inl (fun _ => 0))), (h7, .inl (cI, 12, .inl (fun _ => 0))), (h8, .inl (cI, 12, .inl (fun _ => 0))), (h9, .inr (9, [.int 0, .int 0, .int (-9), .int 0, .int 0])), (h0, .inr (7, [.ref h10, .ref h11, .ref h12, .int 0, .ref h13, .ref h14, .ref h15, .ref h16, .int 0, .int 0, .int 10, .ref h17])), (h10, .inl (cQ, 5, .inr (.inr (.inr (.inr (fun _ => none)))))), (h11, .inl (cI, 5, .inl (fun _ => 0))), (h12, .inl (cI, 5, .inl (fun _ => 0))), (h13, .inl (cI, 12, .inl (fun _ => 0))), (h14, .inl (cI, 12, .inl (fun _ => 0))), (h15, .inl (cI, 12, .inl (fun _ => 0))), (h16, .inl (cI, 12, .inl (fun _ => 0))), (h17, .inr (9, [.int 0, .int 0, .int (-9), .int 0, .int 0]))] H := hP
      have hD : va_D A [(h1, .inr (7, [.ref h2, .ref h3, .ref h4, .int 0, .ref h5, .ref h6, .ref h7, .ref h8, .int 0, .int 0, .int 10, .ref h9])), (h2, .inl (cQ, 5, .inr (.inr (.inr (.inr (fun _ => none)))))), (h3, .inl (cI, 5, .inl (fun _ => 0))), (h4, .inl (cI, 5, .inl (fun _ => 0))), (h5, .inl (cI, 12, .inl (fun _ => 0))), (h6, .inl (cI, 12, .inl (fun _ => 0))), (h7, .inl (cI, 12, .inl (fun _ => 0))), (h8, .inl (cI, 12, .inl (fun _ => 0))), (h9, .inr (9, [.int 0, .int 0, .int (-9), .int 0, .int 0])), (h0, .inr (7, [.ref h10, .ref h11, .ref h12, .int 0, .ref h13, .ref h14, .ref h15, .ref h16, .int 0, .int 0, .int 10, .ref h17])), (h10, .inl (cQ, 5, .inr (.inr (.inr (.inr (fun _ => none)))))), (h11, .inl (cI, 5, .inl (fun _ => 0))), (h12, .inl (cI, 5, .inl (fun _ => 0))), (h13, .inl (cI, 12, .inl (fun _ => 0))), (h14, .inl (cI, 12, .inl (fun _ => 0))), (h15, .inl (cI, 12, .inl (fun _ => 0))), (h16, .inl (cI, 12, .inl (fun _ => 0))), (h17, .inr (9, [.int 0, .int 0, .int (-9), .int 0, .int 0]))] := hD
      refine lv_iinc (v := (nI (j + 1))) (lv' := [(2, .int (nI (j + 1))), (0, .ref h0), (1, .ref h1)]) hx hb dX7_take_43 hl (k := 0) rfl (nI_1 _) (by decide) rfl (fun ls hl => ?_)
      refine lv_goto (tgt := 2) hx hb dX7_take_46 (by decide) ?_
      exact ih (j + 1) (by omega) _ _ _ (lv_sub hl [0, 1, 2] rfl) hP hD hS
    | zero =>
      intro j hj H locs ls hl hP hD hS
      obtain rfl : j = 5 := by omega
      have hl : lv_has ls 3 [(2, .int 5), (0, .ref h0), (1, .ref h1)] := hl
      have hP : va_P (dC, dI) vwCl [(h1, .inr (7, [.ref h2, .ref h3, .ref h4, .int 0, .ref h5, .ref h6, .ref h7, .ref h8, .int 0, .int 0, .int 10, .ref h9])), (h2, .inl (cQ, 5, .inr (.inr (.inr (.inr (fun _ => none)))))), (h3, .inl (cI, 5, .inl (fun _ => 0))), (h4, .inl (cI, 5, .inl (fun _ => 0))), (h5, .inl (cI, 12, .inl (fun _ => 0))), (h6, .inl (cI, 12, .inl (fun _ => 0))), (h7, .inl (cI, 12, .inl (fun _ => 0))), (h8, .inl (cI, 12, .inl (fun _ => 0))), (h9, .inr (9, [.int 0, .int 0, .int (-9), .int 0, .int 0])), (h0, .inr (7, [.ref h10, .ref h11, .ref h12, .int 0, .ref h13, .ref h14, .ref h15, .ref h16, .int 0, .int 0, .int 10, .ref h17])), (h10, .inl (cQ, 5, .inr (.inr (.inr (.inr (fun _ => none)))))), (h11, .inl (cI, 5, .inl (fun _ => 0))), (h12, .inl (cI, 5, .inl (fun _ => 0))), (h13, .inl (cI, 12, .inl (fun _ => 0))), (h14, .inl (cI, 12, .inl (fun _ => 0))), (h15, .inl (cI, 12, .inl (fun _ => 0))), (h16, .inl (cI, 12, .inl (fun _ => 0))), (h17, .inr (9, [.int 0, .int 0, .int (-9), .int 0, .int 0]))] H := hP
      have hD : va_D A [(h1, .inr (7, [.ref h2, .ref h3, .ref h4, .int 0, .ref h5, .ref h6, .ref h7, .ref h8, .int 0, .int 0, .int 10, .ref h9])), (h2, .inl (cQ, 5, .inr (.inr (.inr (.inr (fun _ => none)))))), (h3, .inl (cI, 5, .inl (fun _ => 0))), (h4, .inl (cI, 5, .inl (fun _ => 0))), (h5, .inl (cI, 12, .inl (fun _ => 0))), (h6, .inl (cI, 12, .inl (fun _ => 0))), (h7, .inl (cI, 12, .inl (fun _ => 0))), (h8, .inl (cI, 12, .inl (fun _ => 0))), (h9, .inr (9, [.int 0, .int 0, .int (-9), .int 0, .int 0])), (h0, .inr (7, [.ref h10, .ref h11, .ref h12, .int 0, .ref h13, .ref h14, .ref h15, .ref h16, .int 0, .int 0, .int 10, .ref h17])), (h10, .inl (cQ, 5, .inr (.inr (.inr (.inr (fun _ => none)))))), (h11, .inl (cI, 5, .inl (fun _ => 0))), (h12, .inl (cI, 5, .inl (fun _ => 0))), (h13, .inl (cI, 12, .inl (fun _ => 0))), (h14, .inl (cI, 12, .inl (fun _ => 0))), (h15, .inl (cI, 12, .inl (fun _ => 0))), (h16, .inl (cI, 12, .inl (fun _ => 0))), (h17, .inr (9, [.int 0, .int 0, .int (-9), .int 0, .int 0]))] := hD
      refine lv_iload_n hx hb dX7_take_2 rfl (lv_at hl 0 rfl) ?_
      refine lv_iconst (v := 5) hx hb dX7_take_3 (by decide) ?_
      refine lv_icmp_ge (tgt := 49) hx hb dX7_take_4 (by decide) (fun hc => ?_) (fun hc => ?_)
      rotate_left; exact absurd hc (by decide)
      refine lv_aload_n hx hb dX7_take_49 rfl (lv_at hl 1 rfl) ?_
      refine lv_aload_n hx hb dX7_take_50 rfl (lv_at hl 2 rfl) ?_
      refine va_get (D := (dC, dI)) (ci := 7) (v := .int 0) (C := RX7) (T := TX7) (N := 12) hx hb hts in_X7_take_X7 hown hK hP 0 rfl rfl 3 (by decide) (hts (.fieldLink RX7 24 "EachOnHisCue$Play" "players" "I") (by decide +kernel)) (fun _ h9 => h9) rfl dX7_take_51 ?_
      refine va_put (D := (dC, dI)) (ci := 7) (v := .int 0) (ty := .int) (C := RX7) (T := TX7) (N := 12) hx hb hts in_X7_take_X7 tyX7 tyX7_ok nmX7 hown hK hP hD hS 9 rfl rfl 3 (by decide) (hts (.fieldLink RX7 24 "EachOnHisCue$Play" "players" "I") (by decide +kernel)) (fun _ h9 => h9) rfl (by decide +kernel) rfl rfl (Nat.le_of_ble_eq_true rfl) dX7_take_54 (fun H locs hP hD hS => ?_)
      have hP : va_P (dC, dI) vwCl [(h1, .inr (7, [.ref h2, .ref h3, .ref h4, .int 0, .ref h5, .ref h6, .ref h7, .ref h8, .int 0, .int 0, .int 10, .ref h9])), (h2, .inl (cQ, 5, .inr (.inr (.inr (.inr (fun _ => none)))))), (h3, .inl (cI, 5, .inl (fun _ => 0))), (h4, .inl (cI, 5, .inl (fun _ => 0))), (h5, .inl (cI, 12, .inl (fun _ => 0))), (h6, .inl (cI, 12, .inl (fun _ => 0))), (h7, .inl (cI, 12, .inl (fun _ => 0))), (h8, .inl (cI, 12, .inl (fun _ => 0))), (h9, .inr (9, [.int 0, .int 0, .int (-9), .int 0, .int 0])), (h0, .inr (7, [.ref h10, .ref h11, .ref h12, .int 0, .ref h13, .ref h14, .ref h15, .ref h16, .int 0, .int 0, .int 10, .ref h17])), (h10, .inl (cQ, 5, .inr (.inr (.inr (.inr (fun _ => none)))))), (h11, .inl (cI, 5, .inl (fun _ => 0))), (h12, .inl (cI, 5, .inl (fun _ => 0))), (h13, .inl (cI, 12, .inl (fun _ => 0))), (h14, .inl (cI, 12, .inl (fun _ => 0))), (h15, .inl (cI, 12, .inl (fun _ => 0))), (h16, .inl (cI, 12, .inl (fun _ => 0))), (h17, .inr (9, [.int 0, .int 0, .int (-9), .int 0, .int 0]))] H := hP
      have hD : va_D A [(h1, .inr (7, [.ref h2, .ref h3, .ref h4, .int 0, .ref h5, .ref h6, .ref h7, .ref h8, .int 0, .int 0, .int 10, .ref h9])), (h2, .inl (cQ, 5, .inr (.inr (.inr (.inr (fun _ => none)))))), (h3, .inl (cI, 5, .inl (fun _ => 0))), (h4, .inl (cI, 5, .inl (fun _ => 0))), (h5, .inl (cI, 12, .inl (fun _ => 0))), (h6, .inl (cI, 12, .inl (fun _ => 0))), (h7, .inl (cI, 12, .inl (fun _ => 0))), (h8, .inl (cI, 12, .inl (fun _ => 0))), (h9, .inr (9, [.int 0, .int 0, .int (-9), .int 0, .int 0])), (h0, .inr (7, [.ref h10, .ref h11, .ref h12, .int 0, .ref h13, .ref h14, .ref h15, .ref h16, .int 0, .int 0, .int 10, .ref h17])), (h10, .inl (cQ, 5, .inr (.inr (.inr (.inr (fun _ => none)))))), (h11, .inl (cI, 5, .inl (fun _ => 0))), (h12, .inl (cI, 5, .inl (fun _ => 0))), (h13, .inl (cI, 12, .inl (fun _ => 0))), (h14, .inl (cI, 12, .inl (fun _ => 0))), (h15, .inl (cI, 12, .inl (fun _ => 0))), (h16, .inl (cI, 12, .inl (fun _ => 0))), (h17, .inr (9, [.int 0, .int 0, .int (-9), .int 0, .int 0]))] := hD
      refine lv_iconst (v := 0) hx hb dX7_take_57 (by decide) ?_
      refine lv_istore_n (lv' := [(2, .int 0), (0, .ref h0), (1, .ref h1)]) hx hb dX7_take_58 rfl hl (by decide) rfl (fun ls hl => ?_)
      have hloop : ∀ (n j : Nat), j + n = 12 → ∀ (H : Heap) (locs : List Loc) (ls : Array Slot), lv_has ls 3 [(2, .int (nI (j + 0))), (0, .ref h0), (1, .ref h1)] → va_P (dC, dI) vwCl [(h1, .inr (7, [.ref h2, .ref h3, .ref h4, .int 0, .ref h5, .ref h6, .ref h7, .ref h8, .int 0, .int 0, .int 10, .ref h9])), (h2, .inl (cQ, 5, .inr (.inr (.inr (.inr (fun _ => none)))))), (h3, .inl (cI, 5, .inl (fun _ => 0))), (h4, .inl (cI, 5, .inl (fun _ => 0))), (h5, .inl (cI, 12, .inl (fun _ => 0))), (h6, .inl (cI, 12, .inl (fun _ => 0))), (h7, .inl (cI, 12, .inl (fun _ => 0))), (h8, .inl (cI, 12, .inl (fun _ => 0))), (h9, .inr (9, [.int 0, .int 0, .int (-9), .int 0, .int 0])), (h0, .inr (7, [.ref h10, .ref h11, .ref h12, .int 0, .ref h13, .ref h14, .ref h15, .ref h16, .int 0, .int 0, .int 10, .ref h17])), (h10, .inl (cQ, 5, .inr (.inr (.inr (.inr (fun _ => none)))))), (h11, .inl (cI, 5, .inl (fun _ => 0))), (h12, .inl (cI, 5, .inl (fun _ => 0))), (h13, .inl (cI, 12, .inl (fun _ => 0))), (h14, .inl (cI, 12, .inl (fun _ => 0))), (h15, .inl (cI, 12, .inl (fun _ => 0))), (h16, .inl (cI, 12, .inl (fun _ => 0))), (h17, .inr (9, [.int 0, .int 0, .int (-9), .int 0, .int 0]))] H → va_D A [(h1, .inr (7, [.ref h2, .ref h3, .ref h4, .int 0, .ref h5, .ref h6, .ref h7, .ref h8, .int 0, .int 0, .int 10, .ref h9])), (h2, .inl (cQ, 5, .inr (.inr (.inr (.inr (fun _ => none)))))), (h3, .inl (cI, 5, .inl (fun _ => 0))), (h4, .inl (cI, 5, .inl (fun _ => 0))), (h5, .inl (cI, 12, .inl (fun _ => 0))), (h6, .inl (cI, 12, .inl (fun _ => 0))), (h7, .inl (cI, 12, .inl (fun _ => 0))), (h8, .inl (cI, 12, .inl (fun _ => 0))), (h9, .inr (9, [.int 0, .int 0, .int (-9), .int 0, .int 0])), (h0, .inr (7, [.ref h10, .ref h11, .ref h12, .int 0, .ref h13, .ref h14, .ref h15, .ref h16, .int 0, .int 0, .int 10, .ref h17])), (h10, .inl (cQ, 5, .inr (.inr (.inr (.inr (fun _ => none)))))), (h11, .inl (cI, 5, .inl (fun _ => 0))), (h12, .inl (cI, 5, .inl (fun _ => 0))), (h13, .inl (cI, 12, .inl (fun _ => 0))), (h14, .inl (cI, 12, .inl (fun _ => 0))), (h15, .inl (cI, 12, .inl (fun _ => 0))), (h16, .inl (cI, 12, .inl (fun _ => 0))), (h17, .inr (9, [.int 0, .int 0, .int (-9), .int 0, .int 0]))] → va_S A s.heap H locs → W p l e (headSpec vsX7_take ({ frames := 1, cells := 0, slots := 0, locals := 21 })).room s m ([.ref h0, .ref h1] : List Value).toArray below meth c H locs 0 0 (MQ below (zQv dC dI A (fun ad => [(h1, .inr (7, [.ref h2, .ref h3, .ref h4, .int 0, .ref h5, .ref h6, .ref h7, .ref h8, .int 0, .int 0, .int 10, .ref h9])), (h2, .inl (cQ, 5, .inr (.inr (.inr (.inr (fun _ => none)))))), (h3, .inl (cI, 5, .inl (fun _ => 0))), (h4, .inl (cI, 5, .inl (fun _ => 0))), (h5, .inl (cI, 12, .inl (fun _ => 0))), (h6, .inl (cI, 12, .inl (fun _ => 0))), (h7, .inl (cI, 12, .inl (fun _ => 0))), (h8, .inl (cI, 12, .inl (fun _ => 0))), (h9, .inr (9, [.int 0, .int 0, .int (-9), .int 0, .int 0])), (h0, .inr (7, [.ref h10, .ref h11, .ref h12, .int 0, .ref h13, .ref h14, .ref h15, .ref h16, .int 0, .int 0, .int 10, .ref h17])), (h10, .inl (cQ, 5, .inr (.inr (.inr (.inr (fun _ => none)))))), (h11, .inl (cI, 5, .inl (fun _ => 0))), (h12, .inl (cI, 5, .inl (fun _ => 0))), (h13, .inl (cI, 12, .inl (fun _ => 0))), (h14, .inl (cI, 12, .inl (fun _ => 0))), (h15, .inl (cI, 12, .inl (fun _ => 0))), (h16, .inl (cI, 12, .inl (fun _ => 0))), (h17, .inr (9, [.int 0, .int 0, .int (-9), .int 0, .int 0]))])) ([.ref h0, .ref h1] : List Value).toArray s 0 0 A) (F0 m 59 ls []) := by
        intro n
        induction n with
        | succ n ih =>
          intro j hj H locs ls hl hP hD hS
          refine lv_iload_n hx hb dX7_take_59 rfl (lv_at hl 0 rfl) ?_
          refine lv_bipush (v := 12) hx hb dX7_take_60 (by decide) ?_
          refine lv_icmp_ge (tgt := 119) hx hb dX7_take_62 (by decide) (fun hc => ?_) (fun hc => ?_)
          · exact absurd ((fa_le _ _).mp hc) (by rw [nI_toInt (show j + 0 < 2 ^ 31 by omega), show (12 : Int32).toInt = 12 from by decide]; omega)
          refine lv_aload_n hx hb dX7_take_65 rfl (lv_at hl 1 rfl) ?_
          refine va_get (D := (dC, dI)) (ci := 7) (v := .ref h13) (C := RX7) (T := TX7) (N := 12) hx hb hts in_X7_take_X7 hown hK hP 9 rfl rfl 4 (by decide) (hts (.fieldLink RX7 28 "EachOnHisCue$Play" "owners" "[I") (by decide +kernel)) (fun _ h9 => h9) rfl dX7_take_66 ?_
          refine lv_iload_n hx hb dX7_take_69 rfl (lv_at hl 0 rfl) ?_
          refine lv_aload_n hx hb dX7_take_70 rfl (lv_at hl 2 rfl) ?_
          refine va_get (D := (dC, dI)) (ci := 7) (v := .ref h5) (C := RX7) (T := TX7) (N := 12) hx hb hts in_X7_take_X7 hown hK hP 0 rfl rfl 4 (by decide) (hts (.fieldLink RX7 28 "EachOnHisCue$Play" "owners" "[I") (by decide +kernel)) (fun _ h9 => h9) rfl dX7_take_71 ?_
          refine lv_iload_n hx hb dX7_take_74 rfl (lv_at hl 0 rfl) ?_
          refine va_iald hx hb hK hP 4 0 rfl rfl (vp_in_nI (show j + 0 < 12 by omega) (by decide)) dX7_take_75 ?_
          refine lv_topi (fun y1 ey1 => ?_)
          obtain rfl : y1 = 0 := ey1.trans (by first | rfl | decide)
          refine va_iast hx hb hK hP hD hS 13 0 rfl rfl (vp_in_nI (show j + 0 < 12 by omega) (by decide)) dX7_take_76 (fun H locs hP hD hS => ?_)
          rw [z_upd0] at hP hD
          have hP : va_P (dC, dI) vwCl [(h1, .inr (7, [.ref h2, .ref h3, .ref h4, .int 0, .ref h5, .ref h6, .ref h7, .ref h8, .int 0, .int 0, .int 10, .ref h9])), (h2, .inl (cQ, 5, .inr (.inr (.inr (.inr (fun _ => none)))))), (h3, .inl (cI, 5, .inl (fun _ => 0))), (h4, .inl (cI, 5, .inl (fun _ => 0))), (h5, .inl (cI, 12, .inl (fun _ => 0))), (h6, .inl (cI, 12, .inl (fun _ => 0))), (h7, .inl (cI, 12, .inl (fun _ => 0))), (h8, .inl (cI, 12, .inl (fun _ => 0))), (h9, .inr (9, [.int 0, .int 0, .int (-9), .int 0, .int 0])), (h0, .inr (7, [.ref h10, .ref h11, .ref h12, .int 0, .ref h13, .ref h14, .ref h15, .ref h16, .int 0, .int 0, .int 10, .ref h17])), (h10, .inl (cQ, 5, .inr (.inr (.inr (.inr (fun _ => none)))))), (h11, .inl (cI, 5, .inl (fun _ => 0))), (h12, .inl (cI, 5, .inl (fun _ => 0))), (h13, .inl (cI, 12, .inl (fun _ => 0))), (h14, .inl (cI, 12, .inl (fun _ => 0))), (h15, .inl (cI, 12, .inl (fun _ => 0))), (h16, .inl (cI, 12, .inl (fun _ => 0))), (h17, .inr (9, [.int 0, .int 0, .int (-9), .int 0, .int 0]))] H := hP
          have hD : va_D A [(h1, .inr (7, [.ref h2, .ref h3, .ref h4, .int 0, .ref h5, .ref h6, .ref h7, .ref h8, .int 0, .int 0, .int 10, .ref h9])), (h2, .inl (cQ, 5, .inr (.inr (.inr (.inr (fun _ => none)))))), (h3, .inl (cI, 5, .inl (fun _ => 0))), (h4, .inl (cI, 5, .inl (fun _ => 0))), (h5, .inl (cI, 12, .inl (fun _ => 0))), (h6, .inl (cI, 12, .inl (fun _ => 0))), (h7, .inl (cI, 12, .inl (fun _ => 0))), (h8, .inl (cI, 12, .inl (fun _ => 0))), (h9, .inr (9, [.int 0, .int 0, .int (-9), .int 0, .int 0])), (h0, .inr (7, [.ref h10, .ref h11, .ref h12, .int 0, .ref h13, .ref h14, .ref h15, .ref h16, .int 0, .int 0, .int 10, .ref h17])), (h10, .inl (cQ, 5, .inr (.inr (.inr (.inr (fun _ => none)))))), (h11, .inl (cI, 5, .inl (fun _ => 0))), (h12, .inl (cI, 5, .inl (fun _ => 0))), (h13, .inl (cI, 12, .inl (fun _ => 0))), (h14, .inl (cI, 12, .inl (fun _ => 0))), (h15, .inl (cI, 12, .inl (fun _ => 0))), (h16, .inl (cI, 12, .inl (fun _ => 0))), (h17, .inr (9, [.int 0, .int 0, .int (-9), .int 0, .int 0]))] := hD
          refine lv_aload_n hx hb dX7_take_77 rfl (lv_at hl 1 rfl) ?_
          refine va_get (D := (dC, dI)) (ci := 7) (v := .ref h14) (C := RX7) (T := TX7) (N := 12) hx hb hts in_X7_take_X7 hown hK hP 9 rfl rfl 5 (by decide) (hts (.fieldLink RX7 31 "EachOnHisCue$Play" "texts" "[I") (by decide +kernel)) (fun _ h9 => h9) rfl dX7_take_78 ?_
          refine lv_iload_n hx hb dX7_take_81 rfl (lv_at hl 0 rfl) ?_
          refine lv_aload_n hx hb dX7_take_82 rfl (lv_at hl 2 rfl) ?_
          refine va_get (D := (dC, dI)) (ci := 7) (v := .ref h6) (C := RX7) (T := TX7) (N := 12) hx hb hts in_X7_take_X7 hown hK hP 0 rfl rfl 5 (by decide) (hts (.fieldLink RX7 31 "EachOnHisCue$Play" "texts" "[I") (by decide +kernel)) (fun _ h9 => h9) rfl dX7_take_83 ?_
          refine lv_iload_n hx hb dX7_take_86 rfl (lv_at hl 0 rfl) ?_
          refine va_iald hx hb hK hP 5 0 rfl rfl (vp_in_nI (show j + 0 < 12 by omega) (by decide)) dX7_take_87 ?_
          refine lv_topi (fun y2 ey2 => ?_)
          obtain rfl : y2 = 0 := ey2.trans (by first | rfl | decide)
          refine va_iast hx hb hK hP hD hS 14 0 rfl rfl (vp_in_nI (show j + 0 < 12 by omega) (by decide)) dX7_take_88 (fun H locs hP hD hS => ?_)
          rw [z_upd0] at hP hD
          have hP : va_P (dC, dI) vwCl [(h1, .inr (7, [.ref h2, .ref h3, .ref h4, .int 0, .ref h5, .ref h6, .ref h7, .ref h8, .int 0, .int 0, .int 10, .ref h9])), (h2, .inl (cQ, 5, .inr (.inr (.inr (.inr (fun _ => none)))))), (h3, .inl (cI, 5, .inl (fun _ => 0))), (h4, .inl (cI, 5, .inl (fun _ => 0))), (h5, .inl (cI, 12, .inl (fun _ => 0))), (h6, .inl (cI, 12, .inl (fun _ => 0))), (h7, .inl (cI, 12, .inl (fun _ => 0))), (h8, .inl (cI, 12, .inl (fun _ => 0))), (h9, .inr (9, [.int 0, .int 0, .int (-9), .int 0, .int 0])), (h0, .inr (7, [.ref h10, .ref h11, .ref h12, .int 0, .ref h13, .ref h14, .ref h15, .ref h16, .int 0, .int 0, .int 10, .ref h17])), (h10, .inl (cQ, 5, .inr (.inr (.inr (.inr (fun _ => none)))))), (h11, .inl (cI, 5, .inl (fun _ => 0))), (h12, .inl (cI, 5, .inl (fun _ => 0))), (h13, .inl (cI, 12, .inl (fun _ => 0))), (h14, .inl (cI, 12, .inl (fun _ => 0))), (h15, .inl (cI, 12, .inl (fun _ => 0))), (h16, .inl (cI, 12, .inl (fun _ => 0))), (h17, .inr (9, [.int 0, .int 0, .int (-9), .int 0, .int 0]))] H := hP
          have hD : va_D A [(h1, .inr (7, [.ref h2, .ref h3, .ref h4, .int 0, .ref h5, .ref h6, .ref h7, .ref h8, .int 0, .int 0, .int 10, .ref h9])), (h2, .inl (cQ, 5, .inr (.inr (.inr (.inr (fun _ => none)))))), (h3, .inl (cI, 5, .inl (fun _ => 0))), (h4, .inl (cI, 5, .inl (fun _ => 0))), (h5, .inl (cI, 12, .inl (fun _ => 0))), (h6, .inl (cI, 12, .inl (fun _ => 0))), (h7, .inl (cI, 12, .inl (fun _ => 0))), (h8, .inl (cI, 12, .inl (fun _ => 0))), (h9, .inr (9, [.int 0, .int 0, .int (-9), .int 0, .int 0])), (h0, .inr (7, [.ref h10, .ref h11, .ref h12, .int 0, .ref h13, .ref h14, .ref h15, .ref h16, .int 0, .int 0, .int 10, .ref h17])), (h10, .inl (cQ, 5, .inr (.inr (.inr (.inr (fun _ => none)))))), (h11, .inl (cI, 5, .inl (fun _ => 0))), (h12, .inl (cI, 5, .inl (fun _ => 0))), (h13, .inl (cI, 12, .inl (fun _ => 0))), (h14, .inl (cI, 12, .inl (fun _ => 0))), (h15, .inl (cI, 12, .inl (fun _ => 0))), (h16, .inl (cI, 12, .inl (fun _ => 0))), (h17, .inr (9, [.int 0, .int 0, .int (-9), .int 0, .int 0]))] := hD
          refine lv_aload_n hx hb dX7_take_89 rfl (lv_at hl 1 rfl) ?_
          refine va_get (D := (dC, dI)) (ci := 7) (v := .ref h15) (C := RX7) (T := TX7) (N := 12) hx hb hts in_X7_take_X7 hown hK hP 9 rfl rfl 6 (by decide) (hts (.fieldLink RX7 34 "EachOnHisCue$Play" "sizes" "[I") (by decide +kernel)) (fun _ h9 => h9) rfl dX7_take_90 ?_
          refine lv_iload_n hx hb dX7_take_93 rfl (lv_at hl 0 rfl) ?_
          refine lv_aload_n hx hb dX7_take_94 rfl (lv_at hl 2 rfl) ?_
          refine va_get (D := (dC, dI)) (ci := 7) (v := .ref h7) (C := RX7) (T := TX7) (N := 12) hx hb hts in_X7_take_X7 hown hK hP 0 rfl rfl 6 (by decide) (hts (.fieldLink RX7 34 "EachOnHisCue$Play" "sizes" "[I") (by decide +kernel)) (fun _ h9 => h9) rfl dX7_take_95 ?_
          refine lv_iload_n hx hb dX7_take_98 rfl (lv_at hl 0 rfl) ?_
          refine va_iald hx hb hK hP 6 0 rfl rfl (vp_in_nI (show j + 0 < 12 by omega) (by decide)) dX7_take_99 ?_
          refine lv_topi (fun y3 ey3 => ?_)
          obtain rfl : y3 = 0 := ey3.trans (by first | rfl | decide)
          refine va_iast hx hb hK hP hD hS 15 0 rfl rfl (vp_in_nI (show j + 0 < 12 by omega) (by decide)) dX7_take_100 (fun H locs hP hD hS => ?_)
          rw [z_upd0] at hP hD
          have hP : va_P (dC, dI) vwCl [(h1, .inr (7, [.ref h2, .ref h3, .ref h4, .int 0, .ref h5, .ref h6, .ref h7, .ref h8, .int 0, .int 0, .int 10, .ref h9])), (h2, .inl (cQ, 5, .inr (.inr (.inr (.inr (fun _ => none)))))), (h3, .inl (cI, 5, .inl (fun _ => 0))), (h4, .inl (cI, 5, .inl (fun _ => 0))), (h5, .inl (cI, 12, .inl (fun _ => 0))), (h6, .inl (cI, 12, .inl (fun _ => 0))), (h7, .inl (cI, 12, .inl (fun _ => 0))), (h8, .inl (cI, 12, .inl (fun _ => 0))), (h9, .inr (9, [.int 0, .int 0, .int (-9), .int 0, .int 0])), (h0, .inr (7, [.ref h10, .ref h11, .ref h12, .int 0, .ref h13, .ref h14, .ref h15, .ref h16, .int 0, .int 0, .int 10, .ref h17])), (h10, .inl (cQ, 5, .inr (.inr (.inr (.inr (fun _ => none)))))), (h11, .inl (cI, 5, .inl (fun _ => 0))), (h12, .inl (cI, 5, .inl (fun _ => 0))), (h13, .inl (cI, 12, .inl (fun _ => 0))), (h14, .inl (cI, 12, .inl (fun _ => 0))), (h15, .inl (cI, 12, .inl (fun _ => 0))), (h16, .inl (cI, 12, .inl (fun _ => 0))), (h17, .inr (9, [.int 0, .int 0, .int (-9), .int 0, .int 0]))] H := hP
          have hD : va_D A [(h1, .inr (7, [.ref h2, .ref h3, .ref h4, .int 0, .ref h5, .ref h6, .ref h7, .ref h8, .int 0, .int 0, .int 10, .ref h9])), (h2, .inl (cQ, 5, .inr (.inr (.inr (.inr (fun _ => none)))))), (h3, .inl (cI, 5, .inl (fun _ => 0))), (h4, .inl (cI, 5, .inl (fun _ => 0))), (h5, .inl (cI, 12, .inl (fun _ => 0))), (h6, .inl (cI, 12, .inl (fun _ => 0))), (h7, .inl (cI, 12, .inl (fun _ => 0))), (h8, .inl (cI, 12, .inl (fun _ => 0))), (h9, .inr (9, [.int 0, .int 0, .int (-9), .int 0, .int 0])), (h0, .inr (7, [.ref h10, .ref h11, .ref h12, .int 0, .ref h13, .ref h14, .ref h15, .ref h16, .int 0, .int 0, .int 10, .ref h17])), (h10, .inl (cQ, 5, .inr (.inr (.inr (.inr (fun _ => none)))))), (h11, .inl (cI, 5, .inl (fun _ => 0))), (h12, .inl (cI, 5, .inl (fun _ => 0))), (h13, .inl (cI, 12, .inl (fun _ => 0))), (h14, .inl (cI, 12, .inl (fun _ => 0))), (h15, .inl (cI, 12, .inl (fun _ => 0))), (h16, .inl (cI, 12, .inl (fun _ => 0))), (h17, .inr (9, [.int 0, .int 0, .int (-9), .int 0, .int 0]))] := hD
          refine lv_aload_n hx hb dX7_take_101 rfl (lv_at hl 1 rfl) ?_
          refine va_get (D := (dC, dI)) (ci := 7) (v := .ref h16) (C := RX7) (T := TX7) (N := 12) hx hb hts in_X7_take_X7 hown hK hP 9 rfl rfl 7 (by decide) (hts (.fieldLink RX7 37 "EachOnHisCue$Play" "cues" "[I") (by decide +kernel)) (fun _ h9 => h9) rfl dX7_take_102 ?_
          refine lv_iload_n hx hb dX7_take_105 rfl (lv_at hl 0 rfl) ?_
          refine lv_aload_n hx hb dX7_take_106 rfl (lv_at hl 2 rfl) ?_
          refine va_get (D := (dC, dI)) (ci := 7) (v := .ref h8) (C := RX7) (T := TX7) (N := 12) hx hb hts in_X7_take_X7 hown hK hP 0 rfl rfl 7 (by decide) (hts (.fieldLink RX7 37 "EachOnHisCue$Play" "cues" "[I") (by decide +kernel)) (fun _ h9 => h9) rfl dX7_take_107 ?_
          refine lv_iload_n hx hb dX7_take_110 rfl (lv_at hl 0 rfl) ?_
          refine va_iald hx hb hK hP 7 0 rfl rfl (vp_in_nI (show j + 0 < 12 by omega) (by decide)) dX7_take_111 ?_
          refine lv_topi (fun y4 ey4 => ?_)
          obtain rfl : y4 = 0 := ey4.trans (by first | rfl | decide)
          refine va_iast hx hb hK hP hD hS 16 0 rfl rfl (vp_in_nI (show j + 0 < 12 by omega) (by decide)) dX7_take_112 (fun H locs hP hD hS => ?_)
          rw [z_upd0] at hP hD
          have hP : va_P (dC, dI) vwCl [(h1, .inr (7, [.ref h2, .ref h3, .ref h4, .int 0, .ref h5, .ref h6, .ref h7, .ref h8, .int 0, .int 0, .int 10, .ref h9])), (h2, .inl (cQ, 5, .inr (.inr (.inr (.inr (fun _ => none)))))), (h3, .inl (cI, 5, .inl (fun _ => 0))), (h4, .inl (cI, 5, .inl (fun _ => 0))), (h5, .inl (cI, 12, .inl (fun _ => 0))), (h6, .inl (cI, 12, .inl (fun _ => 0))), (h7, .inl (cI, 12, .inl (fun _ => 0))), (h8, .inl (cI, 12, .inl (fun _ => 0))), (h9, .inr (9, [.int 0, .int 0, .int (-9), .int 0, .int 0])), (h0, .inr (7, [.ref h10, .ref h11, .ref h12, .int 0, .ref h13, .ref h14, .ref h15, .ref h16, .int 0, .int 0, .int 10, .ref h17])), (h10, .inl (cQ, 5, .inr (.inr (.inr (.inr (fun _ => none)))))), (h11, .inl (cI, 5, .inl (fun _ => 0))), (h12, .inl (cI, 5, .inl (fun _ => 0))), (h13, .inl (cI, 12, .inl (fun _ => 0))), (h14, .inl (cI, 12, .inl (fun _ => 0))), (h15, .inl (cI, 12, .inl (fun _ => 0))), (h16, .inl (cI, 12, .inl (fun _ => 0))), (h17, .inr (9, [.int 0, .int 0, .int (-9), .int 0, .int 0]))] H := hP
          have hD : va_D A [(h1, .inr (7, [.ref h2, .ref h3, .ref h4, .int 0, .ref h5, .ref h6, .ref h7, .ref h8, .int 0, .int 0, .int 10, .ref h9])), (h2, .inl (cQ, 5, .inr (.inr (.inr (.inr (fun _ => none)))))), (h3, .inl (cI, 5, .inl (fun _ => 0))), (h4, .inl (cI, 5, .inl (fun _ => 0))), (h5, .inl (cI, 12, .inl (fun _ => 0))), (h6, .inl (cI, 12, .inl (fun _ => 0))), (h7, .inl (cI, 12, .inl (fun _ => 0))), (h8, .inl (cI, 12, .inl (fun _ => 0))), (h9, .inr (9, [.int 0, .int 0, .int (-9), .int 0, .int 0])), (h0, .inr (7, [.ref h10, .ref h11, .ref h12, .int 0, .ref h13, .ref h14, .ref h15, .ref h16, .int 0, .int 0, .int 10, .ref h17])), (h10, .inl (cQ, 5, .inr (.inr (.inr (.inr (fun _ => none)))))), (h11, .inl (cI, 5, .inl (fun _ => 0))), (h12, .inl (cI, 5, .inl (fun _ => 0))), (h13, .inl (cI, 12, .inl (fun _ => 0))), (h14, .inl (cI, 12, .inl (fun _ => 0))), (h15, .inl (cI, 12, .inl (fun _ => 0))), (h16, .inl (cI, 12, .inl (fun _ => 0))), (h17, .inr (9, [.int 0, .int 0, .int (-9), .int 0, .int 0]))] := hD
          refine lv_iinc (v := (nI (j + 1))) (lv' := [(2, .int (nI (j + 1))), (0, .ref h0), (1, .ref h1)]) hx hb dX7_take_113 hl (k := 0) rfl (nI_1 _) (by decide) rfl (fun ls hl => ?_)
          refine lv_goto (tgt := 59) hx hb dX7_take_116 (by decide) ?_
          exact ih (j + 1) (by omega) _ _ _ (lv_sub hl [0, 1, 2] rfl) hP hD hS
        | zero =>
          intro j hj H locs ls hl hP hD hS
          obtain rfl : j = 12 := by omega
          have hl : lv_has ls 3 [(2, .int 12), (0, .ref h0), (1, .ref h1)] := hl
          have hP : va_P (dC, dI) vwCl [(h1, .inr (7, [.ref h2, .ref h3, .ref h4, .int 0, .ref h5, .ref h6, .ref h7, .ref h8, .int 0, .int 0, .int 10, .ref h9])), (h2, .inl (cQ, 5, .inr (.inr (.inr (.inr (fun _ => none)))))), (h3, .inl (cI, 5, .inl (fun _ => 0))), (h4, .inl (cI, 5, .inl (fun _ => 0))), (h5, .inl (cI, 12, .inl (fun _ => 0))), (h6, .inl (cI, 12, .inl (fun _ => 0))), (h7, .inl (cI, 12, .inl (fun _ => 0))), (h8, .inl (cI, 12, .inl (fun _ => 0))), (h9, .inr (9, [.int 0, .int 0, .int (-9), .int 0, .int 0])), (h0, .inr (7, [.ref h10, .ref h11, .ref h12, .int 0, .ref h13, .ref h14, .ref h15, .ref h16, .int 0, .int 0, .int 10, .ref h17])), (h10, .inl (cQ, 5, .inr (.inr (.inr (.inr (fun _ => none)))))), (h11, .inl (cI, 5, .inl (fun _ => 0))), (h12, .inl (cI, 5, .inl (fun _ => 0))), (h13, .inl (cI, 12, .inl (fun _ => 0))), (h14, .inl (cI, 12, .inl (fun _ => 0))), (h15, .inl (cI, 12, .inl (fun _ => 0))), (h16, .inl (cI, 12, .inl (fun _ => 0))), (h17, .inr (9, [.int 0, .int 0, .int (-9), .int 0, .int 0]))] H := hP
          have hD : va_D A [(h1, .inr (7, [.ref h2, .ref h3, .ref h4, .int 0, .ref h5, .ref h6, .ref h7, .ref h8, .int 0, .int 0, .int 10, .ref h9])), (h2, .inl (cQ, 5, .inr (.inr (.inr (.inr (fun _ => none)))))), (h3, .inl (cI, 5, .inl (fun _ => 0))), (h4, .inl (cI, 5, .inl (fun _ => 0))), (h5, .inl (cI, 12, .inl (fun _ => 0))), (h6, .inl (cI, 12, .inl (fun _ => 0))), (h7, .inl (cI, 12, .inl (fun _ => 0))), (h8, .inl (cI, 12, .inl (fun _ => 0))), (h9, .inr (9, [.int 0, .int 0, .int (-9), .int 0, .int 0])), (h0, .inr (7, [.ref h10, .ref h11, .ref h12, .int 0, .ref h13, .ref h14, .ref h15, .ref h16, .int 0, .int 0, .int 10, .ref h17])), (h10, .inl (cQ, 5, .inr (.inr (.inr (.inr (fun _ => none)))))), (h11, .inl (cI, 5, .inl (fun _ => 0))), (h12, .inl (cI, 5, .inl (fun _ => 0))), (h13, .inl (cI, 12, .inl (fun _ => 0))), (h14, .inl (cI, 12, .inl (fun _ => 0))), (h15, .inl (cI, 12, .inl (fun _ => 0))), (h16, .inl (cI, 12, .inl (fun _ => 0))), (h17, .inr (9, [.int 0, .int 0, .int (-9), .int 0, .int 0]))] := hD
          refine lv_iload_n hx hb dX7_take_59 rfl (lv_at hl 0 rfl) ?_
          refine lv_bipush (v := 12) hx hb dX7_take_60 (by decide) ?_
          refine lv_icmp_ge (tgt := 119) hx hb dX7_take_62 (by decide) (fun hc => ?_) (fun hc => ?_)
          rotate_left; exact absurd hc (by decide)
          refine lv_aload_n hx hb dX7_take_119 rfl (lv_at hl 1 rfl) ?_
          refine lv_aload_n hx hb dX7_take_120 rfl (lv_at hl 2 rfl) ?_
          refine va_get (D := (dC, dI)) (ci := 7) (v := .int 0) (C := RX7) (T := TX7) (N := 12) hx hb hts in_X7_take_X7 hown hK hP 0 rfl rfl 8 (by decide) (hts (.fieldLink RX7 40 "EachOnHisCue$Play" "killing" "I") (by decide +kernel)) (fun _ h9 => h9) rfl dX7_take_121 ?_
          refine va_put (D := (dC, dI)) (ci := 7) (v := .int 0) (ty := .int) (C := RX7) (T := TX7) (N := 12) hx hb hts in_X7_take_X7 tyX7 tyX7_ok nmX7 hown hK hP hD hS 9 rfl rfl 8 (by decide) (hts (.fieldLink RX7 40 "EachOnHisCue$Play" "killing" "I") (by decide +kernel)) (fun _ h9 => h9) rfl (by decide +kernel) rfl rfl (Nat.le_of_ble_eq_true rfl) dX7_take_124 (fun H locs hP hD hS => ?_)
          have hP : va_P (dC, dI) vwCl [(h1, .inr (7, [.ref h2, .ref h3, .ref h4, .int 0, .ref h5, .ref h6, .ref h7, .ref h8, .int 0, .int 0, .int 10, .ref h9])), (h2, .inl (cQ, 5, .inr (.inr (.inr (.inr (fun _ => none)))))), (h3, .inl (cI, 5, .inl (fun _ => 0))), (h4, .inl (cI, 5, .inl (fun _ => 0))), (h5, .inl (cI, 12, .inl (fun _ => 0))), (h6, .inl (cI, 12, .inl (fun _ => 0))), (h7, .inl (cI, 12, .inl (fun _ => 0))), (h8, .inl (cI, 12, .inl (fun _ => 0))), (h9, .inr (9, [.int 0, .int 0, .int (-9), .int 0, .int 0])), (h0, .inr (7, [.ref h10, .ref h11, .ref h12, .int 0, .ref h13, .ref h14, .ref h15, .ref h16, .int 0, .int 0, .int 10, .ref h17])), (h10, .inl (cQ, 5, .inr (.inr (.inr (.inr (fun _ => none)))))), (h11, .inl (cI, 5, .inl (fun _ => 0))), (h12, .inl (cI, 5, .inl (fun _ => 0))), (h13, .inl (cI, 12, .inl (fun _ => 0))), (h14, .inl (cI, 12, .inl (fun _ => 0))), (h15, .inl (cI, 12, .inl (fun _ => 0))), (h16, .inl (cI, 12, .inl (fun _ => 0))), (h17, .inr (9, [.int 0, .int 0, .int (-9), .int 0, .int 0]))] H := hP
          have hD : va_D A [(h1, .inr (7, [.ref h2, .ref h3, .ref h4, .int 0, .ref h5, .ref h6, .ref h7, .ref h8, .int 0, .int 0, .int 10, .ref h9])), (h2, .inl (cQ, 5, .inr (.inr (.inr (.inr (fun _ => none)))))), (h3, .inl (cI, 5, .inl (fun _ => 0))), (h4, .inl (cI, 5, .inl (fun _ => 0))), (h5, .inl (cI, 12, .inl (fun _ => 0))), (h6, .inl (cI, 12, .inl (fun _ => 0))), (h7, .inl (cI, 12, .inl (fun _ => 0))), (h8, .inl (cI, 12, .inl (fun _ => 0))), (h9, .inr (9, [.int 0, .int 0, .int (-9), .int 0, .int 0])), (h0, .inr (7, [.ref h10, .ref h11, .ref h12, .int 0, .ref h13, .ref h14, .ref h15, .ref h16, .int 0, .int 0, .int 10, .ref h17])), (h10, .inl (cQ, 5, .inr (.inr (.inr (.inr (fun _ => none)))))), (h11, .inl (cI, 5, .inl (fun _ => 0))), (h12, .inl (cI, 5, .inl (fun _ => 0))), (h13, .inl (cI, 12, .inl (fun _ => 0))), (h14, .inl (cI, 12, .inl (fun _ => 0))), (h15, .inl (cI, 12, .inl (fun _ => 0))), (h16, .inl (cI, 12, .inl (fun _ => 0))), (h17, .inr (9, [.int 0, .int 0, .int (-9), .int 0, .int 0]))] := hD
          refine lv_aload_n hx hb dX7_take_127 rfl (lv_at hl 1 rfl) ?_
          refine lv_aload_n hx hb dX7_take_128 rfl (lv_at hl 2 rfl) ?_
          refine va_get (D := (dC, dI)) (ci := 7) (v := .int 0) (C := RX7) (T := TX7) (N := 12) hx hb hts in_X7_take_X7 hown hK hP 0 rfl rfl 9 (by decide) (hts (.fieldLink RX7 43 "EachOnHisCue$Play" "lines" "I") (by decide +kernel)) (fun _ h9 => h9) rfl dX7_take_129 ?_
          refine va_put (D := (dC, dI)) (ci := 7) (v := .int 0) (ty := .int) (C := RX7) (T := TX7) (N := 12) hx hb hts in_X7_take_X7 tyX7 tyX7_ok nmX7 hown hK hP hD hS 9 rfl rfl 9 (by decide) (hts (.fieldLink RX7 43 "EachOnHisCue$Play" "lines" "I") (by decide +kernel)) (fun _ h9 => h9) rfl (by decide +kernel) rfl rfl (Nat.le_of_ble_eq_true rfl) dX7_take_132 (fun H locs hP hD hS => ?_)
          have hP : va_P (dC, dI) vwCl [(h1, .inr (7, [.ref h2, .ref h3, .ref h4, .int 0, .ref h5, .ref h6, .ref h7, .ref h8, .int 0, .int 0, .int 10, .ref h9])), (h2, .inl (cQ, 5, .inr (.inr (.inr (.inr (fun _ => none)))))), (h3, .inl (cI, 5, .inl (fun _ => 0))), (h4, .inl (cI, 5, .inl (fun _ => 0))), (h5, .inl (cI, 12, .inl (fun _ => 0))), (h6, .inl (cI, 12, .inl (fun _ => 0))), (h7, .inl (cI, 12, .inl (fun _ => 0))), (h8, .inl (cI, 12, .inl (fun _ => 0))), (h9, .inr (9, [.int 0, .int 0, .int (-9), .int 0, .int 0])), (h0, .inr (7, [.ref h10, .ref h11, .ref h12, .int 0, .ref h13, .ref h14, .ref h15, .ref h16, .int 0, .int 0, .int 10, .ref h17])), (h10, .inl (cQ, 5, .inr (.inr (.inr (.inr (fun _ => none)))))), (h11, .inl (cI, 5, .inl (fun _ => 0))), (h12, .inl (cI, 5, .inl (fun _ => 0))), (h13, .inl (cI, 12, .inl (fun _ => 0))), (h14, .inl (cI, 12, .inl (fun _ => 0))), (h15, .inl (cI, 12, .inl (fun _ => 0))), (h16, .inl (cI, 12, .inl (fun _ => 0))), (h17, .inr (9, [.int 0, .int 0, .int (-9), .int 0, .int 0]))] H := hP
          have hD : va_D A [(h1, .inr (7, [.ref h2, .ref h3, .ref h4, .int 0, .ref h5, .ref h6, .ref h7, .ref h8, .int 0, .int 0, .int 10, .ref h9])), (h2, .inl (cQ, 5, .inr (.inr (.inr (.inr (fun _ => none)))))), (h3, .inl (cI, 5, .inl (fun _ => 0))), (h4, .inl (cI, 5, .inl (fun _ => 0))), (h5, .inl (cI, 12, .inl (fun _ => 0))), (h6, .inl (cI, 12, .inl (fun _ => 0))), (h7, .inl (cI, 12, .inl (fun _ => 0))), (h8, .inl (cI, 12, .inl (fun _ => 0))), (h9, .inr (9, [.int 0, .int 0, .int (-9), .int 0, .int 0])), (h0, .inr (7, [.ref h10, .ref h11, .ref h12, .int 0, .ref h13, .ref h14, .ref h15, .ref h16, .int 0, .int 0, .int 10, .ref h17])), (h10, .inl (cQ, 5, .inr (.inr (.inr (.inr (fun _ => none)))))), (h11, .inl (cI, 5, .inl (fun _ => 0))), (h12, .inl (cI, 5, .inl (fun _ => 0))), (h13, .inl (cI, 12, .inl (fun _ => 0))), (h14, .inl (cI, 12, .inl (fun _ => 0))), (h15, .inl (cI, 12, .inl (fun _ => 0))), (h16, .inl (cI, 12, .inl (fun _ => 0))), (h17, .inr (9, [.int 0, .int 0, .int (-9), .int 0, .int 0]))] := hD
          refine lv_aload_n hx hb dX7_take_135 rfl (lv_at hl 1 rfl) ?_
          refine lv_aload_n hx hb dX7_take_136 rfl (lv_at hl 2 rfl) ?_
          refine va_get (D := (dC, dI)) (ci := 7) (v := .int 10) (C := RX7) (T := TX7) (N := 12) hx hb hts in_X7_take_X7 hown hK hP 0 rfl rfl 10 (by decide) (hts (.fieldLink RX7 46 "EachOnHisCue$Play" "lost" "I") (by decide +kernel)) (fun _ h9 => h9) rfl dX7_take_137 ?_
          refine va_put (D := (dC, dI)) (ci := 7) (v := .int 10) (ty := .int) (C := RX7) (T := TX7) (N := 12) hx hb hts in_X7_take_X7 tyX7 tyX7_ok nmX7 hown hK hP hD hS 9 rfl rfl 10 (by decide) (hts (.fieldLink RX7 46 "EachOnHisCue$Play" "lost" "I") (by decide +kernel)) (fun _ h9 => h9) rfl (by decide +kernel) rfl rfl (Nat.le_of_ble_eq_true rfl) dX7_take_140 (fun H locs hP hD hS => ?_)
          have hP : va_P (dC, dI) vwCl [(h1, .inr (7, [.ref h2, .ref h3, .ref h4, .int 0, .ref h5, .ref h6, .ref h7, .ref h8, .int 0, .int 0, .int 10, .ref h9])), (h2, .inl (cQ, 5, .inr (.inr (.inr (.inr (fun _ => none)))))), (h3, .inl (cI, 5, .inl (fun _ => 0))), (h4, .inl (cI, 5, .inl (fun _ => 0))), (h5, .inl (cI, 12, .inl (fun _ => 0))), (h6, .inl (cI, 12, .inl (fun _ => 0))), (h7, .inl (cI, 12, .inl (fun _ => 0))), (h8, .inl (cI, 12, .inl (fun _ => 0))), (h9, .inr (9, [.int 0, .int 0, .int (-9), .int 0, .int 0])), (h0, .inr (7, [.ref h10, .ref h11, .ref h12, .int 0, .ref h13, .ref h14, .ref h15, .ref h16, .int 0, .int 0, .int 10, .ref h17])), (h10, .inl (cQ, 5, .inr (.inr (.inr (.inr (fun _ => none)))))), (h11, .inl (cI, 5, .inl (fun _ => 0))), (h12, .inl (cI, 5, .inl (fun _ => 0))), (h13, .inl (cI, 12, .inl (fun _ => 0))), (h14, .inl (cI, 12, .inl (fun _ => 0))), (h15, .inl (cI, 12, .inl (fun _ => 0))), (h16, .inl (cI, 12, .inl (fun _ => 0))), (h17, .inr (9, [.int 0, .int 0, .int (-9), .int 0, .int 0]))] H := hP
          have hD : va_D A [(h1, .inr (7, [.ref h2, .ref h3, .ref h4, .int 0, .ref h5, .ref h6, .ref h7, .ref h8, .int 0, .int 0, .int 10, .ref h9])), (h2, .inl (cQ, 5, .inr (.inr (.inr (.inr (fun _ => none)))))), (h3, .inl (cI, 5, .inl (fun _ => 0))), (h4, .inl (cI, 5, .inl (fun _ => 0))), (h5, .inl (cI, 12, .inl (fun _ => 0))), (h6, .inl (cI, 12, .inl (fun _ => 0))), (h7, .inl (cI, 12, .inl (fun _ => 0))), (h8, .inl (cI, 12, .inl (fun _ => 0))), (h9, .inr (9, [.int 0, .int 0, .int (-9), .int 0, .int 0])), (h0, .inr (7, [.ref h10, .ref h11, .ref h12, .int 0, .ref h13, .ref h14, .ref h15, .ref h16, .int 0, .int 0, .int 10, .ref h17])), (h10, .inl (cQ, 5, .inr (.inr (.inr (.inr (fun _ => none)))))), (h11, .inl (cI, 5, .inl (fun _ => 0))), (h12, .inl (cI, 5, .inl (fun _ => 0))), (h13, .inl (cI, 12, .inl (fun _ => 0))), (h14, .inl (cI, 12, .inl (fun _ => 0))), (h15, .inl (cI, 12, .inl (fun _ => 0))), (h16, .inl (cI, 12, .inl (fun _ => 0))), (h17, .inr (9, [.int 0, .int 0, .int (-9), .int 0, .int 0]))] := hD
          refine lv_aload_n hx hb dX7_take_143 rfl (lv_at hl 1 rfl) ?_
          refine va_get (D := (dC, dI)) (ci := 7) (v := .ref h17) (C := RX7) (T := TX7) (N := 12) hx hb hts in_X7_take_X7 hown hK hP 9 rfl rfl 11 (by decide) (hts (.fieldLink RX7 52 "EachOnHisCue$Play" "now" "LEachOnHisCue$Saying;") (by decide +kernel)) (fun _ h9 => h9) rfl dX7_take_144 ?_
          refine lv_aload_n hx hb dX7_take_147 rfl (lv_at hl 2 rfl) ?_
          refine va_get (D := (dC, dI)) (ci := 7) (v := .ref h9) (C := RX7) (T := TX7) (N := 12) hx hb hts in_X7_take_X7 hown hK hP 0 rfl rfl 11 (by decide) (hts (.fieldLink RX7 52 "EachOnHisCue$Play" "now" "LEachOnHisCue$Saying;") (by decide +kernel)) (fun _ h9 => h9) rfl dX7_take_148 ?_
          refine z_callv (wc := [(h9, .inr (9, [.int 0, .int 0, .int (-9), .int 0, .int 0])), (h17, .inr (9, [.int 0, .int 0, .int (-9), .int 0, .int 0]))]) (wr := [(h1, .inr (7, [.ref h2, .ref h3, .ref h4, .int 0, .ref h5, .ref h6, .ref h7, .ref h8, .int 0, .int 0, .int 10, .ref h9])), (h2, .inl (cQ, 5, .inr (.inr (.inr (.inr (fun _ => none)))))), (h3, .inl (cI, 5, .inl (fun _ => 0))), (h4, .inl (cI, 5, .inl (fun _ => 0))), (h5, .inl (cI, 12, .inl (fun _ => 0))), (h6, .inl (cI, 12, .inl (fun _ => 0))), (h7, .inl (cI, 12, .inl (fun _ => 0))), (h8, .inl (cI, 12, .inl (fun _ => 0))), (h0, .inr (7, [.ref h10, .ref h11, .ref h12, .int 0, .ref h13, .ref h14, .ref h15, .ref h16, .int 0, .int 0, .int 10, .ref h17])), (h10, .inl (cQ, 5, .inr (.inr (.inr (.inr (fun _ => none)))))), (h11, .inl (cI, 5, .inl (fun _ => 0))), (h12, .inl (cI, 5, .inl (fun _ => 0))), (h13, .inl (cI, 12, .inl (fun _ => 0))), (h14, .inl (cI, 12, .inl (fun _ => 0))), (h15, .inl (cI, 12, .inl (fun _ => 0))), (h16, .inl (cI, 12, .inl (fun _ => 0)))]) (w1 := (fun _ => [(h9, .inr (9, [.int 0, .int 0, .int (-9), .int 0, .int 0])), (h17, .inr (9, [.int 0, .int 0, .int (-9), .int 0, .int 0]))])) (va_runV (As := [.ref h9]) (rest := []) ⟨hx, hb, hml, hown, hts⟩ (kX9_take l dC dI cI cQ h17 h9 H.size) (cwV 1 hts gv_X7_take_X9_take_116 rfl rfl rfl (by decide +kernel) ⟨Nat.le_of_ble_eq_true rfl, Nat.le_of_ble_eq_true rfl⟩) ⟨z_blind, va_recv hK hP (ci := 9) (q0 := 17) rfl rfl, z_pre hZ hP hD [8, 17] rfl (by decide)⟩ rfl rfl hl.1 rfl (lv_room (Nat.le_of_ble_eq_true rfl)) dX7_take_151 ⟨Nat.le_of_ble_eq_true rfl, Nat.le_of_ble_eq_true rfl⟩) hP hD hS hA [8, 17] [0, 1, 2, 3, 4, 5, 6, 7, 9, 10, 11, 12, 13, 14, 15, 16] rfl rfl (by decide) (by decide) (fun _ H locs hP hD hS => ?_)
          have hP : va_P (dC, dI) vwCl [(h1, .inr (7, [.ref h2, .ref h3, .ref h4, .int 0, .ref h5, .ref h6, .ref h7, .ref h8, .int 0, .int 0, .int 10, .ref h9])), (h2, .inl (cQ, 5, .inr (.inr (.inr (.inr (fun _ => none)))))), (h3, .inl (cI, 5, .inl (fun _ => 0))), (h4, .inl (cI, 5, .inl (fun _ => 0))), (h5, .inl (cI, 12, .inl (fun _ => 0))), (h6, .inl (cI, 12, .inl (fun _ => 0))), (h7, .inl (cI, 12, .inl (fun _ => 0))), (h8, .inl (cI, 12, .inl (fun _ => 0))), (h0, .inr (7, [.ref h10, .ref h11, .ref h12, .int 0, .ref h13, .ref h14, .ref h15, .ref h16, .int 0, .int 0, .int 10, .ref h17])), (h10, .inl (cQ, 5, .inr (.inr (.inr (.inr (fun _ => none)))))), (h11, .inl (cI, 5, .inl (fun _ => 0))), (h12, .inl (cI, 5, .inl (fun _ => 0))), (h13, .inl (cI, 12, .inl (fun _ => 0))), (h14, .inl (cI, 12, .inl (fun _ => 0))), (h15, .inl (cI, 12, .inl (fun _ => 0))), (h16, .inl (cI, 12, .inl (fun _ => 0))), (h9, .inr (9, [.int 0, .int 0, .int (-9), .int 0, .int 0])), (h17, .inr (9, [.int 0, .int 0, .int (-9), .int 0, .int 0]))] H := hP
          have hD : va_D A [(h1, .inr (7, [.ref h2, .ref h3, .ref h4, .int 0, .ref h5, .ref h6, .ref h7, .ref h8, .int 0, .int 0, .int 10, .ref h9])), (h2, .inl (cQ, 5, .inr (.inr (.inr (.inr (fun _ => none)))))), (h3, .inl (cI, 5, .inl (fun _ => 0))), (h4, .inl (cI, 5, .inl (fun _ => 0))), (h5, .inl (cI, 12, .inl (fun _ => 0))), (h6, .inl (cI, 12, .inl (fun _ => 0))), (h7, .inl (cI, 12, .inl (fun _ => 0))), (h8, .inl (cI, 12, .inl (fun _ => 0))), (h0, .inr (7, [.ref h10, .ref h11, .ref h12, .int 0, .ref h13, .ref h14, .ref h15, .ref h16, .int 0, .int 0, .int 10, .ref h17])), (h10, .inl (cQ, 5, .inr (.inr (.inr (.inr (fun _ => none)))))), (h11, .inl (cI, 5, .inl (fun _ => 0))), (h12, .inl (cI, 5, .inl (fun _ => 0))), (h13, .inl (cI, 12, .inl (fun _ => 0))), (h14, .inl (cI, 12, .inl (fun _ => 0))), (h15, .inl (cI, 12, .inl (fun _ => 0))), (h16, .inl (cI, 12, .inl (fun _ => 0))), (h9, .inr (9, [.int 0, .int 0, .int (-9), .int 0, .int 0])), (h17, .inr (9, [.int 0, .int 0, .int (-9), .int 0, .int 0]))] := hD
          have hP9 := hP.sub (ws' := [(h1, .inr (7, [.ref h2, .ref h3, .ref h4, .int 0, .ref h5, .ref h6, .ref h7, .ref h8, .int 0, .int 0, .int 10, .ref h9])), (h2, .inl (cQ, 5, .inr (.inr (.inr (.inr (fun _ => none)))))), (h3, .inl (cI, 5, .inl (fun _ => 0))), (h4, .inl (cI, 5, .inl (fun _ => 0))), (h5, .inl (cI, 12, .inl (fun _ => 0))), (h6, .inl (cI, 12, .inl (fun _ => 0))), (h7, .inl (cI, 12, .inl (fun _ => 0))), (h8, .inl (cI, 12, .inl (fun _ => 0))), (h9, .inr (9, [.int 0, .int 0, .int (-9), .int 0, .int 0])), (h0, .inr (7, [.ref h10, .ref h11, .ref h12, .int 0, .ref h13, .ref h14, .ref h15, .ref h16, .int 0, .int 0, .int 10, .ref h17])), (h10, .inl (cQ, 5, .inr (.inr (.inr (.inr (fun _ => none)))))), (h11, .inl (cI, 5, .inl (fun _ => 0))), (h12, .inl (cI, 5, .inl (fun _ => 0))), (h13, .inl (cI, 12, .inl (fun _ => 0))), (h14, .inl (cI, 12, .inl (fun _ => 0))), (h15, .inl (cI, 12, .inl (fun _ => 0))), (h16, .inl (cI, 12, .inl (fun _ => 0))), (h17, .inr (9, [.int 0, .int 0, .int (-9), .int 0, .int 0]))]) [0, 1, 2, 3, 4, 5, 6, 7, 16, 8, 9, 10, 11, 12, 13, 14, 15, 17] rfl
          have hD9 := hD.sub (ws' := [(h1, .inr (7, [.ref h2, .ref h3, .ref h4, .int 0, .ref h5, .ref h6, .ref h7, .ref h8, .int 0, .int 0, .int 10, .ref h9])), (h2, .inl (cQ, 5, .inr (.inr (.inr (.inr (fun _ => none)))))), (h3, .inl (cI, 5, .inl (fun _ => 0))), (h4, .inl (cI, 5, .inl (fun _ => 0))), (h5, .inl (cI, 12, .inl (fun _ => 0))), (h6, .inl (cI, 12, .inl (fun _ => 0))), (h7, .inl (cI, 12, .inl (fun _ => 0))), (h8, .inl (cI, 12, .inl (fun _ => 0))), (h9, .inr (9, [.int 0, .int 0, .int (-9), .int 0, .int 0])), (h0, .inr (7, [.ref h10, .ref h11, .ref h12, .int 0, .ref h13, .ref h14, .ref h15, .ref h16, .int 0, .int 0, .int 10, .ref h17])), (h10, .inl (cQ, 5, .inr (.inr (.inr (.inr (fun _ => none)))))), (h11, .inl (cI, 5, .inl (fun _ => 0))), (h12, .inl (cI, 5, .inl (fun _ => 0))), (h13, .inl (cI, 12, .inl (fun _ => 0))), (h14, .inl (cI, 12, .inl (fun _ => 0))), (h15, .inl (cI, 12, .inl (fun _ => 0))), (h16, .inl (cI, 12, .inl (fun _ => 0))), (h17, .inr (9, [.int 0, .int 0, .int (-9), .int 0, .int 0]))]) [0, 1, 2, 3, 4, 5, 6, 7, 16, 8, 9, 10, 11, 12, 13, 14, 15, 17] (by decide) rfl
          exact W.vret hx hb hr (fun t ht hW => ⟨⟨(fun k => [].getD k 0), rfl, trivial, by rw [ht]; exact hP9, hD9⟩, hS.F ht⟩) hS.2.2 dX7_take_154
      exact hloop 12 0 rfl _ _ _ hl hP hD hS
  exact hloop 5 0 rfl _ _ _ hl hP hD hS
set_option maxHeartbeats 4000000 in
set_option maxRecDepth 100000 in
theorem kX11_image (l : Launch) (dC : Nat → ClassId) (dI : Nat → Nat → Nat) (cI cQ : ClassId) (h0 h1 h2 h3 h4 h5 h6 h7 h8 h9 h10 h11 h12 h13 h14 h15 h16 h17 h18 h19 h20 h21 h22 h23 : Nat) (sz : Nat) : Met l yX11_image vsX11_image ({ frames := 2, cells := 0, slots := 0, locals := 43 }) (va_Pc [.ref h0] (zB dC dI cI cQ [(h0, .inr (11, [.ref h1, .ref h10, .int 0, .ref h19, .ref h20, .ref h21, .ref h22, .int 0, .ref h23])), (h1, .inr (7, [.ref h2, .ref h3, .ref h4, .int 0, .ref h5, .ref h6, .ref h7, .ref h8, .int 0, .int 0, .int 10, .ref h9])), (h2, .inl (cQ, 5, .inr (.inr (.inr (.inr (fun _ => none)))))), (h3, .inl (cI, 5, .inl (fun _ => 0))), (h4, .inl (cI, 5, .inl (fun _ => 0))), (h5, .inl (cI, 12, .inl (fun _ => 0))), (h6, .inl (cI, 12, .inl (fun _ => 0))), (h7, .inl (cI, 12, .inl (fun _ => 0))), (h8, .inl (cI, 12, .inl (fun _ => 0))), (h9, .inr (9, [.int 0, .int 0, .int (-9), .int 0, .int 0])), (h10, .inr (7, [.ref h11, .ref h12, .ref h13, .int 0, .ref h14, .ref h15, .ref h16, .ref h17, .int 0, .int 0, .int 10, .ref h18])), (h11, .inl (cQ, 5, .inr (.inr (.inr (.inr (fun _ => none)))))), (h12, .inl (cI, 5, .inl (fun _ => 0))), (h13, .inl (cI, 5, .inl (fun _ => 0))), (h14, .inl (cI, 12, .inl (fun _ => 0))), (h15, .inl (cI, 12, .inl (fun _ => 0))), (h16, .inl (cI, 12, .inl (fun _ => 0))), (h17, .inl (cI, 12, .inl (fun _ => 0))), (h18, .inr (9, [.int 0, .int 0, .int (-9), .int 0, .int 0]))] sz)) (zQi dC dI (va_A [(h0, .inr (11, [.ref h1, .ref h10, .int 0, .ref h19, .ref h20, .ref h21, .ref h22, .int 0, .ref h23])), (h1, .inr (7, [.ref h2, .ref h3, .ref h4, .int 0, .ref h5, .ref h6, .ref h7, .ref h8, .int 0, .int 0, .int 10, .ref h9])), (h2, .inl (cQ, 5, .inr (.inr (.inr (.inr (fun _ => none)))))), (h3, .inl (cI, 5, .inl (fun _ => 0))), (h4, .inl (cI, 5, .inl (fun _ => 0))), (h5, .inl (cI, 12, .inl (fun _ => 0))), (h6, .inl (cI, 12, .inl (fun _ => 0))), (h7, .inl (cI, 12, .inl (fun _ => 0))), (h8, .inl (cI, 12, .inl (fun _ => 0))), (h9, .inr (9, [.int 0, .int 0, .int (-9), .int 0, .int 0])), (h10, .inr (7, [.ref h11, .ref h12, .ref h13, .int 0, .ref h14, .ref h15, .ref h16, .ref h17, .int 0, .int 0, .int 10, .ref h18])), (h11, .inl (cQ, 5, .inr (.inr (.inr (.inr (fun _ => none)))))), (h12, .inl (cI, 5, .inl (fun _ => 0))), (h13, .inl (cI, 5, .inl (fun _ => 0))), (h14, .inl (cI, 12, .inl (fun _ => 0))), (h15, .inl (cI, 12, .inl (fun _ => 0))), (h16, .inl (cI, 12, .inl (fun _ => 0))), (h17, .inl (cI, 12, .inl (fun _ => 0))), (h18, .inr (9, [.int 0, .int 0, .int (-9), .int 0, .int 0]))] sz) (fun ad => []) 0) 0 0 (va_A [(h0, .inr (11, [.ref h1, .ref h10, .int 0, .ref h19, .ref h20, .ref h21, .ref h22, .int 0, .ref h23])), (h1, .inr (7, [.ref h2, .ref h3, .ref h4, .int 0, .ref h5, .ref h6, .ref h7, .ref h8, .int 0, .int 0, .int 10, .ref h9])), (h2, .inl (cQ, 5, .inr (.inr (.inr (.inr (fun _ => none)))))), (h3, .inl (cI, 5, .inl (fun _ => 0))), (h4, .inl (cI, 5, .inl (fun _ => 0))), (h5, .inl (cI, 12, .inl (fun _ => 0))), (h6, .inl (cI, 12, .inl (fun _ => 0))), (h7, .inl (cI, 12, .inl (fun _ => 0))), (h8, .inl (cI, 12, .inl (fun _ => 0))), (h9, .inr (9, [.int 0, .int 0, .int (-9), .int 0, .int 0])), (h10, .inr (7, [.ref h11, .ref h12, .ref h13, .int 0, .ref h14, .ref h15, .ref h16, .ref h17, .int 0, .int 0, .int 10, .ref h18])), (h11, .inl (cQ, 5, .inr (.inr (.inr (.inr (fun _ => none)))))), (h12, .inl (cI, 5, .inl (fun _ => 0))), (h13, .inl (cI, 5, .inl (fun _ => 0))), (h14, .inl (cI, 12, .inl (fun _ => 0))), (h15, .inl (cI, 12, .inl (fun _ => 0))), (h16, .inl (cI, 12, .inl (fun _ => 0))), (h17, .inl (cI, 12, .inl (fun _ => 0))), (h18, .inr (9, [.int 0, .int 0, .int (-9), .int 0, .int 0]))] sz) := by
  refine Met.ofW (cc := cX11_image) (maxL := 1) (ret := (some .int)) (by decide) rfl ?_
  intro p e s m args below meth c s₁ B hml hv
  obtain ⟨rfl, hsz, hP, hZ, hD0⟩ := hv
  obtain ⟨hK, hAO, hN⟩ := id hZ
  have hx := B.exec
  have hb := B.bytes
  have hr := B.returns
  have hts := atoms_spec (ws := vsX11_image) B.pre
  have hown : s.vm.findClass RX11 = some m.cls := findClass_of_methodNamed B.named
  have hlocks := B.notSynchronized
  subst hsz
  have hD := hD0.self (sz := s.heap.size)
  generalize hAe : va_A [(h0, .inr (11, [.ref h1, .ref h10, .int 0, .ref h19, .ref h20, .ref h21, .ref h22, .int 0, .ref h23])), (h1, .inr (7, [.ref h2, .ref h3, .ref h4, .int 0, .ref h5, .ref h6, .ref h7, .ref h8, .int 0, .int 0, .int 10, .ref h9])), (h2, .inl (cQ, 5, .inr (.inr (.inr (.inr (fun _ => none)))))), (h3, .inl (cI, 5, .inl (fun _ => 0))), (h4, .inl (cI, 5, .inl (fun _ => 0))), (h5, .inl (cI, 12, .inl (fun _ => 0))), (h6, .inl (cI, 12, .inl (fun _ => 0))), (h7, .inl (cI, 12, .inl (fun _ => 0))), (h8, .inl (cI, 12, .inl (fun _ => 0))), (h9, .inr (9, [.int 0, .int 0, .int (-9), .int 0, .int 0])), (h10, .inr (7, [.ref h11, .ref h12, .ref h13, .int 0, .ref h14, .ref h15, .ref h16, .ref h17, .int 0, .int 0, .int 10, .ref h18])), (h11, .inl (cQ, 5, .inr (.inr (.inr (.inr (fun _ => none)))))), (h12, .inl (cI, 5, .inl (fun _ => 0))), (h13, .inl (cI, 5, .inl (fun _ => 0))), (h14, .inl (cI, 12, .inl (fun _ => 0))), (h15, .inl (cI, 12, .inl (fun _ => 0))), (h16, .inl (cI, 12, .inl (fun _ => 0))), (h17, .inl (cI, 12, .inl (fun _ => 0))), (h18, .inr (9, [.int 0, .int 0, .int (-9), .int 0, .int 0]))] s.heap.size = A at hD ⊢
  have hA : ∀ q : Nat, s.heap.size ≤ q → A q := fun q h => by rw [← hAe]; exact Or.inr h
  have hS : va_S A s.heap s.heap [] := va_S.rf
  have hP : va_P (dC, dI) vwCl [(h0, .inr (11, [.ref h1, .ref h10, .int 0, .ref h19, .ref h20, .ref h21, .ref h22, .int 0, .ref h23])), (h1, .inr (7, [.ref h2, .ref h3, .ref h4, .int 0, .ref h5, .ref h6, .ref h7, .ref h8, .int 0, .int 0, .int 10, .ref h9])), (h2, .inl (cQ, 5, .inr (.inr (.inr (.inr (fun _ => none)))))), (h3, .inl (cI, 5, .inl (fun _ => 0))), (h4, .inl (cI, 5, .inl (fun _ => 0))), (h5, .inl (cI, 12, .inl (fun _ => 0))), (h6, .inl (cI, 12, .inl (fun _ => 0))), (h7, .inl (cI, 12, .inl (fun _ => 0))), (h8, .inl (cI, 12, .inl (fun _ => 0))), (h9, .inr (9, [.int 0, .int 0, .int (-9), .int 0, .int 0])), (h10, .inr (7, [.ref h11, .ref h12, .ref h13, .int 0, .ref h14, .ref h15, .ref h16, .ref h17, .int 0, .int 0, .int 10, .ref h18])), (h11, .inl (cQ, 5, .inr (.inr (.inr (.inr (fun _ => none)))))), (h12, .inl (cI, 5, .inl (fun _ => 0))), (h13, .inl (cI, 5, .inl (fun _ => 0))), (h14, .inl (cI, 12, .inl (fun _ => 0))), (h15, .inl (cI, 12, .inl (fun _ => 0))), (h16, .inl (cI, 12, .inl (fun _ => 0))), (h17, .inl (cI, 12, .inl (fun _ => 0))), (h18, .inr (9, [.int 0, .int 0, .int (-9), .int 0, .int 0]))] s.heap := hP
  have hl := lv_entry ([.ref h0]) (n := 1) (Nat.le_of_ble_eq_true rfl)
  rw [lg_entry_eq]
  generalize (lg_sl ([.ref h0]) ++ List.replicate (1 - (lg_sl ([.ref h0])).length) Slot.unset).toArray = ls at hl ⊢
  have hl : lv_has ls 1 [(0, .ref h0)] := hl
  refine lv_aload_n hx hb dX11_image_0 rfl (lv_at hl 0 rfl) ?_
  refine va_get (D := (dC, dI)) (ci := 11) (v := .ref h10) (C := RX11) (T := TX11) (N := 9) hx hb hts in_X11_image_X11 hown hK hP 0 rfl rfl 1 (by decide) (hts (.fieldLink RX11 16 "EachOnHisCue" "imaged" "LEachOnHisCue$Play;") (by decide +kernel)) (fun _ h9 => h9) rfl dX11_image_1 ?_
  refine lv_aload_n hx hb dX11_image_4 rfl (lv_at hl 0 rfl) ?_
  refine va_get (D := (dC, dI)) (ci := 11) (v := .ref h1) (C := RX11) (T := TX11) (N := 9) hx hb hts in_X11_image_X11 hown hK hP 0 rfl rfl 0 (by decide) (hts (.fieldLink RX11 10 "EachOnHisCue" "play" "LEachOnHisCue$Play;") (by decide +kernel)) (fun _ h9 => h9) rfl dX11_image_5 ?_
  refine z_callv (wc := [(h1, .inr (7, [.ref h2, .ref h3, .ref h4, .int 0, .ref h5, .ref h6, .ref h7, .ref h8, .int 0, .int 0, .int 10, .ref h9])), (h2, .inl (cQ, 5, .inr (.inr (.inr (.inr (fun _ => none)))))), (h3, .inl (cI, 5, .inl (fun _ => 0))), (h4, .inl (cI, 5, .inl (fun _ => 0))), (h5, .inl (cI, 12, .inl (fun _ => 0))), (h6, .inl (cI, 12, .inl (fun _ => 0))), (h7, .inl (cI, 12, .inl (fun _ => 0))), (h8, .inl (cI, 12, .inl (fun _ => 0))), (h9, .inr (9, [.int 0, .int 0, .int (-9), .int 0, .int 0])), (h10, .inr (7, [.ref h11, .ref h12, .ref h13, .int 0, .ref h14, .ref h15, .ref h16, .ref h17, .int 0, .int 0, .int 10, .ref h18])), (h11, .inl (cQ, 5, .inr (.inr (.inr (.inr (fun _ => none)))))), (h12, .inl (cI, 5, .inl (fun _ => 0))), (h13, .inl (cI, 5, .inl (fun _ => 0))), (h14, .inl (cI, 12, .inl (fun _ => 0))), (h15, .inl (cI, 12, .inl (fun _ => 0))), (h16, .inl (cI, 12, .inl (fun _ => 0))), (h17, .inl (cI, 12, .inl (fun _ => 0))), (h18, .inr (9, [.int 0, .int 0, .int (-9), .int 0, .int 0]))]) (wr := [(h0, .inr (11, [.ref h1, .ref h10, .int 0, .ref h19, .ref h20, .ref h21, .ref h22, .int 0, .ref h23]))]) (w1 := (fun _ => [(h1, .inr (7, [.ref h2, .ref h3, .ref h4, .int 0, .ref h5, .ref h6, .ref h7, .ref h8, .int 0, .int 0, .int 10, .ref h9])), (h2, .inl (cQ, 5, .inr (.inr (.inr (.inr (fun _ => none)))))), (h3, .inl (cI, 5, .inl (fun _ => 0))), (h4, .inl (cI, 5, .inl (fun _ => 0))), (h5, .inl (cI, 12, .inl (fun _ => 0))), (h6, .inl (cI, 12, .inl (fun _ => 0))), (h7, .inl (cI, 12, .inl (fun _ => 0))), (h8, .inl (cI, 12, .inl (fun _ => 0))), (h9, .inr (9, [.int 0, .int 0, .int (-9), .int 0, .int 0])), (h10, .inr (7, [.ref h11, .ref h12, .ref h13, .int 0, .ref h14, .ref h15, .ref h16, .ref h17, .int 0, .int 0, .int 10, .ref h18])), (h11, .inl (cQ, 5, .inr (.inr (.inr (.inr (fun _ => none)))))), (h12, .inl (cI, 5, .inl (fun _ => 0))), (h13, .inl (cI, 5, .inl (fun _ => 0))), (h14, .inl (cI, 12, .inl (fun _ => 0))), (h15, .inl (cI, 12, .inl (fun _ => 0))), (h16, .inl (cI, 12, .inl (fun _ => 0))), (h17, .inl (cI, 12, .inl (fun _ => 0))), (h18, .inr (9, [.int 0, .int 0, .int (-9), .int 0, .int 0]))])) (va_runV (As := [.ref h1]) (rest := []) ⟨hx, hb, hml, hown, hts⟩ (kX7_take l dC dI cI cQ h10 h1 h2 h3 h4 h5 h6 h7 h8 h9 h11 h12 h13 h14 h15 h16 h17 h18 s.heap.size) (cwV 1 hts gv_X11_image_X7_take_238 rfl rfl rfl (by decide +kernel) ⟨Nat.le_of_ble_eq_true rfl, Nat.le_of_ble_eq_true rfl⟩) ⟨z_blind, va_recv hK hP (ci := 7) (q0 := 10) rfl rfl, z_pre hZ hP hD [1, 2, 3, 4, 5, 6, 7, 8, 9, 10, 11, 12, 13, 14, 15, 16, 17, 18] rfl (by decide)⟩ rfl rfl hl.1 rfl (lv_room (Nat.le_of_ble_eq_true rfl)) dX11_image_8 ⟨Nat.le_of_ble_eq_true rfl, Nat.le_of_ble_eq_true rfl⟩) hP hD hS hA [1, 2, 3, 4, 5, 6, 7, 8, 9, 10, 11, 12, 13, 14, 15, 16, 17, 18] [0] rfl rfl (by decide) (by decide) (fun _ H locs hP hD hS => ?_)
  have hP : va_P (dC, dI) vwCl [(h0, .inr (11, [.ref h1, .ref h10, .int 0, .ref h19, .ref h20, .ref h21, .ref h22, .int 0, .ref h23])), (h1, .inr (7, [.ref h2, .ref h3, .ref h4, .int 0, .ref h5, .ref h6, .ref h7, .ref h8, .int 0, .int 0, .int 10, .ref h9])), (h2, .inl (cQ, 5, .inr (.inr (.inr (.inr (fun _ => none)))))), (h3, .inl (cI, 5, .inl (fun _ => 0))), (h4, .inl (cI, 5, .inl (fun _ => 0))), (h5, .inl (cI, 12, .inl (fun _ => 0))), (h6, .inl (cI, 12, .inl (fun _ => 0))), (h7, .inl (cI, 12, .inl (fun _ => 0))), (h8, .inl (cI, 12, .inl (fun _ => 0))), (h9, .inr (9, [.int 0, .int 0, .int (-9), .int 0, .int 0])), (h10, .inr (7, [.ref h11, .ref h12, .ref h13, .int 0, .ref h14, .ref h15, .ref h16, .ref h17, .int 0, .int 0, .int 10, .ref h18])), (h11, .inl (cQ, 5, .inr (.inr (.inr (.inr (fun _ => none)))))), (h12, .inl (cI, 5, .inl (fun _ => 0))), (h13, .inl (cI, 5, .inl (fun _ => 0))), (h14, .inl (cI, 12, .inl (fun _ => 0))), (h15, .inl (cI, 12, .inl (fun _ => 0))), (h16, .inl (cI, 12, .inl (fun _ => 0))), (h17, .inl (cI, 12, .inl (fun _ => 0))), (h18, .inr (9, [.int 0, .int 0, .int (-9), .int 0, .int 0]))] H := hP
  have hD : va_D A [(h0, .inr (11, [.ref h1, .ref h10, .int 0, .ref h19, .ref h20, .ref h21, .ref h22, .int 0, .ref h23])), (h1, .inr (7, [.ref h2, .ref h3, .ref h4, .int 0, .ref h5, .ref h6, .ref h7, .ref h8, .int 0, .int 0, .int 10, .ref h9])), (h2, .inl (cQ, 5, .inr (.inr (.inr (.inr (fun _ => none)))))), (h3, .inl (cI, 5, .inl (fun _ => 0))), (h4, .inl (cI, 5, .inl (fun _ => 0))), (h5, .inl (cI, 12, .inl (fun _ => 0))), (h6, .inl (cI, 12, .inl (fun _ => 0))), (h7, .inl (cI, 12, .inl (fun _ => 0))), (h8, .inl (cI, 12, .inl (fun _ => 0))), (h9, .inr (9, [.int 0, .int 0, .int (-9), .int 0, .int 0])), (h10, .inr (7, [.ref h11, .ref h12, .ref h13, .int 0, .ref h14, .ref h15, .ref h16, .ref h17, .int 0, .int 0, .int 10, .ref h18])), (h11, .inl (cQ, 5, .inr (.inr (.inr (.inr (fun _ => none)))))), (h12, .inl (cI, 5, .inl (fun _ => 0))), (h13, .inl (cI, 5, .inl (fun _ => 0))), (h14, .inl (cI, 12, .inl (fun _ => 0))), (h15, .inl (cI, 12, .inl (fun _ => 0))), (h16, .inl (cI, 12, .inl (fun _ => 0))), (h17, .inl (cI, 12, .inl (fun _ => 0))), (h18, .inr (9, [.int 0, .int 0, .int (-9), .int 0, .int 0]))] := hD
  refine lv_aload_n hx hb dX11_image_11 rfl (lv_at hl 0 rfl) ?_
  refine lv_iconst (v := 1) hx hb dX11_image_12 (by decide) ?_
  refine va_put (D := (dC, dI)) (ci := 11) (v := .int 1) (ty := .boolean) (C := RX11) (T := TX11) (N := 9) hx hb hts in_X11_image_X11 tyX11 tyX11_ok nmX11 hown hK hP hD hS 0 rfl rfl 2 (by decide) (hts (.fieldLink RX11 19 "EachOnHisCue" "hasImage" "Z") (by decide +kernel)) (fun _ h9 => h9) rfl (by decide +kernel) rfl rfl (Nat.le_of_ble_eq_true rfl) dX11_image_13 (fun H locs hP hD hS => ?_)
  have hP : va_P (dC, dI) vwCl [(h0, .inr (11, [.ref h1, .ref h10, .int 1, .ref h19, .ref h20, .ref h21, .ref h22, .int 0, .ref h23])), (h1, .inr (7, [.ref h2, .ref h3, .ref h4, .int 0, .ref h5, .ref h6, .ref h7, .ref h8, .int 0, .int 0, .int 10, .ref h9])), (h2, .inl (cQ, 5, .inr (.inr (.inr (.inr (fun _ => none)))))), (h3, .inl (cI, 5, .inl (fun _ => 0))), (h4, .inl (cI, 5, .inl (fun _ => 0))), (h5, .inl (cI, 12, .inl (fun _ => 0))), (h6, .inl (cI, 12, .inl (fun _ => 0))), (h7, .inl (cI, 12, .inl (fun _ => 0))), (h8, .inl (cI, 12, .inl (fun _ => 0))), (h9, .inr (9, [.int 0, .int 0, .int (-9), .int 0, .int 0])), (h10, .inr (7, [.ref h11, .ref h12, .ref h13, .int 0, .ref h14, .ref h15, .ref h16, .ref h17, .int 0, .int 0, .int 10, .ref h18])), (h11, .inl (cQ, 5, .inr (.inr (.inr (.inr (fun _ => none)))))), (h12, .inl (cI, 5, .inl (fun _ => 0))), (h13, .inl (cI, 5, .inl (fun _ => 0))), (h14, .inl (cI, 12, .inl (fun _ => 0))), (h15, .inl (cI, 12, .inl (fun _ => 0))), (h16, .inl (cI, 12, .inl (fun _ => 0))), (h17, .inl (cI, 12, .inl (fun _ => 0))), (h18, .inr (9, [.int 0, .int 0, .int (-9), .int 0, .int 0]))] H := hP
  have hD : va_D A [(h0, .inr (11, [.ref h1, .ref h10, .int 1, .ref h19, .ref h20, .ref h21, .ref h22, .int 0, .ref h23])), (h1, .inr (7, [.ref h2, .ref h3, .ref h4, .int 0, .ref h5, .ref h6, .ref h7, .ref h8, .int 0, .int 0, .int 10, .ref h9])), (h2, .inl (cQ, 5, .inr (.inr (.inr (.inr (fun _ => none)))))), (h3, .inl (cI, 5, .inl (fun _ => 0))), (h4, .inl (cI, 5, .inl (fun _ => 0))), (h5, .inl (cI, 12, .inl (fun _ => 0))), (h6, .inl (cI, 12, .inl (fun _ => 0))), (h7, .inl (cI, 12, .inl (fun _ => 0))), (h8, .inl (cI, 12, .inl (fun _ => 0))), (h9, .inr (9, [.int 0, .int 0, .int (-9), .int 0, .int 0])), (h10, .inr (7, [.ref h11, .ref h12, .ref h13, .int 0, .ref h14, .ref h15, .ref h16, .ref h17, .int 0, .int 0, .int 10, .ref h18])), (h11, .inl (cQ, 5, .inr (.inr (.inr (.inr (fun _ => none)))))), (h12, .inl (cI, 5, .inl (fun _ => 0))), (h13, .inl (cI, 5, .inl (fun _ => 0))), (h14, .inl (cI, 12, .inl (fun _ => 0))), (h15, .inl (cI, 12, .inl (fun _ => 0))), (h16, .inl (cI, 12, .inl (fun _ => 0))), (h17, .inl (cI, 12, .inl (fun _ => 0))), (h18, .inr (9, [.int 0, .int 0, .int (-9), .int 0, .int 0]))] := hD
  refine lv_aload_n hx hb dX11_image_16 rfl (lv_at hl 0 rfl) ?_
  refine va_get (D := (dC, dI)) (ci := 11) (v := .ref h1) (C := RX11) (T := TX11) (N := 9) hx hb hts in_X11_image_X11 hown hK hP 0 rfl rfl 0 (by decide) (hts (.fieldLink RX11 10 "EachOnHisCue" "play" "LEachOnHisCue$Play;") (by decide +kernel)) (fun _ h9 => h9) rfl dX11_image_17 ?_
  refine va_get (D := (dC, dI)) (ci := 7) (v := .int 0) (C := RX7) (T := TX7) (N := 12) hx hb hts in_X11_image_X7 hown hK hP 1 rfl rfl 9 (by decide) (hts (.fieldLink RX11 137 "EachOnHisCue$Play" "lines" "I") (by decide +kernel)) (fun _ h9 => h9) rfl dX11_image_20 ?_
  have hP9 := hP.sub (ws' := []) [] rfl
  have hD9 := hD.sub (ws' := []) [] (by decide) rfl
  exact W.iret (v := 0) hx hb hr (fun t ht hW => ⟨⟨0, (fun k => [].getD k 0), rfl, rfl, by rw [ht]; exact hP9, hD9⟩, hS.F ht⟩) hS.2.2 dX11_image_23
