set_option maxHeartbeats 4000000 in
set_option maxRecDepth 100000 in
theorem kX12_book_1 (l : Launch) (dC : Nat → ClassId) (dI : Nat → Nat → Nat) (cI cQ : ClassId) (h0 h1 h2 h3 h4 h5 h6 h7 h8 h9 h10 h11 h12 h13 h14 h15 h16 h17 h18 : Nat) (p0 : Int32) (hp0l : 0 ≤ p0.toInt) (hp0h : p0.toInt ≤ 2147483647) (p1 : Int32) (hp1l : -2147483648 ≤ p1.toInt) (hp1h : p1.toInt ≤ -1) (sz : Nat) : Met l yX12_book vsX12_book ({ frames := 1, cells := 0, slots := 0, locals := 21 }) (va_Pc [.ref h0, .int p0, .int p1] (zB dC dI cI cQ [(h0, .inr (12, [.ref h1, .ref h2, .ref h3, .ref h4, .ref h5, .ref h6, .ref h7, .ref h8, .ref h9, .int 0, .int 0, .int 10, .int 0, .int 0, .int (-9), .int 0, .ref h10, .ref h11, .ref h12, .ref h13, .int 0, .int 0, .int 0, .ref h14, .int 0, .int 0, .int 0, .int (-9), .int 0, .ref h15, .int 0, .int 0, .int 0, .ref h16, .ref h17, .ref h18, .int 0, .int 0])), (h1, .inl (cI, 7, .inl (fun _ => 0)))] sz)) (zQi dC dI (va_A [(h0, .inr (12, [.ref h1, .ref h2, .ref h3, .ref h4, .ref h5, .ref h6, .ref h7, .ref h8, .ref h9, .int 0, .int 0, .int 10, .int 0, .int 0, .int (-9), .int 0, .ref h10, .ref h11, .ref h12, .ref h13, .int 0, .int 0, .int 0, .ref h14, .int 0, .int 0, .int 0, .int (-9), .int 0, .ref h15, .int 0, .int 0, .int 0, .ref h16, .ref h17, .ref h18, .int 0, .int 0])), (h1, .inl (cI, 7, .inl (fun _ => 0)))] sz) (fun ad => []) (-4)) 0 0 (va_A [(h0, .inr (12, [.ref h1, .ref h2, .ref h3, .ref h4, .ref h5, .ref h6, .ref h7, .ref h8, .ref h9, .int 0, .int 0, .int 10, .int 0, .int 0, .int (-9), .int 0, .ref h10, .ref h11, .ref h12, .ref h13, .int 0, .int 0, .int 0, .ref h14, .int 0, .int 0, .int 0, .int (-9), .int 0, .ref h15, .int 0, .int 0, .int 0, .ref h16, .ref h17, .ref h18, .int 0, .int 0])), (h1, .inl (cI, 7, .inl (fun _ => 0)))] sz) := by
  refine Met.ofW (cc := cX12_book) (maxL := 4) (ret := (some .int)) (by decide) rfl ?_
  intro p e s m args below meth c s₁ B hml hv
  obtain ⟨rfl, hsz, hP, hZ, hD0⟩ := hv
  obtain ⟨hK, hAO, hN⟩ := id hZ
  have hx := B.exec
  have hb := B.bytes
  have hr := B.returns
  have hts := atoms_spec (ws := vsX12_book) B.pre
  have hown : s.vm.findClass RX12 = some m.cls := findClass_of_methodNamed B.named
  have hlocks := B.notSynchronized
  subst hsz
  have hD := hD0.self (sz := s.heap.size)
  generalize hAe : va_A [(h0, .inr (12, [.ref h1, .ref h2, .ref h3, .ref h4, .ref h5, .ref h6, .ref h7, .ref h8, .ref h9, .int 0, .int 0, .int 10, .int 0, .int 0, .int (-9), .int 0, .ref h10, .ref h11, .ref h12, .ref h13, .int 0, .int 0, .int 0, .ref h14, .int 0, .int 0, .int 0, .int (-9), .int 0, .ref h15, .int 0, .int 0, .int 0, .ref h16, .ref h17, .ref h18, .int 0, .int 0])), (h1, .inl (cI, 7, .inl (fun _ => 0)))] s.heap.size = A at hD ⊢
  have hA : ∀ q : Nat, s.heap.size ≤ q → A q := fun q h => by rw [← hAe]; exact Or.inr h
  have hS : va_S A s.heap s.heap [] := va_S.rf
  have hP : va_P (dC, dI) vwCl [(h0, .inr (12, [.ref h1, .ref h2, .ref h3, .ref h4, .ref h5, .ref h6, .ref h7, .ref h8, .ref h9, .int 0, .int 0, .int 10, .int 0, .int 0, .int (-9), .int 0, .ref h10, .ref h11, .ref h12, .ref h13, .int 0, .int 0, .int 0, .ref h14, .int 0, .int 0, .int 0, .int (-9), .int 0, .ref h15, .int 0, .int 0, .int 0, .ref h16, .ref h17, .ref h18, .int 0, .int 0])), (h1, .inl (cI, 7, .inl (fun _ => 0)))] s.heap := hP
  have hl := lv_entry ([.ref h0, .int p0, .int p1]) (n := 4) (Nat.le_of_ble_eq_true rfl)
  rw [lg_entry_eq]
  generalize (lg_sl ([.ref h0, .int p0, .int p1]) ++ List.replicate (4 - (lg_sl ([.ref h0, .int p0, .int p1])).length) Slot.unset).toArray = ls at hl ⊢
  have hl : lv_has ls 4 [(0, .ref h0), (1, .int p0), (2, .int p1)] := hl
  refine lv_iload_n hx hb dX12_book_0 rfl (lv_at hl 1 rfl) ?_
  refine lv_if_lt (tgt := 8) hx hb dX12_book_1 (by decide) (fun hc => ?_) (fun hc => ?_)
  · exact absurd ((fa_lt _ _).mp hc) (by rw [show (0 : Int32).toInt = 0 from by decide]; omega)
  refine lv_iload_n hx hb dX12_book_4 rfl (lv_at hl 2 rfl) ?_
  refine lv_if_ge (tgt := 13) hx hb dX12_book_5 (by decide) (fun hc => ?_) (fun hc => ?_)
  · exact absurd ((fa_le _ _).mp hc) (by rw [show (0 : Int32).toInt = 0 from by decide]; omega)
  refine lv_bipush (v := (-4)) hx hb dX12_book_8 (by decide) ?_
  refine lv_goto (tgt := 17) hx hb dX12_book_10 (by decide) ?_
  refine lv_istore_n (lv' := [(3, .int (-4)), (0, .ref h0), (1, .int p0), (2, .int p1)]) hx hb dX12_book_17 rfl hl (by decide) rfl (fun ls hl => ?_)
  refine lv_iload_n hx hb dX12_book_18 rfl (lv_at hl 0 rfl) ?_
  refine lv_if_eq (tgt := 28) hx hb dX12_book_19 (by decide) (fun hc => ?_) (fun hc => ?_)
  · exact absurd hc (by decide)
  refine lv_aload_n hx hb dX12_book_22 rfl (lv_at hl 1 rfl) ?_
  refine lv_iload_n hx hb dX12_book_23 rfl (lv_at hl 0 rfl) ?_
  refine z_calli (wc := [(h0, .inr (12, [.ref h1, .ref h2, .ref h3, .ref h4, .ref h5, .ref h6, .ref h7, .ref h8, .ref h9, .int 0, .int 0, .int 10, .int 0, .int 0, .int (-9), .int 0, .ref h10, .ref h11, .ref h12, .ref h13, .int 0, .int 0, .int 0, .ref h14, .int 0, .int 0, .int 0, .int (-9), .int 0, .ref h15, .int 0, .int 0, .int 0, .ref h16, .ref h17, .ref h18, .int 0, .int 0])), (h1, .inl (cI, 7, .inl (fun _ => 0)))]) (wr := []) (w1 := (fun _ => [(h0, .inr (12, [.ref h1, .ref h2, .ref h3, .ref h4, .ref h5, .ref h6, .ref h7, .ref h8, .ref h9, .int 0, .int 0, .int 10, .int 0, .int 0, .int (-9), .int 0, .ref h10, .ref h11, .ref h12, .ref h13, .int 0, .int 0, .int 0, .ref h14, .int 0, .int 0, .int 0, .int (-9), .int 0, .ref h15, .int 0, .int 0, .int 0, .ref h16, .ref h17, .ref h18, .int 0, .int 0])), (h1, .inl (cI, 7, .inl (upd (fun _ => 0) 4 1)))])) (va_runV (As := [.int (-4)]) (rest := []) ⟨hx, hb, hml, hown, hts⟩ (kX12_no l dC dI cI cQ h0 h1 h2 h3 h4 h5 h6 h7 h8 h9 h10 h11 h12 h13 h14 h15 h16 h17 h18 s.heap.size) (cwV 1 hts gv_X12_book_X12_no_89 rfl rfl rfl (by decide +kernel) ⟨Nat.le_of_ble_eq_true rfl, Nat.le_of_ble_eq_true rfl⟩) ⟨z_blind, va_recv hK hP (ci := 12) (q0 := 0) rfl rfl, z_pre hZ hP hD [0, 1] rfl (by decide)⟩ rfl rfl hl.1 rfl (lv_room (Nat.le_of_ble_eq_true rfl)) dX12_book_24 ⟨Nat.le_of_ble_eq_true rfl, Nat.le_of_ble_eq_true rfl⟩) hP hD hS hA [0, 1] [] rfl rfl (by decide) (by decide) (fun _ H locs hP hD hS => ?_)
  have hP : va_P (dC, dI) vwCl [(h0, .inr (12, [.ref h1, .ref h2, .ref h3, .ref h4, .ref h5, .ref h6, .ref h7, .ref h8, .ref h9, .int 0, .int 0, .int 10, .int 0, .int 0, .int (-9), .int 0, .ref h10, .ref h11, .ref h12, .ref h13, .int 0, .int 0, .int 0, .ref h14, .int 0, .int 0, .int 0, .int (-9), .int 0, .ref h15, .int 0, .int 0, .int 0, .ref h16, .ref h17, .ref h18, .int 0, .int 0])), (h1, .inl (cI, 7, .inl (upd (fun _ => 0) 4 1)))] H := hP
  have hD : va_D A [(h0, .inr (12, [.ref h1, .ref h2, .ref h3, .ref h4, .ref h5, .ref h6, .ref h7, .ref h8, .ref h9, .int 0, .int 0, .int 10, .int 0, .int 0, .int (-9), .int 0, .ref h10, .ref h11, .ref h12, .ref h13, .int 0, .int 0, .int 0, .ref h14, .int 0, .int 0, .int 0, .int (-9), .int 0, .ref h15, .int 0, .int 0, .int 0, .ref h16, .ref h17, .ref h18, .int 0, .int 0])), (h1, .inl (cI, 7, .inl (upd (fun _ => 0) 4 1)))] := hD
  have hP9 := hP.sub (ws' := []) [] rfl
  have hD9 := hD.sub (ws' := []) [] (by decide) rfl
  exact W.iret (v := (-4)) hx hb hr (fun t ht hW => ⟨⟨(-4), (fun k => [].getD k 0), rfl, rfl, by rw [ht]; exact hP9, hD9⟩, hS.F ht⟩) hS.2.2 dX12_book_27
set_option maxHeartbeats 4000000 in
set_option maxRecDepth 100000 in
theorem kX12_book_2 (l : Launch) (dC : Nat → ClassId) (dI : Nat → Nat → Nat) (cI cQ : ClassId) (h0 h1 h2 h3 h4 h5 h6 h7 h8 h9 h10 h11 h12 h13 h14 h15 h16 h17 h18 : Nat) (p0 : Int32) (hp0l : 0 ≤ p0.toInt) (hp0h : p0.toInt ≤ 2147483647) (p1 : Int32) (hp1l : 0 ≤ p1.toInt) (hp1h : p1.toInt ≤ 2147483647) (sz : Nat) : Met l yX12_book vsX12_book ({ frames := 1, cells := 0, slots := 0, locals := 21 }) (va_Pc [.ref h0, .int p0, .int p1] (zB dC dI cI cQ [(h0, .inr (12, [.ref h1, .ref h2, .ref h3, .ref h4, .ref h5, .ref h6, .ref h7, .ref h8, .ref h9, .int 0, .int 0, .int 10, .int 0, .int 0, .int (-9), .int 0, .ref h10, .ref h11, .ref h12, .ref h13, .int 0, .int 0, .int 0, .ref h14, .int 0, .int 0, .int 0, .int (-9), .int 0, .ref h15, .int 0, .int 0, .int 0, .ref h16, .ref h17, .ref h18, .int 0, .int 0])), (h1, .inl (cI, 7, .inl (fun _ => 0)))] sz)) (zQi dC dI (va_A [(h0, .inr (12, [.ref h1, .ref h2, .ref h3, .ref h4, .ref h5, .ref h6, .ref h7, .ref h8, .ref h9, .int 0, .int 0, .int 10, .int 0, .int 0, .int (-9), .int 0, .ref h10, .ref h11, .ref h12, .ref h13, .int 0, .int 0, .int 0, .ref h14, .int 0, .int 0, .int 0, .int (-9), .int 0, .ref h15, .int 0, .int 0, .int 0, .ref h16, .ref h17, .ref h18, .int 0, .int 0])), (h1, .inl (cI, 7, .inl (fun _ => 0)))] sz) (fun ad => []) (-3)) 0 0 (va_A [(h0, .inr (12, [.ref h1, .ref h2, .ref h3, .ref h4, .ref h5, .ref h6, .ref h7, .ref h8, .ref h9, .int 0, .int 0, .int 10, .int 0, .int 0, .int (-9), .int 0, .ref h10, .ref h11, .ref h12, .ref h13, .int 0, .int 0, .int 0, .ref h14, .int 0, .int 0, .int 0, .int (-9), .int 0, .ref h15, .int 0, .int 0, .int 0, .ref h16, .ref h17, .ref h18, .int 0, .int 0])), (h1, .inl (cI, 7, .inl (fun _ => 0)))] sz) := by
  refine Met.ofW (cc := cX12_book) (maxL := 4) (ret := (some .int)) (by decide) rfl ?_
  intro p e s m args below meth c s₁ B hml hv
  obtain ⟨rfl, hsz, hP, hZ, hD0⟩ := hv
  obtain ⟨hK, hAO, hN⟩ := id hZ
  have hx := B.exec
  have hb := B.bytes
  have hr := B.returns
  have hts := atoms_spec (ws := vsX12_book) B.pre
  have hown : s.vm.findClass RX12 = some m.cls := findClass_of_methodNamed B.named
  have hlocks := B.notSynchronized
  subst hsz
  have hD := hD0.self (sz := s.heap.size)
  generalize hAe : va_A [(h0, .inr (12, [.ref h1, .ref h2, .ref h3, .ref h4, .ref h5, .ref h6, .ref h7, .ref h8, .ref h9, .int 0, .int 0, .int 10, .int 0, .int 0, .int (-9), .int 0, .ref h10, .ref h11, .ref h12, .ref h13, .int 0, .int 0, .int 0, .ref h14, .int 0, .int 0, .int 0, .int (-9), .int 0, .ref h15, .int 0, .int 0, .int 0, .ref h16, .ref h17, .ref h18, .int 0, .int 0])), (h1, .inl (cI, 7, .inl (fun _ => 0)))] s.heap.size = A at hD ⊢
  have hA : ∀ q : Nat, s.heap.size ≤ q → A q := fun q h => by rw [← hAe]; exact Or.inr h
  have hS : va_S A s.heap s.heap [] := va_S.rf
  have hP : va_P (dC, dI) vwCl [(h0, .inr (12, [.ref h1, .ref h2, .ref h3, .ref h4, .ref h5, .ref h6, .ref h7, .ref h8, .ref h9, .int 0, .int 0, .int 10, .int 0, .int 0, .int (-9), .int 0, .ref h10, .ref h11, .ref h12, .ref h13, .int 0, .int 0, .int 0, .ref h14, .int 0, .int 0, .int 0, .int (-9), .int 0, .ref h15, .int 0, .int 0, .int 0, .ref h16, .ref h17, .ref h18, .int 0, .int 0])), (h1, .inl (cI, 7, .inl (fun _ => 0)))] s.heap := hP
  have hl := lv_entry ([.ref h0, .int p0, .int p1]) (n := 4) (Nat.le_of_ble_eq_true rfl)
  rw [lg_entry_eq]
  generalize (lg_sl ([.ref h0, .int p0, .int p1]) ++ List.replicate (4 - (lg_sl ([.ref h0, .int p0, .int p1])).length) Slot.unset).toArray = ls at hl ⊢
  have hl : lv_has ls 4 [(0, .ref h0), (1, .int p0), (2, .int p1)] := hl
  refine lv_iload_n hx hb dX12_book_0 rfl (lv_at hl 1 rfl) ?_
  refine lv_if_lt (tgt := 8) hx hb dX12_book_1 (by decide) (fun hc => ?_) (fun hc => ?_)
  · exact absurd ((fa_lt _ _).mp hc) (by rw [show (0 : Int32).toInt = 0 from by decide]; omega)
  refine lv_iload_n hx hb dX12_book_4 rfl (lv_at hl 2 rfl) ?_
  refine lv_if_ge (tgt := 13) hx hb dX12_book_5 (by decide) (fun hc => ?_) (fun hc => ?_)
  rotate_left; exact absurd ((fa_le _ _).mpr (by rw [show (0 : Int32).toInt = 0 from by decide]; omega)) hc
  refine lv_aload_n hx hb dX12_book_13 rfl (lv_at hl 0 rfl) ?_
  refine z_calli (wc := [(h0, .inr (12, [.ref h1, .ref h2, .ref h3, .ref h4, .ref h5, .ref h6, .ref h7, .ref h8, .ref h9, .int 0, .int 0, .int 10, .int 0, .int 0, .int (-9), .int 0, .ref h10, .ref h11, .ref h12, .ref h13, .int 0, .int 0, .int 0, .ref h14, .int 0, .int 0, .int 0, .int (-9), .int 0, .ref h15, .int 0, .int 0, .int 0, .ref h16, .ref h17, .ref h18, .int 0, .int 0]))]) (wr := [(h1, .inl (cI, 7, .inl (fun _ => 0)))]) (w1 := (fun _ => [(h0, .inr (12, [.ref h1, .ref h2, .ref h3, .ref h4, .ref h5, .ref h6, .ref h7, .ref h8, .ref h9, .int 0, .int 0, .int 10, .int 0, .int 0, .int (-9), .int 0, .ref h10, .ref h11, .ref h12, .ref h13, .int 0, .int 0, .int 0, .ref h14, .int 0, .int 0, .int 0, .int (-9), .int 0, .ref h15, .int 0, .int 0, .int 0, .ref h16, .ref h17, .ref h18, .int 0, .int 0]))])) (va_runV (As := []) (rest := []) ⟨hx, hb, hml, hown, hts⟩ (kX12_notBooks l dC dI cI cQ h0 h1 h2 h3 h4 h5 h6 h7 h8 h9 h10 h11 h12 h13 h14 h15 h16 h17 h18 s.heap.size) (cwV 0 hts gv_X12_book_X12_notBooks_270 rfl rfl rfl (by decide +kernel) ⟨Nat.le_of_ble_eq_true rfl, Nat.le_of_ble_eq_true rfl⟩) ⟨z_blind, va_recv hK hP (ci := 12) (q0 := 0) rfl rfl, z_pre hZ hP hD [0] rfl (by decide)⟩ rfl rfl hl.1 rfl (lv_room (Nat.le_of_ble_eq_true rfl)) dX12_book_14 ⟨Nat.le_of_ble_eq_true rfl, Nat.le_of_ble_eq_true rfl⟩) hP hD hS hA [0] [1] rfl rfl (by decide) (by decide) (fun _ H locs hP hD hS => ?_)
  have hP : va_P (dC, dI) vwCl [(h1, .inl (cI, 7, .inl (fun _ => 0))), (h0, .inr (12, [.ref h1, .ref h2, .ref h3, .ref h4, .ref h5, .ref h6, .ref h7, .ref h8, .ref h9, .int 0, .int 0, .int 10, .int 0, .int 0, .int (-9), .int 0, .ref h10, .ref h11, .ref h12, .ref h13, .int 0, .int 0, .int 0, .ref h14, .int 0, .int 0, .int 0, .int (-9), .int 0, .ref h15, .int 0, .int 0, .int 0, .ref h16, .ref h17, .ref h18, .int 0, .int 0]))] H := hP
  have hD : va_D A [(h1, .inl (cI, 7, .inl (fun _ => 0))), (h0, .inr (12, [.ref h1, .ref h2, .ref h3, .ref h4, .ref h5, .ref h6, .ref h7, .ref h8, .ref h9, .int 0, .int 0, .int 10, .int 0, .int 0, .int (-9), .int 0, .ref h10, .ref h11, .ref h12, .ref h13, .int 0, .int 0, .int 0, .ref h14, .int 0, .int 0, .int 0, .int (-9), .int 0, .ref h15, .int 0, .int 0, .int 0, .ref h16, .ref h17, .ref h18, .int 0, .int 0]))] := hD
  refine lv_istore_n (lv' := [(3, .int (-3)), (0, .ref h0), (1, .int p0), (2, .int p1)]) hx hb dX12_book_17 rfl hl (by decide) rfl (fun ls hl => ?_)
  refine lv_iload_n hx hb dX12_book_18 rfl (lv_at hl 0 rfl) ?_
  refine lv_if_eq (tgt := 28) hx hb dX12_book_19 (by decide) (fun hc => ?_) (fun hc => ?_)
  · exact absurd hc (by decide)
  refine lv_aload_n hx hb dX12_book_22 rfl (lv_at hl 1 rfl) ?_
  refine lv_iload_n hx hb dX12_book_23 rfl (lv_at hl 0 rfl) ?_
  refine z_calli (wc := [(h1, .inl (cI, 7, .inl (fun _ => 0))), (h0, .inr (12, [.ref h1, .ref h2, .ref h3, .ref h4, .ref h5, .ref h6, .ref h7, .ref h8, .ref h9, .int 0, .int 0, .int 10, .int 0, .int 0, .int (-9), .int 0, .ref h10, .ref h11, .ref h12, .ref h13, .int 0, .int 0, .int 0, .ref h14, .int 0, .int 0, .int 0, .int (-9), .int 0, .ref h15, .int 0, .int 0, .int 0, .ref h16, .ref h17, .ref h18, .int 0, .int 0]))]) (wr := []) (w1 := (fun _ => [(h1, .inl (cI, 7, .inl (upd (fun _ => 0) 3 1))), (h0, .inr (12, [.ref h1, .ref h2, .ref h3, .ref h4, .ref h5, .ref h6, .ref h7, .ref h8, .ref h9, .int 0, .int 0, .int 10, .int 0, .int 0, .int (-9), .int 0, .ref h10, .ref h11, .ref h12, .ref h13, .int 0, .int 0, .int 0, .ref h14, .int 0, .int 0, .int 0, .int (-9), .int 0, .ref h15, .int 0, .int 0, .int 0, .ref h16, .ref h17, .ref h18, .int 0, .int 0]))])) (va_runV (As := [.int (-3)]) (rest := []) ⟨hx, hb, hml, hown, hts⟩ (kX12_no_6 l dC dI cI cQ h0 h1 h2 h3 h4 h5 h6 h7 h8 h9 h10 h11 h12 h13 h14 h15 h16 h17 h18 H.size) (cwV 1 hts gv_X12_book_X12_no_89 rfl rfl rfl (by decide +kernel) ⟨Nat.le_of_ble_eq_true rfl, Nat.le_of_ble_eq_true rfl⟩) ⟨z_blind, va_recv hK hP (ci := 12) (q0 := 1) rfl rfl, z_pre hZ hP hD [0, 1] rfl (by decide)⟩ rfl rfl hl.1 rfl (lv_room (Nat.le_of_ble_eq_true rfl)) dX12_book_24 ⟨Nat.le_of_ble_eq_true rfl, Nat.le_of_ble_eq_true rfl⟩) hP hD hS hA [0, 1] [] rfl rfl (by decide) (by decide) (fun _ H locs hP hD hS => ?_)
  have hP : va_P (dC, dI) vwCl [(h1, .inl (cI, 7, .inl (upd (fun _ => 0) 3 1))), (h0, .inr (12, [.ref h1, .ref h2, .ref h3, .ref h4, .ref h5, .ref h6, .ref h7, .ref h8, .ref h9, .int 0, .int 0, .int 10, .int 0, .int 0, .int (-9), .int 0, .ref h10, .ref h11, .ref h12, .ref h13, .int 0, .int 0, .int 0, .ref h14, .int 0, .int 0, .int 0, .int (-9), .int 0, .ref h15, .int 0, .int 0, .int 0, .ref h16, .ref h17, .ref h18, .int 0, .int 0]))] H := hP
  have hD : va_D A [(h1, .inl (cI, 7, .inl (upd (fun _ => 0) 3 1))), (h0, .inr (12, [.ref h1, .ref h2, .ref h3, .ref h4, .ref h5, .ref h6, .ref h7, .ref h8, .ref h9, .int 0, .int 0, .int 10, .int 0, .int 0, .int (-9), .int 0, .ref h10, .ref h11, .ref h12, .ref h13, .int 0, .int 0, .int 0, .ref h14, .int 0, .int 0, .int 0, .int (-9), .int 0, .ref h15, .int 0, .int 0, .int 0, .ref h16, .ref h17, .ref h18, .int 0, .int 0]))] := hD
  have hP9 := hP.sub (ws' := []) [] rfl
  have hD9 := hD.sub (ws' := []) [] (by decide) rfl
  exact W.iret (v := (-3)) hx hb hr (fun t ht hW => ⟨⟨(-3), (fun k => [].getD k 0), rfl, rfl, by rw [ht]; exact hP9, hD9⟩, hS.F ht⟩) hS.2.2 dX12_book_27
set_option maxHeartbeats 4000000 in
set_option maxRecDepth 100000 in
theorem kX12_bound_9 (l : Launch) (dC : Nat → ClassId) (dI : Nat → Nat → Nat) (cI cQ : ClassId) (p0 : Int32) (hp0l : -2147483648 ≤ p0.toInt) (hp0h : p0.toInt ≤ -1) (sz : Nat) : Met l yX12_bound vsX12_bound ({ frames := 0, cells := 0, slots := 0, locals := 0 }) (va_Pc [.int p0, .int 0, .int 11] (zB dC dI cI cQ [] sz)) (zQi dC dI (va_A [] sz) (fun ad => []) (-4)) 0 0 (va_A [] sz) := by
  refine Met.ofW (cc := cX12_bound) (maxL := 3) (ret := (some .int)) (by decide) rfl ?_
  intro p e s m args below meth c s₁ B hml hv
  obtain ⟨rfl, hsz, hP, hZ, hD0⟩ := hv
  obtain ⟨hK, hAO, hN⟩ := id hZ
  have hx := B.exec
  have hb := B.bytes
  have hr := B.returns
  have hts := atoms_spec (ws := vsX12_bound) B.pre
  have hown : s.vm.findClass RX12 = some m.cls := findClass_of_methodNamed B.named
  have hlocks := B.notSynchronized
  subst hsz
  have hD := hD0.self (sz := s.heap.size)
  generalize hAe : va_A [] s.heap.size = A at hD ⊢
  have hA : ∀ q : Nat, s.heap.size ≤ q → A q := fun q h => by rw [← hAe]; exact Or.inr h
  have hS : va_S A s.heap s.heap [] := va_S.rf
  have hP : va_P (dC, dI) vwCl [] s.heap := hP
  have hl := lv_entry ([.int p0, .int 0, .int 11]) (n := 3) (Nat.le_of_ble_eq_true rfl)
  rw [lg_entry_eq]
  generalize (lg_sl ([.int p0, .int 0, .int 11]) ++ List.replicate (3 - (lg_sl ([.int p0, .int 0, .int 11])).length) Slot.unset).toArray = ls at hl ⊢
  have hl : lv_has ls 3 [(0, .int p0), (1, .int 0), (2, .int 11)] := hl
  refine lv_iload_n hx hb dX12_bound_0 rfl (lv_at hl 0 rfl) ?_
  refine lv_iload_n hx hb dX12_bound_1 rfl (lv_at hl 1 rfl) ?_
  refine lv_icmp_ge (tgt := 10) hx hb dX12_bound_2 (by decide) (fun hc => ?_) (fun hc => ?_)
  · exact absurd ((fa_le _ _).mp hc) (by rw [show (0 : Int32).toInt = 0 from by decide]; omega)
  refine lv_bipush (v := (-4)) hx hb dX12_bound_5 (by decide) ?_
  refine lv_goto (tgt := 21) hx hb dX12_bound_7 (by decide) ?_
  have hP9 := hP.sub (ws' := []) [] rfl
  have hD9 := hD.sub (ws' := []) [] (by decide) rfl
  exact W.iret (v := (-4)) hx hb hr (fun t ht hW => ⟨⟨(-4), (fun k => [].getD k 0), rfl, rfl, by rw [ht]; exact hP9, hD9⟩, hS.F ht⟩) hS.2.2 dX12_bound_21
set_option maxHeartbeats 4000000 in
set_option maxRecDepth 100000 in
theorem kX12_row (l : Launch) (dC : Nat → ClassId) (dI : Nat → Nat → Nat) (cI cQ : ClassId) (h0 h1 h2 h3 h4 h5 h6 h7 h8 h9 h10 h11 h12 h13 h14 h15 h16 h17 h18 : Nat) (p0 : Int32) (hp0l : -2147483648 ≤ p0.toInt) (hp0h : p0.toInt ≤ -1) (sz : Nat) : Met l yX12_row vsX12_row ({ frames := 1, cells := 0, slots := 0, locals := 22 }) (va_Pc [.ref h0, .int p0] (zB dC dI cI cQ [(h0, .inr (12, [.ref h1, .ref h2, .ref h3, .ref h4, .ref h5, .ref h6, .ref h7, .ref h8, .ref h9, .int 0, .int 0, .int 10, .int 0, .int 0, .int (-9), .int 0, .ref h10, .ref h11, .ref h12, .ref h13, .int 0, .int 0, .int 0, .ref h14, .int 0, .int 0, .int 0, .int (-9), .int 0, .ref h15, .int 0, .int 0, .int 0, .ref h16, .ref h17, .ref h18, .int 0, .int 0])), (h1, .inl (cI, 7, .inl (fun _ => 0)))] sz)) (zQi dC dI (va_A [(h0, .inr (12, [.ref h1, .ref h2, .ref h3, .ref h4, .ref h5, .ref h6, .ref h7, .ref h8, .ref h9, .int 0, .int 0, .int 10, .int 0, .int 0, .int (-9), .int 0, .ref h10, .ref h11, .ref h12, .ref h13, .int 0, .int 0, .int 0, .ref h14, .int 0, .int 0, .int 0, .int (-9), .int 0, .ref h15, .int 0, .int 0, .int 0, .ref h16, .ref h17, .ref h18, .int 0, .int 0])), (h1, .inl (cI, 7, .inl (fun _ => 0)))] sz) (fun ad => []) (-4)) 0 0 (va_A [(h0, .inr (12, [.ref h1, .ref h2, .ref h3, .ref h4, .ref h5, .ref h6, .ref h7, .ref h8, .ref h9, .int 0, .int 0, .int 10, .int 0, .int 0, .int (-9), .int 0, .ref h10, .ref h11, .ref h12, .ref h13, .int 0, .int 0, .int 0, .ref h14, .int 0, .int 0, .int 0, .int (-9), .int 0, .ref h15, .int 0, .int 0, .int 0, .ref h16, .ref h17, .ref h18, .int 0, .int 0])), (h1, .inl (cI, 7, .inl (fun _ => 0)))] sz) := by
  refine Met.ofW (cc := cX12_row) (maxL := 3) (ret := (some .int)) (by decide) rfl ?_
  intro p e s m args below meth c s₁ B hml hv
  obtain ⟨rfl, hsz, hP, hZ, hD0⟩ := hv
  obtain ⟨hK, hAO, hN⟩ := id hZ
  have hx := B.exec
  have hb := B.bytes
  have hr := B.returns
  have hts := atoms_spec (ws := vsX12_row) B.pre
  have hown : s.vm.findClass RX12 = some m.cls := findClass_of_methodNamed B.named
  have hlocks := B.notSynchronized
  subst hsz
  have hD := hD0.self (sz := s.heap.size)
  generalize hAe : va_A [(h0, .inr (12, [.ref h1, .ref h2, .ref h3, .ref h4, .ref h5, .ref h6, .ref h7, .ref h8, .ref h9, .int 0, .int 0, .int 10, .int 0, .int 0, .int (-9), .int 0, .ref h10, .ref h11, .ref h12, .ref h13, .int 0, .int 0, .int 0, .ref h14, .int 0, .int 0, .int 0, .int (-9), .int 0, .ref h15, .int 0, .int 0, .int 0, .ref h16, .ref h17, .ref h18, .int 0, .int 0])), (h1, .inl (cI, 7, .inl (fun _ => 0)))] s.heap.size = A at hD ⊢
  have hA : ∀ q : Nat, s.heap.size ≤ q → A q := fun q h => by rw [← hAe]; exact Or.inr h
  have hS : va_S A s.heap s.heap [] := va_S.rf
  have hP : va_P (dC, dI) vwCl [(h0, .inr (12, [.ref h1, .ref h2, .ref h3, .ref h4, .ref h5, .ref h6, .ref h7, .ref h8, .ref h9, .int 0, .int 0, .int 10, .int 0, .int 0, .int (-9), .int 0, .ref h10, .ref h11, .ref h12, .ref h13, .int 0, .int 0, .int 0, .ref h14, .int 0, .int 0, .int 0, .int (-9), .int 0, .ref h15, .int 0, .int 0, .int 0, .ref h16, .ref h17, .ref h18, .int 0, .int 0])), (h1, .inl (cI, 7, .inl (fun _ => 0)))] s.heap := hP
  have hl := lv_entry ([.ref h0, .int p0]) (n := 3) (Nat.le_of_ble_eq_true rfl)
  rw [lg_entry_eq]
  generalize (lg_sl ([.ref h0, .int p0]) ++ List.replicate (3 - (lg_sl ([.ref h0, .int p0])).length) Slot.unset).toArray = ls at hl ⊢
  have hl : lv_has ls 3 [(0, .ref h0), (1, .int p0)] := hl
  refine lv_iload_n hx hb dX12_row_0 rfl (lv_at hl 1 rfl) ?_
  refine lv_iconst (v := 0) hx hb dX12_row_1 (by decide) ?_
  refine lv_bipush (v := 11) hx hb dX12_row_2 (by decide) ?_
  refine z_calli (wc := []) (wr := [(h0, .inr (12, [.ref h1, .ref h2, .ref h3, .ref h4, .ref h5, .ref h6, .ref h7, .ref h8, .ref h9, .int 0, .int 0, .int 10, .int 0, .int 0, .int (-9), .int 0, .ref h10, .ref h11, .ref h12, .ref h13, .int 0, .int 0, .int 0, .ref h14, .int 0, .int 0, .int 0, .int (-9), .int 0, .ref h15, .int 0, .int 0, .int 0, .ref h16, .ref h17, .ref h18, .int 0, .int 0])), (h1, .inl (cI, 7, .inl (fun _ => 0)))]) (w1 := (fun _ => [])) (va_runS (As := [.int p0, .int 0, .int 11]) (rest := []) ⟨hx, hb, hml, hown, hts⟩ (kX12_bound_9 l dC dI cI cQ p0 hp0l hp0h s.heap.size) (va_cwS 3 hts gv_X12_row_X12_bound_82 rfl rfl rfl (by decide +kernel) ⟨Nat.le_of_ble_eq_true rfl, Nat.le_of_ble_eq_true rfl⟩) ⟨z_blind, z_pre hZ hP hD [] rfl (by decide)⟩ rfl rfl hl.1 rfl (lv_room (Nat.le_of_ble_eq_true rfl)) dX12_row_4 ⟨Nat.le_of_ble_eq_true rfl, Nat.le_of_ble_eq_true rfl⟩) hP hD hS hA [] [0, 1] rfl rfl (by decide) (by decide) (fun _ H locs hP hD hS => ?_)
  have hP : va_P (dC, dI) vwCl [(h0, .inr (12, [.ref h1, .ref h2, .ref h3, .ref h4, .ref h5, .ref h6, .ref h7, .ref h8, .ref h9, .int 0, .int 0, .int 10, .int 0, .int 0, .int (-9), .int 0, .ref h10, .ref h11, .ref h12, .ref h13, .int 0, .int 0, .int 0, .ref h14, .int 0, .int 0, .int 0, .int (-9), .int 0, .ref h15, .int 0, .int 0, .int 0, .ref h16, .ref h17, .ref h18, .int 0, .int 0])), (h1, .inl (cI, 7, .inl (fun _ => 0)))] H := hP
  have hD : va_D A [(h0, .inr (12, [.ref h1, .ref h2, .ref h3, .ref h4, .ref h5, .ref h6, .ref h7, .ref h8, .ref h9, .int 0, .int 0, .int 10, .int 0, .int 0, .int (-9), .int 0, .ref h10, .ref h11, .ref h12, .ref h13, .int 0, .int 0, .int 0, .ref h14, .int 0, .int 0, .int 0, .int (-9), .int 0, .ref h15, .int 0, .int 0, .int 0, .ref h16, .ref h17, .ref h18, .int 0, .int 0])), (h1, .inl (cI, 7, .inl (fun _ => 0)))] := hD
  refine lv_istore_n (lv' := [(2, .int (-4)), (0, .ref h0), (1, .int p0)]) hx hb dX12_row_7 rfl hl (by decide) rfl (fun ls hl => ?_)
  refine lv_iload_n hx hb dX12_row_8 rfl (lv_at hl 0 rfl) ?_
  refine lv_if_ne (tgt := 24) hx hb dX12_row_9 (by decide) (fun hc => ?_) (fun hc => ?_)
  rotate_left; exact absurd hc (by decide)
  refine lv_iload_n hx hb dX12_row_24 rfl (lv_at hl 0 rfl) ?_
  refine lv_if_eq (tgt := 34) hx hb dX12_row_25 (by decide) (fun hc => ?_) (fun hc => ?_)
  · exact absurd hc (by decide)
  refine lv_aload_n hx hb dX12_row_28 rfl (lv_at hl 1 rfl) ?_
  refine lv_iload_n hx hb dX12_row_29 rfl (lv_at hl 0 rfl) ?_
  refine z_calli (wc := [(h0, .inr (12, [.ref h1, .ref h2, .ref h3, .ref h4, .ref h5, .ref h6, .ref h7, .ref h8, .ref h9, .int 0, .int 0, .int 10, .int 0, .int 0, .int (-9), .int 0, .ref h10, .ref h11, .ref h12, .ref h13, .int 0, .int 0, .int 0, .ref h14, .int 0, .int 0, .int 0, .int (-9), .int 0, .ref h15, .int 0, .int 0, .int 0, .ref h16, .ref h17, .ref h18, .int 0, .int 0])), (h1, .inl (cI, 7, .inl (fun _ => 0)))]) (wr := []) (w1 := (fun _ => [(h0, .inr (12, [.ref h1, .ref h2, .ref h3, .ref h4, .ref h5, .ref h6, .ref h7, .ref h8, .ref h9, .int 0, .int 0, .int 10, .int 0, .int 0, .int (-9), .int 0, .ref h10, .ref h11, .ref h12, .ref h13, .int 0, .int 0, .int 0, .ref h14, .int 0, .int 0, .int 0, .int (-9), .int 0, .ref h15, .int 0, .int 0, .int 0, .ref h16, .ref h17, .ref h18, .int 0, .int 0])), (h1, .inl (cI, 7, .inl (upd (fun _ => 0) 4 1)))])) (va_runV (As := [.int (-4)]) (rest := []) ⟨hx, hb, hml, hown, hts⟩ (kX12_no l dC dI cI cQ h0 h1 h2 h3 h4 h5 h6 h7 h8 h9 h10 h11 h12 h13 h14 h15 h16 h17 h18 H.size) (cwV 1 hts gv_X12_row_X12_no_89 rfl rfl rfl (by decide +kernel) ⟨Nat.le_of_ble_eq_true rfl, Nat.le_of_ble_eq_true rfl⟩) ⟨z_blind, va_recv hK hP (ci := 12) (q0 := 0) rfl rfl, z_pre hZ hP hD [0, 1] rfl (by decide)⟩ rfl rfl hl.1 rfl (lv_room (Nat.le_of_ble_eq_true rfl)) dX12_row_30 ⟨Nat.le_of_ble_eq_true rfl, Nat.le_of_ble_eq_true rfl⟩) hP hD hS hA [0, 1] [] rfl rfl (by decide) (by decide) (fun _ H locs hP hD hS => ?_)
  have hP : va_P (dC, dI) vwCl [(h0, .inr (12, [.ref h1, .ref h2, .ref h3, .ref h4, .ref h5, .ref h6, .ref h7, .ref h8, .ref h9, .int 0, .int 0, .int 10, .int 0, .int 0, .int (-9), .int 0, .ref h10, .ref h11, .ref h12, .ref h13, .int 0, .int 0, .int 0, .ref h14, .int 0, .int 0, .int 0, .int (-9), .int 0, .ref h15, .int 0, .int 0, .int 0, .ref h16, .ref h17, .ref h18, .int 0, .int 0])), (h1, .inl (cI, 7, .inl (upd (fun _ => 0) 4 1)))] H := hP
  have hD : va_D A [(h0, .inr (12, [.ref h1, .ref h2, .ref h3, .ref h4, .ref h5, .ref h6, .ref h7, .ref h8, .ref h9, .int 0, .int 0, .int 10, .int 0, .int 0, .int (-9), .int 0, .ref h10, .ref h11, .ref h12, .ref h13, .int 0, .int 0, .int 0, .ref h14, .int 0, .int 0, .int 0, .int (-9), .int 0, .ref h15, .int 0, .int 0, .int 0, .ref h16, .ref h17, .ref h18, .int 0, .int 0])), (h1, .inl (cI, 7, .inl (upd (fun _ => 0) 4 1)))] := hD
  have hP9 := hP.sub (ws' := []) [] rfl
  have hD9 := hD.sub (ws' := []) [] (by decide) rfl
  exact W.iret (v := (-4)) hx hb hr (fun t ht hW => ⟨⟨(-4), (fun k => [].getD k 0), rfl, rfl, by rw [ht]; exact hP9, hD9⟩, hS.F ht⟩) hS.2.2 dX12_row_33
set_option maxHeartbeats 4000000 in
set_option maxRecDepth 100000 in
theorem kX12_bound_10 (l : Launch) (dC : Nat → ClassId) (dI : Nat → Nat → Nat) (cI cQ : ClassId) (p0 : Int32) (hp0l : 0 ≤ p0.toInt) (hp0h : p0.toInt ≤ 11) (sz : Nat) : Met l yX12_bound vsX12_bound ({ frames := 0, cells := 0, slots := 0, locals := 0 }) (va_Pc [.int p0, .int 0, .int 11] (zB dC dI cI cQ [] sz)) (zQi dC dI (va_A [] sz) (fun ad => []) 0) 0 0 (va_A [] sz) := by
  refine Met.ofW (cc := cX12_bound) (maxL := 3) (ret := (some .int)) (by decide) rfl ?_
  intro p e s m args below meth c s₁ B hml hv
  obtain ⟨rfl, hsz, hP, hZ, hD0⟩ := hv
  obtain ⟨hK, hAO, hN⟩ := id hZ
  have hx := B.exec
  have hb := B.bytes
  have hr := B.returns
  have hts := atoms_spec (ws := vsX12_bound) B.pre
  have hown : s.vm.findClass RX12 = some m.cls := findClass_of_methodNamed B.named
  have hlocks := B.notSynchronized
  subst hsz
  have hD := hD0.self (sz := s.heap.size)
  generalize hAe : va_A [] s.heap.size = A at hD ⊢
  have hA : ∀ q : Nat, s.heap.size ≤ q → A q := fun q h => by rw [← hAe]; exact Or.inr h
  have hS : va_S A s.heap s.heap [] := va_S.rf
  have hP : va_P (dC, dI) vwCl [] s.heap := hP
  have hl := lv_entry ([.int p0, .int 0, .int 11]) (n := 3) (Nat.le_of_ble_eq_true rfl)
  rw [lg_entry_eq]
  generalize (lg_sl ([.int p0, .int 0, .int 11]) ++ List.replicate (3 - (lg_sl ([.int p0, .int 0, .int 11])).length) Slot.unset).toArray = ls at hl ⊢
  have hl : lv_has ls 3 [(0, .int p0), (1, .int 0), (2, .int 11)] := hl
  refine lv_iload_n hx hb dX12_bound_0 rfl (lv_at hl 0 rfl) ?_
  refine lv_iload_n hx hb dX12_bound_1 rfl (lv_at hl 1 rfl) ?_
  refine lv_icmp_ge (tgt := 10) hx hb dX12_bound_2 (by decide) (fun hc => ?_) (fun hc => ?_)
  rotate_left; exact absurd ((fa_le _ _).mpr (by rw [show (0 : Int32).toInt = 0 from by decide]; omega)) hc
  refine lv_iload_n hx hb dX12_bound_10 rfl (lv_at hl 0 rfl) ?_
  refine lv_iload_n hx hb dX12_bound_11 rfl (lv_at hl 2 rfl) ?_
  refine lv_icmp_le (tgt := 20) hx hb dX12_bound_12 (by decide) (fun hc => ?_) (fun hc => ?_)
  rotate_left; exact absurd ((fa_le _ _).mpr (by rw [show (11 : Int32).toInt = 11 from by decide]; omega)) hc
  refine lv_iconst (v := 0) hx hb dX12_bound_20 (by decide) ?_
  have hP9 := hP.sub (ws' := []) [] rfl
  have hD9 := hD.sub (ws' := []) [] (by decide) rfl
  exact W.iret (v := 0) hx hb hr (fun t ht hW => ⟨⟨0, (fun k => [].getD k 0), rfl, rfl, by rw [ht]; exact hP9, hD9⟩, hS.F ht⟩) hS.2.2 dX12_bound_21
set_option maxHeartbeats 4000000 in
set_option maxRecDepth 100000 in
theorem kX12_row_1 (l : Launch) (dC : Nat → ClassId) (dI : Nat → Nat → Nat) (cI cQ : ClassId) (h0 h1 h2 h3 h4 h5 h6 h7 h8 h9 h10 h11 h12 h13 h14 h15 h16 h17 h18 : Nat) (p0 : Int32) (hp0l : 0 ≤ p0.toInt) (hp0h : p0.toInt ≤ 11) (sz : Nat) : Met l yX12_row vsX12_row ({ frames := 1, cells := 0, slots := 0, locals := 22 }) (va_Pc [.ref h0, .int p0] (zB dC dI cI cQ [(h0, .inr (12, [.ref h2, .ref h3, .ref h4, .ref h5, .ref h6, .ref h7, .ref h8, .ref h9, .ref h10, .int 0, .int 0, .int 10, .int 0, .int 0, .int (-9), .int 0, .ref h11, .ref h12, .ref h13, .ref h14, .int 0, .int 0, .int 0, .ref h15, .int 0, .int 0, .int 0, .int (-9), .int 0, .ref h16, .int 0, .int 0, .int 0, .ref h17, .ref h18, .ref h1, .int 0, .int 0])), (h1, .inl (cI, 12, .inl (fun _ => 0)))] sz)) (zQi dC dI (va_A [(h0, .inr (12, [.ref h2, .ref h3, .ref h4, .ref h5, .ref h6, .ref h7, .ref h8, .ref h9, .ref h10, .int 0, .int 0, .int 10, .int 0, .int 0, .int (-9), .int 0, .ref h11, .ref h12, .ref h13, .ref h14, .int 0, .int 0, .int 0, .ref h15, .int 0, .int 0, .int 0, .int (-9), .int 0, .ref h16, .int 0, .int 0, .int 0, .ref h17, .ref h18, .ref h1, .int 0, .int 0])), (h1, .inl (cI, 12, .inl (fun _ => 0)))] sz) (fun ad => []) 1) 0 0 (va_A [(h0, .inr (12, [.ref h2, .ref h3, .ref h4, .ref h5, .ref h6, .ref h7, .ref h8, .ref h9, .ref h10, .int 0, .int 0, .int 10, .int 0, .int 0, .int (-9), .int 0, .ref h11, .ref h12, .ref h13, .ref h14, .int 0, .int 0, .int 0, .ref h15, .int 0, .int 0, .int 0, .int (-9), .int 0, .ref h16, .int 0, .int 0, .int 0, .ref h17, .ref h18, .ref h1, .int 0, .int 0])), (h1, .inl (cI, 12, .inl (fun _ => 0)))] sz) := by
  refine Met.ofW (cc := cX12_row) (maxL := 3) (ret := (some .int)) (by decide) rfl ?_
  intro p e s m args below meth c s₁ B hml hv
  obtain ⟨rfl, hsz, hP, hZ, hD0⟩ := hv
  obtain ⟨hK, hAO, hN⟩ := id hZ
  have hx := B.exec
  have hb := B.bytes
  have hr := B.returns
  have hts := atoms_spec (ws := vsX12_row) B.pre
  have hown : s.vm.findClass RX12 = some m.cls := findClass_of_methodNamed B.named
  have hlocks := B.notSynchronized
  subst hsz
  have hD := hD0.self (sz := s.heap.size)
  generalize hAe : va_A [(h0, .inr (12, [.ref h2, .ref h3, .ref h4, .ref h5, .ref h6, .ref h7, .ref h8, .ref h9, .ref h10, .int 0, .int 0, .int 10, .int 0, .int 0, .int (-9), .int 0, .ref h11, .ref h12, .ref h13, .ref h14, .int 0, .int 0, .int 0, .ref h15, .int 0, .int 0, .int 0, .int (-9), .int 0, .ref h16, .int 0, .int 0, .int 0, .ref h17, .ref h18, .ref h1, .int 0, .int 0])), (h1, .inl (cI, 12, .inl (fun _ => 0)))] s.heap.size = A at hD ⊢
  have hA : ∀ q : Nat, s.heap.size ≤ q → A q := fun q h => by rw [← hAe]; exact Or.inr h
  have hS : va_S A s.heap s.heap [] := va_S.rf
  have hP : va_P (dC, dI) vwCl [(h0, .inr (12, [.ref h2, .ref h3, .ref h4, .ref h5, .ref h6, .ref h7, .ref h8, .ref h9, .ref h10, .int 0, .int 0, .int 10, .int 0, .int 0, .int (-9), .int 0, .ref h11, .ref h12, .ref h13, .ref h14, .int 0, .int 0, .int 0, .ref h15, .int 0, .int 0, .int 0, .int (-9), .int 0, .ref h16, .int 0, .int 0, .int 0, .ref h17, .ref h18, .ref h1, .int 0, .int 0])), (h1, .inl (cI, 12, .inl (fun _ => 0)))] s.heap := hP
  have hl := lv_entry ([.ref h0, .int p0]) (n := 3) (Nat.le_of_ble_eq_true rfl)
  rw [lg_entry_eq]
  generalize (lg_sl ([.ref h0, .int p0]) ++ List.replicate (3 - (lg_sl ([.ref h0, .int p0])).length) Slot.unset).toArray = ls at hl ⊢
  have hl : lv_has ls 3 [(0, .ref h0), (1, .int p0)] := hl
  refine lv_iload_n hx hb dX12_row_0 rfl (lv_at hl 1 rfl) ?_
  refine lv_iconst (v := 0) hx hb dX12_row_1 (by decide) ?_
  refine lv_bipush (v := 11) hx hb dX12_row_2 (by decide) ?_
  refine z_calli (wc := []) (wr := [(h0, .inr (12, [.ref h2, .ref h3, .ref h4, .ref h5, .ref h6, .ref h7, .ref h8, .ref h9, .ref h10, .int 0, .int 0, .int 10, .int 0, .int 0, .int (-9), .int 0, .ref h11, .ref h12, .ref h13, .ref h14, .int 0, .int 0, .int 0, .ref h15, .int 0, .int 0, .int 0, .int (-9), .int 0, .ref h16, .int 0, .int 0, .int 0, .ref h17, .ref h18, .ref h1, .int 0, .int 0])), (h1, .inl (cI, 12, .inl (fun _ => 0)))]) (w1 := (fun _ => [])) (va_runS (As := [.int p0, .int 0, .int 11]) (rest := []) ⟨hx, hb, hml, hown, hts⟩ (kX12_bound_10 l dC dI cI cQ p0 hp0l hp0h s.heap.size) (va_cwS 3 hts gv_X12_row_X12_bound_82 rfl rfl rfl (by decide +kernel) ⟨Nat.le_of_ble_eq_true rfl, Nat.le_of_ble_eq_true rfl⟩) ⟨z_blind, z_pre hZ hP hD [] rfl (by decide)⟩ rfl rfl hl.1 rfl (lv_room (Nat.le_of_ble_eq_true rfl)) dX12_row_4 ⟨Nat.le_of_ble_eq_true rfl, Nat.le_of_ble_eq_true rfl⟩) hP hD hS hA [] [0, 1] rfl rfl (by decide) (by decide) (fun _ H locs hP hD hS => ?_)
  have hP : va_P (dC, dI) vwCl [(h0, .inr (12, [.ref h2, .ref h3, .ref h4, .ref h5, .ref h6, .ref h7, .ref h8, .ref h9, .ref h10, .int 0, .int 0, .int 10, .int 0, .int 0, .int (-9), .int 0, .ref h11, .ref h12, .ref h13, .ref h14, .int 0, .int 0, .int 0, .ref h15, .int 0, .int 0, .int 0, .int (-9), .int 0, .ref h16, .int 0, .int 0, .int 0, .ref h17, .ref h18, .ref h1, .int 0, .int 0])), (h1, .inl (cI, 12, .inl (fun _ => 0)))] H := hP
  have hD : va_D A [(h0, .inr (12, [.ref h2, .ref h3, .ref h4, .ref h5, .ref h6, .ref h7, .ref h8, .ref h9, .ref h10, .int 0, .int 0, .int 10, .int 0, .int 0, .int (-9), .int 0, .ref h11, .ref h12, .ref h13, .ref h14, .int 0, .int 0, .int 0, .ref h15, .int 0, .int 0, .int 0, .int (-9), .int 0, .ref h16, .int 0, .int 0, .int 0, .ref h17, .ref h18, .ref h1, .int 0, .int 0])), (h1, .inl (cI, 12, .inl (fun _ => 0)))] := hD
  refine lv_istore_n (lv' := [(2, .int 0), (0, .ref h0), (1, .int p0)]) hx hb dX12_row_7 rfl hl (by decide) rfl (fun ls hl => ?_)
  refine lv_iload_n hx hb dX12_row_8 rfl (lv_at hl 0 rfl) ?_
  refine lv_if_ne (tgt := 24) hx hb dX12_row_9 (by decide) (fun hc => ?_) (fun hc => ?_)
  · exact absurd hc (by decide)
  refine lv_aload_n hx hb dX12_row_12 rfl (lv_at hl 1 rfl) ?_
  refine va_get (D := (dC, dI)) (ci := 12) (v := .int 0) (C := RX12) (T := TX12) (N := 38) hx hb hts in_X12_row_X12 hown hK hP 0 rfl rfl 36 (by decide) (hts (.fieldLink RX12 276 "EachOnHisCueModel" "rowMany" "I") (by decide +kernel)) (fun _ h9 => h9) rfl dX12_row_13 ?_
  refine lv_bipush (v := 12) hx hb dX12_row_16 (by decide) ?_
  refine lv_icmp_ne (tgt := 24) hx hb dX12_row_18 (by decide) (fun hc => ?_) (fun hc => ?_)
  rotate_left; exact absurd hc (by decide)
  refine lv_iload_n hx hb dX12_row_24 rfl (lv_at hl 0 rfl) ?_
  refine lv_if_eq (tgt := 34) hx hb dX12_row_25 (by decide) (fun hc => ?_) (fun hc => ?_)
  rotate_left; exact absurd hc (by decide)
  refine lv_aload_n hx hb dX12_row_34 rfl (lv_at hl 1 rfl) ?_
  refine va_get (D := (dC, dI)) (ci := 12) (v := .ref h1) (C := RX12) (T := TX12) (N := 38) hx hb hts in_X12_row_X12 hown hK hP 0 rfl rfl 35 (by decide) (hts (.fieldLink RX12 71 "EachOnHisCueModel" "row" "[I") (by decide +kernel)) (fun _ h9 => h9) rfl dX12_row_35 ?_
  refine lv_aload_n hx hb dX12_row_38 rfl (lv_at hl 1 rfl) ?_
  refine va_get (D := (dC, dI)) (ci := 12) (v := .int 0) (C := RX12) (T := TX12) (N := 38) hx hb hts in_X12_row_X12 hown hK hP 0 rfl rfl 36 (by decide) (hts (.fieldLink RX12 276 "EachOnHisCueModel" "rowMany" "I") (by decide +kernel)) (fun _ h9 => h9) rfl dX12_row_39 ?_
  refine lv_iload_n hx hb dX12_row_42 rfl (lv_at hl 2 rfl) ?_
  refine va_iast hx hb hK hP hD hS 1 0 rfl rfl (by unfold vp_in; decide) dX12_row_43 (fun H locs hP hD hS => ?_)
  have hP : va_P (dC, dI) vwCl [(h0, .inr (12, [.ref h2, .ref h3, .ref h4, .ref h5, .ref h6, .ref h7, .ref h8, .ref h9, .ref h10, .int 0, .int 0, .int 10, .int 0, .int 0, .int (-9), .int 0, .ref h11, .ref h12, .ref h13, .ref h14, .int 0, .int 0, .int 0, .ref h15, .int 0, .int 0, .int 0, .int (-9), .int 0, .ref h16, .int 0, .int 0, .int 0, .ref h17, .ref h18, .ref h1, .int 0, .int 0])), (h1, .inl (cI, 12, .inl (upd (fun _ => 0) 0 p0)))] H := hP
  have hD : va_D A [(h0, .inr (12, [.ref h2, .ref h3, .ref h4, .ref h5, .ref h6, .ref h7, .ref h8, .ref h9, .ref h10, .int 0, .int 0, .int 10, .int 0, .int 0, .int (-9), .int 0, .ref h11, .ref h12, .ref h13, .ref h14, .int 0, .int 0, .int 0, .ref h15, .int 0, .int 0, .int 0, .int (-9), .int 0, .ref h16, .int 0, .int 0, .int 0, .ref h17, .ref h18, .ref h1, .int 0, .int 0])), (h1, .inl (cI, 12, .inl (upd (fun _ => 0) 0 p0)))] := hD
  refine lv_aload_n hx hb dX12_row_44 rfl (lv_at hl 1 rfl) ?_
  refine lv_dup hx hb dX12_row_45 rfl ?_
  refine va_get (D := (dC, dI)) (ci := 12) (v := .int 0) (C := RX12) (T := TX12) (N := 38) hx hb hts in_X12_row_X12 hown hK hP 0 rfl rfl 36 (by decide) (hts (.fieldLink RX12 276 "EachOnHisCueModel" "rowMany" "I") (by decide +kernel)) (fun _ h9 => h9) rfl dX12_row_46 ?_
  refine lv_iconst (v := 1) hx hb dX12_row_49 (by decide) ?_
  refine lv_iadd hx hb dX12_row_50 ?_
  refine lv_topi (fun y2 ey2 => ?_)
  obtain rfl : y2 = 1 := ey2.trans (by decide)
  refine va_put (D := (dC, dI)) (ci := 12) (v := .int 1) (ty := .int) (C := RX12) (T := TX12) (N := 38) hx hb hts in_X12_row_X12 tyX12 tyX12_ok nmX12 hown hK hP hD hS 0 rfl rfl 36 (by decide) (hts (.fieldLink RX12 276 "EachOnHisCueModel" "rowMany" "I") (by decide +kernel)) (fun _ h9 => h9) rfl (by decide +kernel) rfl rfl (Nat.le_of_ble_eq_true rfl) dX12_row_51 (fun H locs hP hD hS => ?_)
  have hP : va_P (dC, dI) vwCl [(h0, .inr (12, [.ref h2, .ref h3, .ref h4, .ref h5, .ref h6, .ref h7, .ref h8, .ref h9, .ref h10, .int 0, .int 0, .int 10, .int 0, .int 0, .int (-9), .int 0, .ref h11, .ref h12, .ref h13, .ref h14, .int 0, .int 0, .int 0, .ref h15, .int 0, .int 0, .int 0, .int (-9), .int 0, .ref h16, .int 0, .int 0, .int 0, .ref h17, .ref h18, .ref h1, .int 1, .int 0])), (h1, .inl (cI, 12, .inl (upd (fun _ => 0) 0 p0)))] H := hP
  have hD : va_D A [(h0, .inr (12, [.ref h2, .ref h3, .ref h4, .ref h5, .ref h6, .ref h7, .ref h8, .ref h9, .ref h10, .int 0, .int 0, .int 10, .int 0, .int 0, .int (-9), .int 0, .ref h11, .ref h12, .ref h13, .ref h14, .int 0, .int 0, .int 0, .ref h15, .int 0, .int 0, .int 0, .int (-9), .int 0, .ref h16, .int 0, .int 0, .int 0, .ref h17, .ref h18, .ref h1, .int 1, .int 0])), (h1, .inl (cI, 12, .inl (upd (fun _ => 0) 0 p0)))] := hD
  refine lv_aload_n hx hb dX12_row_54 rfl (lv_at hl 1 rfl) ?_
  refine va_get (D := (dC, dI)) (ci := 12) (v := .int 1) (C := RX12) (T := TX12) (N := 38) hx hb hts in_X12_row_X12 hown hK hP 0 rfl rfl 36 (by decide) (hts (.fieldLink RX12 276 "EachOnHisCueModel" "rowMany" "I") (by decide +kernel)) (fun _ h9 => h9) rfl dX12_row_55 ?_
  have hP9 := hP.sub (ws' := []) [] rfl
  have hD9 := hD.sub (ws' := []) [] (by decide) rfl
  exact W.iret (v := 1) hx hb hr (fun t ht hW => ⟨⟨1, (fun k => [].getD k 0), rfl, rfl, by rw [ht]; exact hP9, hD9⟩, hS.F ht⟩) hS.2.2 dX12_row_58
set_option maxHeartbeats 4000000 in
set_option maxRecDepth 100000 in
theorem kX12_bound_11 (l : Launch) (dC : Nat → ClassId) (dI : Nat → Nat → Nat) (cI cQ : ClassId) (p0 : Int32) (hp0l : 12 ≤ p0.toInt) (hp0h : p0.toInt ≤ 2147483647) (sz : Nat) : Met l yX12_bound vsX12_bound ({ frames := 0, cells := 0, slots := 0, locals := 0 }) (va_Pc [.int p0, .int 0, .int 11] (zB dC dI cI cQ [] sz)) (zQi dC dI (va_A [] sz) (fun ad => []) (-6)) 0 0 (va_A [] sz) := by
  refine Met.ofW (cc := cX12_bound) (maxL := 3) (ret := (some .int)) (by decide) rfl ?_
  intro p e s m args below meth c s₁ B hml hv
  obtain ⟨rfl, hsz, hP, hZ, hD0⟩ := hv
  obtain ⟨hK, hAO, hN⟩ := id hZ
  have hx := B.exec
  have hb := B.bytes
  have hr := B.returns
  have hts := atoms_spec (ws := vsX12_bound) B.pre
  have hown : s.vm.findClass RX12 = some m.cls := findClass_of_methodNamed B.named
  have hlocks := B.notSynchronized
  subst hsz
  have hD := hD0.self (sz := s.heap.size)
  generalize hAe : va_A [] s.heap.size = A at hD ⊢
  have hA : ∀ q : Nat, s.heap.size ≤ q → A q := fun q h => by rw [← hAe]; exact Or.inr h
  have hS : va_S A s.heap s.heap [] := va_S.rf
  have hP : va_P (dC, dI) vwCl [] s.heap := hP
  have hl := lv_entry ([.int p0, .int 0, .int 11]) (n := 3) (Nat.le_of_ble_eq_true rfl)
  rw [lg_entry_eq]
  generalize (lg_sl ([.int p0, .int 0, .int 11]) ++ List.replicate (3 - (lg_sl ([.int p0, .int 0, .int 11])).length) Slot.unset).toArray = ls at hl ⊢
  have hl : lv_has ls 3 [(0, .int p0), (1, .int 0), (2, .int 11)] := hl
  refine lv_iload_n hx hb dX12_bound_0 rfl (lv_at hl 0 rfl) ?_
  refine lv_iload_n hx hb dX12_bound_1 rfl (lv_at hl 1 rfl) ?_
  refine lv_icmp_ge (tgt := 10) hx hb dX12_bound_2 (by decide) (fun hc => ?_) (fun hc => ?_)
  rotate_left; exact absurd ((fa_le _ _).mpr (by rw [show (0 : Int32).toInt = 0 from by decide]; omega)) hc
  refine lv_iload_n hx hb dX12_bound_10 rfl (lv_at hl 0 rfl) ?_
  refine lv_iload_n hx hb dX12_bound_11 rfl (lv_at hl 2 rfl) ?_
  refine lv_icmp_le (tgt := 20) hx hb dX12_bound_12 (by decide) (fun hc => ?_) (fun hc => ?_)
  · exact absurd ((fa_le _ _).mp hc) (by rw [show (11 : Int32).toInt = 11 from by decide]; omega)
  refine lv_bipush (v := (-6)) hx hb dX12_bound_15 (by decide) ?_
  refine lv_goto (tgt := 21) hx hb dX12_bound_17 (by decide) ?_
  have hP9 := hP.sub (ws' := []) [] rfl
  have hD9 := hD.sub (ws' := []) [] (by decide) rfl
  exact W.iret (v := (-6)) hx hb hr (fun t ht hW => ⟨⟨(-6), (fun k => [].getD k 0), rfl, rfl, by rw [ht]; exact hP9, hD9⟩, hS.F ht⟩) hS.2.2 dX12_bound_21
set_option maxHeartbeats 4000000 in
set_option maxRecDepth 100000 in
theorem kX12_row_2 (l : Launch) (dC : Nat → ClassId) (dI : Nat → Nat → Nat) (cI cQ : ClassId) (h0 h1 h2 h3 h4 h5 h6 h7 h8 h9 h10 h11 h12 h13 h14 h15 h16 h17 h18 : Nat) (p0 : Int32) (hp0l : 12 ≤ p0.toInt) (hp0h : p0.toInt ≤ 2147483647) (sz : Nat) : Met l yX12_row vsX12_row ({ frames := 1, cells := 0, slots := 0, locals := 22 }) (va_Pc [.ref h0, .int p0] (zB dC dI cI cQ [(h0, .inr (12, [.ref h1, .ref h2, .ref h3, .ref h4, .ref h5, .ref h6, .ref h7, .ref h8, .ref h9, .int 0, .int 0, .int 10, .int 0, .int 0, .int (-9), .int 0, .ref h10, .ref h11, .ref h12, .ref h13, .int 0, .int 0, .int 0, .ref h14, .int 0, .int 0, .int 0, .int (-9), .int 0, .ref h15, .int 0, .int 0, .int 0, .ref h16, .ref h17, .ref h18, .int 0, .int 0])), (h1, .inl (cI, 7, .inl (fun _ => 0)))] sz)) (zQi dC dI (va_A [(h0, .inr (12, [.ref h1, .ref h2, .ref h3, .ref h4, .ref h5, .ref h6, .ref h7, .ref h8, .ref h9, .int 0, .int 0, .int 10, .int 0, .int 0, .int (-9), .int 0, .ref h10, .ref h11, .ref h12, .ref h13, .int 0, .int 0, .int 0, .ref h14, .int 0, .int 0, .int 0, .int (-9), .int 0, .ref h15, .int 0, .int 0, .int 0, .ref h16, .ref h17, .ref h18, .int 0, .int 0])), (h1, .inl (cI, 7, .inl (fun _ => 0)))] sz) (fun ad => []) (-6)) 0 0 (va_A [(h0, .inr (12, [.ref h1, .ref h2, .ref h3, .ref h4, .ref h5, .ref h6, .ref h7, .ref h8, .ref h9, .int 0, .int 0, .int 10, .int 0, .int 0, .int (-9), .int 0, .ref h10, .ref h11, .ref h12, .ref h13, .int 0, .int 0, .int 0, .ref h14, .int 0, .int 0, .int 0, .int (-9), .int 0, .ref h15, .int 0, .int 0, .int 0, .ref h16, .ref h17, .ref h18, .int 0, .int 0])), (h1, .inl (cI, 7, .inl (fun _ => 0)))] sz) := by
  refine Met.ofW (cc := cX12_row) (maxL := 3) (ret := (some .int)) (by decide) rfl ?_
  intro p e s m args below meth c s₁ B hml hv
  obtain ⟨rfl, hsz, hP, hZ, hD0⟩ := hv
  obtain ⟨hK, hAO, hN⟩ := id hZ
  have hx := B.exec
  have hb := B.bytes
  have hr := B.returns
  have hts := atoms_spec (ws := vsX12_row) B.pre
  have hown : s.vm.findClass RX12 = some m.cls := findClass_of_methodNamed B.named
  have hlocks := B.notSynchronized
  subst hsz
  have hD := hD0.self (sz := s.heap.size)
  generalize hAe : va_A [(h0, .inr (12, [.ref h1, .ref h2, .ref h3, .ref h4, .ref h5, .ref h6, .ref h7, .ref h8, .ref h9, .int 0, .int 0, .int 10, .int 0, .int 0, .int (-9), .int 0, .ref h10, .ref h11, .ref h12, .ref h13, .int 0, .int 0, .int 0, .ref h14, .int 0, .int 0, .int 0, .int (-9), .int 0, .ref h15, .int 0, .int 0, .int 0, .ref h16, .ref h17, .ref h18, .int 0, .int 0])), (h1, .inl (cI, 7, .inl (fun _ => 0)))] s.heap.size = A at hD ⊢
  have hA : ∀ q : Nat, s.heap.size ≤ q → A q := fun q h => by rw [← hAe]; exact Or.inr h
  have hS : va_S A s.heap s.heap [] := va_S.rf
  have hP : va_P (dC, dI) vwCl [(h0, .inr (12, [.ref h1, .ref h2, .ref h3, .ref h4, .ref h5, .ref h6, .ref h7, .ref h8, .ref h9, .int 0, .int 0, .int 10, .int 0, .int 0, .int (-9), .int 0, .ref h10, .ref h11, .ref h12, .ref h13, .int 0, .int 0, .int 0, .ref h14, .int 0, .int 0, .int 0, .int (-9), .int 0, .ref h15, .int 0, .int 0, .int 0, .ref h16, .ref h17, .ref h18, .int 0, .int 0])), (h1, .inl (cI, 7, .inl (fun _ => 0)))] s.heap := hP
  have hl := lv_entry ([.ref h0, .int p0]) (n := 3) (Nat.le_of_ble_eq_true rfl)
  rw [lg_entry_eq]
  generalize (lg_sl ([.ref h0, .int p0]) ++ List.replicate (3 - (lg_sl ([.ref h0, .int p0])).length) Slot.unset).toArray = ls at hl ⊢
  have hl : lv_has ls 3 [(0, .ref h0), (1, .int p0)] := hl
  refine lv_iload_n hx hb dX12_row_0 rfl (lv_at hl 1 rfl) ?_
  refine lv_iconst (v := 0) hx hb dX12_row_1 (by decide) ?_
  refine lv_bipush (v := 11) hx hb dX12_row_2 (by decide) ?_
  refine z_calli (wc := []) (wr := [(h0, .inr (12, [.ref h1, .ref h2, .ref h3, .ref h4, .ref h5, .ref h6, .ref h7, .ref h8, .ref h9, .int 0, .int 0, .int 10, .int 0, .int 0, .int (-9), .int 0, .ref h10, .ref h11, .ref h12, .ref h13, .int 0, .int 0, .int 0, .ref h14, .int 0, .int 0, .int 0, .int (-9), .int 0, .ref h15, .int 0, .int 0, .int 0, .ref h16, .ref h17, .ref h18, .int 0, .int 0])), (h1, .inl (cI, 7, .inl (fun _ => 0)))]) (w1 := (fun _ => [])) (va_runS (As := [.int p0, .int 0, .int 11]) (rest := []) ⟨hx, hb, hml, hown, hts⟩ (kX12_bound_11 l dC dI cI cQ p0 hp0l hp0h s.heap.size) (va_cwS 3 hts gv_X12_row_X12_bound_82 rfl rfl rfl (by decide +kernel) ⟨Nat.le_of_ble_eq_true rfl, Nat.le_of_ble_eq_true rfl⟩) ⟨z_blind, z_pre hZ hP hD [] rfl (by decide)⟩ rfl rfl hl.1 rfl (lv_room (Nat.le_of_ble_eq_true rfl)) dX12_row_4 ⟨Nat.le_of_ble_eq_true rfl, Nat.le_of_ble_eq_true rfl⟩) hP hD hS hA [] [0, 1] rfl rfl (by decide) (by decide) (fun _ H locs hP hD hS => ?_)
  have hP : va_P (dC, dI) vwCl [(h0, .inr (12, [.ref h1, .ref h2, .ref h3, .ref h4, .ref h5, .ref h6, .ref h7, .ref h8, .ref h9, .int 0, .int 0, .int 10, .int 0, .int 0, .int (-9), .int 0, .ref h10, .ref h11, .ref h12, .ref h13, .int 0, .int 0, .int 0, .ref h14, .int 0, .int 0, .int 0, .int (-9), .int 0, .ref h15, .int 0, .int 0, .int 0, .ref h16, .ref h17, .ref h18, .int 0, .int 0])), (h1, .inl (cI, 7, .inl (fun _ => 0)))] H := hP
  have hD : va_D A [(h0, .inr (12, [.ref h1, .ref h2, .ref h3, .ref h4, .ref h5, .ref h6, .ref h7, .ref h8, .ref h9, .int 0, .int 0, .int 10, .int 0, .int 0, .int (-9), .int 0, .ref h10, .ref h11, .ref h12, .ref h13, .int 0, .int 0, .int 0, .ref h14, .int 0, .int 0, .int 0, .int (-9), .int 0, .ref h15, .int 0, .int 0, .int 0, .ref h16, .ref h17, .ref h18, .int 0, .int 0])), (h1, .inl (cI, 7, .inl (fun _ => 0)))] := hD
  refine lv_istore_n (lv' := [(2, .int (-6)), (0, .ref h0), (1, .int p0)]) hx hb dX12_row_7 rfl hl (by decide) rfl (fun ls hl => ?_)
  refine lv_iload_n hx hb dX12_row_8 rfl (lv_at hl 0 rfl) ?_
  refine lv_if_ne (tgt := 24) hx hb dX12_row_9 (by decide) (fun hc => ?_) (fun hc => ?_)
  rotate_left; exact absurd hc (by decide)
  refine lv_iload_n hx hb dX12_row_24 rfl (lv_at hl 0 rfl) ?_
  refine lv_if_eq (tgt := 34) hx hb dX12_row_25 (by decide) (fun hc => ?_) (fun hc => ?_)
  · exact absurd hc (by decide)
  refine lv_aload_n hx hb dX12_row_28 rfl (lv_at hl 1 rfl) ?_
  refine lv_iload_n hx hb dX12_row_29 rfl (lv_at hl 0 rfl) ?_
  refine z_calli (wc := [(h0, .inr (12, [.ref h1, .ref h2, .ref h3, .ref h4, .ref h5, .ref h6, .ref h7, .ref h8, .ref h9, .int 0, .int 0, .int 10, .int 0, .int 0, .int (-9), .int 0, .ref h10, .ref h11, .ref h12, .ref h13, .int 0, .int 0, .int 0, .ref h14, .int 0, .int 0, .int 0, .int (-9), .int 0, .ref h15, .int 0, .int 0, .int 0, .ref h16, .ref h17, .ref h18, .int 0, .int 0])), (h1, .inl (cI, 7, .inl (fun _ => 0)))]) (wr := []) (w1 := (fun _ => [(h0, .inr (12, [.ref h1, .ref h2, .ref h3, .ref h4, .ref h5, .ref h6, .ref h7, .ref h8, .ref h9, .int 0, .int 0, .int 10, .int 0, .int 0, .int (-9), .int 0, .ref h10, .ref h11, .ref h12, .ref h13, .int 0, .int 0, .int 0, .ref h14, .int 0, .int 0, .int 0, .int (-9), .int 0, .ref h15, .int 0, .int 0, .int 0, .ref h16, .ref h17, .ref h18, .int 0, .int 0])), (h1, .inl (cI, 7, .inl (upd (fun _ => 0) 6 1)))])) (va_runV (As := [.int (-6)]) (rest := []) ⟨hx, hb, hml, hown, hts⟩ (kX12_no_1 l dC dI cI cQ h0 h1 h2 h3 h4 h5 h6 h7 h8 h9 h10 h11 h12 h13 h14 h15 h16 h17 h18 H.size) (cwV 1 hts gv_X12_row_X12_no_89 rfl rfl rfl (by decide +kernel) ⟨Nat.le_of_ble_eq_true rfl, Nat.le_of_ble_eq_true rfl⟩) ⟨z_blind, va_recv hK hP (ci := 12) (q0 := 0) rfl rfl, z_pre hZ hP hD [0, 1] rfl (by decide)⟩ rfl rfl hl.1 rfl (lv_room (Nat.le_of_ble_eq_true rfl)) dX12_row_30 ⟨Nat.le_of_ble_eq_true rfl, Nat.le_of_ble_eq_true rfl⟩) hP hD hS hA [0, 1] [] rfl rfl (by decide) (by decide) (fun _ H locs hP hD hS => ?_)
  have hP : va_P (dC, dI) vwCl [(h0, .inr (12, [.ref h1, .ref h2, .ref h3, .ref h4, .ref h5, .ref h6, .ref h7, .ref h8, .ref h9, .int 0, .int 0, .int 10, .int 0, .int 0, .int (-9), .int 0, .ref h10, .ref h11, .ref h12, .ref h13, .int 0, .int 0, .int 0, .ref h14, .int 0, .int 0, .int 0, .int (-9), .int 0, .ref h15, .int 0, .int 0, .int 0, .ref h16, .ref h17, .ref h18, .int 0, .int 0])), (h1, .inl (cI, 7, .inl (upd (fun _ => 0) 6 1)))] H := hP
  have hD : va_D A [(h0, .inr (12, [.ref h1, .ref h2, .ref h3, .ref h4, .ref h5, .ref h6, .ref h7, .ref h8, .ref h9, .int 0, .int 0, .int 10, .int 0, .int 0, .int (-9), .int 0, .ref h10, .ref h11, .ref h12, .ref h13, .int 0, .int 0, .int 0, .ref h14, .int 0, .int 0, .int 0, .int (-9), .int 0, .ref h15, .int 0, .int 0, .int 0, .ref h16, .ref h17, .ref h18, .int 0, .int 0])), (h1, .inl (cI, 7, .inl (upd (fun _ => 0) 6 1)))] := hD
  have hP9 := hP.sub (ws' := []) [] rfl
  have hD9 := hD.sub (ws' := []) [] (by decide) rfl
  exact W.iret (v := (-6)) hx hb hr (fun t ht hW => ⟨⟨(-6), (fun k => [].getD k 0), rfl, rfl, by rw [ht]; exact hP9, hD9⟩, hS.F ht⟩) hS.2.2 dX12_row_33
set_option maxHeartbeats 4000000 in
set_option maxRecDepth 100000 in
theorem kX12_judge (l : Launch) (dC : Nat → ClassId) (dI : Nat → Nat → Nat) (cI cQ : ClassId) (h0 h1 h2 h3 h4 h5 h6 h7 h8 h9 h10 h11 h12 h13 h14 h15 h16 h17 h18 : Nat) (sz : Nat) : Met l yX12_judge vsX12_judge ({ frames := 1, cells := 0, slots := 0, locals := 21 }) (va_Pc [.ref h0] (zB dC dI cI cQ [(h0, .inr (12, [.ref h1, .ref h2, .ref h3, .ref h4, .ref h5, .ref h6, .ref h7, .ref h8, .ref h9, .int 0, .int 0, .int 10, .int 0, .int 0, .int (-9), .int 0, .ref h10, .ref h11, .ref h12, .ref h13, .int 0, .int 0, .int 0, .ref h14, .int 0, .int 0, .int 0, .int (-9), .int 0, .ref h15, .int 0, .int 0, .int 0, .ref h16, .ref h17, .ref h18, .int 0, .int 0])), (h1, .inl (cI, 7, .inl (fun _ => 0)))] sz)) (zQi dC dI (va_A [(h0, .inr (12, [.ref h1, .ref h2, .ref h3, .ref h4, .ref h5, .ref h6, .ref h7, .ref h8, .ref h9, .int 0, .int 0, .int 10, .int 0, .int 0, .int (-9), .int 0, .ref h10, .ref h11, .ref h12, .ref h13, .int 0, .int 0, .int 0, .ref h14, .int 0, .int 0, .int 0, .int (-9), .int 0, .ref h15, .int 0, .int 0, .int 0, .ref h16, .ref h17, .ref h18, .int 0, .int 0])), (h1, .inl (cI, 7, .inl (fun _ => 0)))] sz) (fun ad => []) (-3)) 0 0 (va_A [(h0, .inr (12, [.ref h1, .ref h2, .ref h3, .ref h4, .ref h5, .ref h6, .ref h7, .ref h8, .ref h9, .int 0, .int 0, .int 10, .int 0, .int 0, .int (-9), .int 0, .ref h10, .ref h11, .ref h12, .ref h13, .int 0, .int 0, .int 0, .ref h14, .int 0, .int 0, .int 0, .int (-9), .int 0, .ref h15, .int 0, .int 0, .int 0, .ref h16, .ref h17, .ref h18, .int 0, .int 0])), (h1, .inl (cI, 7, .inl (fun _ => 0)))] sz) := by
  refine Met.ofW (cc := cX12_judge) (maxL := 2) (ret := (some .int)) (by decide) rfl ?_
  intro p e s m args below meth c s₁ B hml hv
  obtain ⟨rfl, hsz, hP, hZ, hD0⟩ := hv
  obtain ⟨hK, hAO, hN⟩ := id hZ
  have hx := B.exec
  have hb := B.bytes
  have hr := B.returns
  have hts := atoms_spec (ws := vsX12_judge) B.pre
  have hown : s.vm.findClass RX12 = some m.cls := findClass_of_methodNamed B.named
  have hlocks := B.notSynchronized
  subst hsz
  have hD := hD0.self (sz := s.heap.size)
  generalize hAe : va_A [(h0, .inr (12, [.ref h1, .ref h2, .ref h3, .ref h4, .ref h5, .ref h6, .ref h7, .ref h8, .ref h9, .int 0, .int 0, .int 10, .int 0, .int 0, .int (-9), .int 0, .ref h10, .ref h11, .ref h12, .ref h13, .int 0, .int 0, .int 0, .ref h14, .int 0, .int 0, .int 0, .int (-9), .int 0, .ref h15, .int 0, .int 0, .int 0, .ref h16, .ref h17, .ref h18, .int 0, .int 0])), (h1, .inl (cI, 7, .inl (fun _ => 0)))] s.heap.size = A at hD ⊢
  have hA : ∀ q : Nat, s.heap.size ≤ q → A q := fun q h => by rw [← hAe]; exact Or.inr h
  have hS : va_S A s.heap s.heap [] := va_S.rf
  have hP : va_P (dC, dI) vwCl [(h0, .inr (12, [.ref h1, .ref h2, .ref h3, .ref h4, .ref h5, .ref h6, .ref h7, .ref h8, .ref h9, .int 0, .int 0, .int 10, .int 0, .int 0, .int (-9), .int 0, .ref h10, .ref h11, .ref h12, .ref h13, .int 0, .int 0, .int 0, .ref h14, .int 0, .int 0, .int 0, .int (-9), .int 0, .ref h15, .int 0, .int 0, .int 0, .ref h16, .ref h17, .ref h18, .int 0, .int 0])), (h1, .inl (cI, 7, .inl (fun _ => 0)))] s.heap := hP
  have hl := lv_entry ([.ref h0]) (n := 2) (Nat.le_of_ble_eq_true rfl)
  rw [lg_entry_eq]
  generalize (lg_sl ([.ref h0]) ++ List.replicate (2 - (lg_sl ([.ref h0])).length) Slot.unset).toArray = ls at hl ⊢
  have hl : lv_has ls 2 [(0, .ref h0)] := hl
  refine lv_aload_n hx hb dX12_judge_0 rfl (lv_at hl 0 rfl) ?_
  refine va_get (D := (dC, dI)) (ci := 12) (v := .int 0) (C := RX12) (T := TX12) (N := 38) hx hb hts in_X12_judge_X12 hown hK hP 0 rfl rfl 10 (by decide) (hts (.fieldLink RX12 79 "EachOnHisCueModel" "lines" "I") (by decide +kernel)) (fun _ h9 => h9) rfl dX12_judge_1 ?_
  refine lv_if_ne (tgt := 14) hx hb dX12_judge_4 (by decide) (fun hc => ?_) (fun hc => ?_)
  · exact absurd hc (by decide)
  refine lv_aload_n hx hb dX12_judge_7 rfl (lv_at hl 0 rfl) ?_
  refine lv_bipush (v := (-3)) hx hb dX12_judge_8 (by decide) ?_
  refine z_calli (wc := [(h0, .inr (12, [.ref h1, .ref h2, .ref h3, .ref h4, .ref h5, .ref h6, .ref h7, .ref h8, .ref h9, .int 0, .int 0, .int 10, .int 0, .int 0, .int (-9), .int 0, .ref h10, .ref h11, .ref h12, .ref h13, .int 0, .int 0, .int 0, .ref h14, .int 0, .int 0, .int 0, .int (-9), .int 0, .ref h15, .int 0, .int 0, .int 0, .ref h16, .ref h17, .ref h18, .int 0, .int 0])), (h1, .inl (cI, 7, .inl (fun _ => 0)))]) (wr := []) (w1 := (fun _ => [(h0, .inr (12, [.ref h1, .ref h2, .ref h3, .ref h4, .ref h5, .ref h6, .ref h7, .ref h8, .ref h9, .int 0, .int 0, .int 10, .int 0, .int 0, .int (-9), .int 0, .ref h10, .ref h11, .ref h12, .ref h13, .int 0, .int 0, .int 0, .ref h14, .int 0, .int 0, .int 0, .int (-9), .int 0, .ref h15, .int 0, .int 0, .int 0, .ref h16, .ref h17, .ref h18, .int 0, .int 0])), (h1, .inl (cI, 7, .inl (upd (fun _ => 0) 3 1)))])) (va_runV (As := [.int (-3)]) (rest := []) ⟨hx, hb, hml, hown, hts⟩ (kX12_no_4 l dC dI cI cQ h0 h1 h2 h3 h4 h5 h6 h7 h8 h9 h10 h11 h12 h13 h14 h15 h16 h17 h18 s.heap.size) (cwV 1 hts gv_X12_judge_X12_no_89 rfl rfl rfl (by decide +kernel) ⟨Nat.le_of_ble_eq_true rfl, Nat.le_of_ble_eq_true rfl⟩) ⟨z_blind, va_recv hK hP (ci := 12) (q0 := 0) rfl rfl, z_pre hZ hP hD [0, 1] rfl (by decide)⟩ rfl rfl hl.1 rfl (lv_room (Nat.le_of_ble_eq_true rfl)) dX12_judge_10 ⟨Nat.le_of_ble_eq_true rfl, Nat.le_of_ble_eq_true rfl⟩) hP hD hS hA [0, 1] [] rfl rfl (by decide) (by decide) (fun _ H locs hP hD hS => ?_)
  have hP : va_P (dC, dI) vwCl [(h0, .inr (12, [.ref h1, .ref h2, .ref h3, .ref h4, .ref h5, .ref h6, .ref h7, .ref h8, .ref h9, .int 0, .int 0, .int 10, .int 0, .int 0, .int (-9), .int 0, .ref h10, .ref h11, .ref h12, .ref h13, .int 0, .int 0, .int 0, .ref h14, .int 0, .int 0, .int 0, .int (-9), .int 0, .ref h15, .int 0, .int 0, .int 0, .ref h16, .ref h17, .ref h18, .int 0, .int 0])), (h1, .inl (cI, 7, .inl (upd (fun _ => 0) 3 1)))] H := hP
  have hD : va_D A [(h0, .inr (12, [.ref h1, .ref h2, .ref h3, .ref h4, .ref h5, .ref h6, .ref h7, .ref h8, .ref h9, .int 0, .int 0, .int 10, .int 0, .int 0, .int (-9), .int 0, .ref h10, .ref h11, .ref h12, .ref h13, .int 0, .int 0, .int 0, .ref h14, .int 0, .int 0, .int 0, .int (-9), .int 0, .ref h15, .int 0, .int 0, .int 0, .ref h16, .ref h17, .ref h18, .int 0, .int 0])), (h1, .inl (cI, 7, .inl (upd (fun _ => 0) 3 1)))] := hD
  have hP9 := hP.sub (ws' := []) [] rfl
  have hD9 := hD.sub (ws' := []) [] (by decide) rfl
  exact W.iret (v := (-3)) hx hb hr (fun t ht hW => ⟨⟨(-3), (fun k => [].getD k 0), rfl, rfl, by rw [ht]; exact hP9, hD9⟩, hS.F ht⟩) hS.2.2 dX12_judge_13
set_option maxHeartbeats 4000000 in
set_option maxRecDepth 100000 in
theorem kX12_possible (l : Launch) (dC : Nat → ClassId) (dI : Nat → Nat → Nat) (cI cQ : ClassId) (h0 h1 h2 h3 h4 h5 h6 h7 h8 h9 h10 h11 h12 h13 h14 h15 h16 h17 h18 : Nat) (sz : Nat) : Met l yX12_possible vsX12_possible ({ frames := 0, cells := 0, slots := 0, locals := 0 }) (va_Pc [.ref h0] (zB dC dI cI cQ [(h0, .inr (12, [.ref h1, .ref h2, .ref h3, .ref h4, .ref h5, .ref h6, .ref h7, .ref h8, .ref h9, .int 0, .int 0, .int 10, .int 0, .int 0, .int (-9), .int 0, .ref h10, .ref h11, .ref h12, .ref h13, .int 0, .int 0, .int 0, .ref h14, .int 0, .int 0, .int 0, .int (-9), .int 0, .ref h15, .int 0, .int 0, .int 0, .ref h16, .ref h17, .ref h18, .int 0, .int 0]))] sz)) (zQi dC dI (va_A [(h0, .inr (12, [.ref h1, .ref h2, .ref h3, .ref h4, .ref h5, .ref h6, .ref h7, .ref h8, .ref h9, .int 0, .int 0, .int 10, .int 0, .int 0, .int (-9), .int 0, .ref h10, .ref h11, .ref h12, .ref h13, .int 0, .int 0, .int 0, .ref h14, .int 0, .int 0, .int 0, .int (-9), .int 0, .ref h15, .int 0, .int 0, .int 0, .ref h16, .ref h17, .ref h18, .int 0, .int 0]))] sz) (fun ad => []) (-9)) 0 0 (va_A [(h0, .inr (12, [.ref h1, .ref h2, .ref h3, .ref h4, .ref h5, .ref h6, .ref h7, .ref h8, .ref h9, .int 0, .int 0, .int 10, .int 0, .int 0, .int (-9), .int 0, .ref h10, .ref h11, .ref h12, .ref h13, .int 0, .int 0, .int 0, .ref h14, .int 0, .int 0, .int 0, .int (-9), .int 0, .ref h15, .int 0, .int 0, .int 0, .ref h16, .ref h17, .ref h18, .int 0, .int 0]))] sz) := by
  refine Met.ofW (cc := cX12_possible) (maxL := 4) (ret := (some .int)) (by decide) rfl ?_
  intro p e s m args below meth c s₁ B hml hv
  obtain ⟨rfl, hsz, hP, hZ, hD0⟩ := hv
  obtain ⟨hK, hAO, hN⟩ := id hZ
  have hx := B.exec
  have hb := B.bytes
  have hr := B.returns
  have hts := atoms_spec (ws := vsX12_possible) B.pre
  have hown : s.vm.findClass RX12 = some m.cls := findClass_of_methodNamed B.named
  have hlocks := B.notSynchronized
  subst hsz
  have hD := hD0.self (sz := s.heap.size)
  generalize hAe : va_A [(h0, .inr (12, [.ref h1, .ref h2, .ref h3, .ref h4, .ref h5, .ref h6, .ref h7, .ref h8, .ref h9, .int 0, .int 0, .int 10, .int 0, .int 0, .int (-9), .int 0, .ref h10, .ref h11, .ref h12, .ref h13, .int 0, .int 0, .int 0, .ref h14, .int 0, .int 0, .int 0, .int (-9), .int 0, .ref h15, .int 0, .int 0, .int 0, .ref h16, .ref h17, .ref h18, .int 0, .int 0]))] s.heap.size = A at hD ⊢
  have hA : ∀ q : Nat, s.heap.size ≤ q → A q := fun q h => by rw [← hAe]; exact Or.inr h
  have hS : va_S A s.heap s.heap [] := va_S.rf
  have hP : va_P (dC, dI) vwCl [(h0, .inr (12, [.ref h1, .ref h2, .ref h3, .ref h4, .ref h5, .ref h6, .ref h7, .ref h8, .ref h9, .int 0, .int 0, .int 10, .int 0, .int 0, .int (-9), .int 0, .ref h10, .ref h11, .ref h12, .ref h13, .int 0, .int 0, .int 0, .ref h14, .int 0, .int 0, .int 0, .int (-9), .int 0, .ref h15, .int 0, .int 0, .int 0, .ref h16, .ref h17, .ref h18, .int 0, .int 0]))] s.heap := hP
  have hl := lv_entry ([.ref h0]) (n := 4) (Nat.le_of_ble_eq_true rfl)
  rw [lg_entry_eq]
  generalize (lg_sl ([.ref h0]) ++ List.replicate (4 - (lg_sl ([.ref h0])).length) Slot.unset).toArray = ls at hl ⊢
  have hl : lv_has ls 4 [(0, .ref h0)] := hl
  refine lv_aload_n hx hb dX12_possible_0 rfl (lv_at hl 0 rfl) ?_
  refine va_get (D := (dC, dI)) (ci := 12) (v := .int 0) (C := RX12) (T := TX12) (N := 38) hx hb hts in_X12_possible_X12 hown hK hP 0 rfl rfl 36 (by decide) (hts (.fieldLink RX12 276 "EachOnHisCueModel" "rowMany" "I") (by decide +kernel)) (fun _ h9 => h9) rfl dX12_possible_1 ?_
  refine lv_istore_n (lv' := [(1, .int 0), (0, .ref h0)]) hx hb dX12_possible_4 rfl hl (by decide) rfl (fun ls hl => ?_)
  refine lv_aload_n hx hb dX12_possible_5 rfl (lv_at hl 1 rfl) ?_
  refine lv_iconst (v := 0) hx hb dX12_possible_6 (by decide) ?_
  refine va_put (D := (dC, dI)) (ci := 12) (v := .int 0) (ty := .int) (C := RX12) (T := TX12) (N := 38) hx hb hts in_X12_possible_X12 tyX12 tyX12_ok nmX12 hown hK hP hD hS 0 rfl rfl 36 (by decide) (hts (.fieldLink RX12 276 "EachOnHisCueModel" "rowMany" "I") (by decide +kernel)) (fun _ h9 => h9) rfl (by decide +kernel) rfl rfl (Nat.le_of_ble_eq_true rfl) dX12_possible_7 (fun H locs hP hD hS => ?_)
  have hP : va_P (dC, dI) vwCl [(h0, .inr (12, [.ref h1, .ref h2, .ref h3, .ref h4, .ref h5, .ref h6, .ref h7, .ref h8, .ref h9, .int 0, .int 0, .int 10, .int 0, .int 0, .int (-9), .int 0, .ref h10, .ref h11, .ref h12, .ref h13, .int 0, .int 0, .int 0, .ref h14, .int 0, .int 0, .int 0, .int (-9), .int 0, .ref h15, .int 0, .int 0, .int 0, .ref h16, .ref h17, .ref h18, .int 0, .int 0]))] H := hP
  have hD : va_D A [(h0, .inr (12, [.ref h1, .ref h2, .ref h3, .ref h4, .ref h5, .ref h6, .ref h7, .ref h8, .ref h9, .int 0, .int 0, .int 10, .int 0, .int 0, .int (-9), .int 0, .ref h10, .ref h11, .ref h12, .ref h13, .int 0, .int 0, .int 0, .ref h14, .int 0, .int 0, .int 0, .int (-9), .int 0, .ref h15, .int 0, .int 0, .int 0, .ref h16, .ref h17, .ref h18, .int 0, .int 0]))] := hD
  refine lv_iconst (v := 0) hx hb dX12_possible_10 (by decide) ?_
  refine lv_istore_n (lv' := [(2, .int 0), (1, .int 0), (0, .ref h0)]) hx hb dX12_possible_11 rfl hl (by decide) rfl (fun ls hl => ?_)
  refine lv_iload_n hx hb dX12_possible_12 rfl (lv_at hl 0 rfl) ?_
  refine lv_iload_n hx hb dX12_possible_13 rfl (lv_at hl 1 rfl) ?_
  refine lv_icmp_ge (tgt := 89) hx hb dX12_possible_14 (by decide) (fun hc => ?_) (fun hc => ?_)
  rotate_left; exact absurd hc (by decide)
  refine lv_bipush (v := (-9)) hx hb dX12_possible_89 (by decide) ?_
  have hP9 := hP.sub (ws' := []) [] rfl
  have hD9 := hD.sub (ws' := []) [] (by decide) rfl
  exact W.iret (v := (-9)) hx hb hr (fun t ht hW => ⟨⟨(-9), (fun k => [].getD k 0), rfl, rfl, by rw [ht]; exact hP9, hD9⟩, hS.F ht⟩) hS.2.2 dX12_possible_91
set_option maxHeartbeats 4000000 in
set_option maxRecDepth 100000 in
theorem kX12_bound_12 (l : Launch) (dC : Nat → ClassId) (dI : Nat → Nat → Nat) (cI cQ : ClassId) (p0 : Int32) (hp0l : -2147483648 ≤ p0.toInt) (hp0h : p0.toInt ≤ 0) (sz : Nat) : Met l yX12_bound vsX12_bound ({ frames := 0, cells := 0, slots := 0, locals := 0 }) (va_Pc [.int p0, .int 1, .int 20] (zB dC dI cI cQ [] sz)) (zQi dC dI (va_A [] sz) (fun ad => []) (-4)) 0 0 (va_A [] sz) := by
  refine Met.ofW (cc := cX12_bound) (maxL := 3) (ret := (some .int)) (by decide) rfl ?_
  intro p e s m args below meth c s₁ B hml hv
  obtain ⟨rfl, hsz, hP, hZ, hD0⟩ := hv
  obtain ⟨hK, hAO, hN⟩ := id hZ
  have hx := B.exec
  have hb := B.bytes
  have hr := B.returns
  have hts := atoms_spec (ws := vsX12_bound) B.pre
  have hown : s.vm.findClass RX12 = some m.cls := findClass_of_methodNamed B.named
  have hlocks := B.notSynchronized
  subst hsz
  have hD := hD0.self (sz := s.heap.size)
  generalize hAe : va_A [] s.heap.size = A at hD ⊢
  have hA : ∀ q : Nat, s.heap.size ≤ q → A q := fun q h => by rw [← hAe]; exact Or.inr h
  have hS : va_S A s.heap s.heap [] := va_S.rf
  have hP : va_P (dC, dI) vwCl [] s.heap := hP
  have hl := lv_entry ([.int p0, .int 1, .int 20]) (n := 3) (Nat.le_of_ble_eq_true rfl)
  rw [lg_entry_eq]
  generalize (lg_sl ([.int p0, .int 1, .int 20]) ++ List.replicate (3 - (lg_sl ([.int p0, .int 1, .int 20])).length) Slot.unset).toArray = ls at hl ⊢
  have hl : lv_has ls 3 [(0, .int p0), (1, .int 1), (2, .int 20)] := hl
  refine lv_iload_n hx hb dX12_bound_0 rfl (lv_at hl 0 rfl) ?_
  refine lv_iload_n hx hb dX12_bound_1 rfl (lv_at hl 1 rfl) ?_
  refine lv_icmp_ge (tgt := 10) hx hb dX12_bound_2 (by decide) (fun hc => ?_) (fun hc => ?_)
  · exact absurd ((fa_le _ _).mp hc) (by rw [show (1 : Int32).toInt = 1 from by decide]; omega)
  refine lv_bipush (v := (-4)) hx hb dX12_bound_5 (by decide) ?_
  refine lv_goto (tgt := 21) hx hb dX12_bound_7 (by decide) ?_
  have hP9 := hP.sub (ws' := []) [] rfl
  have hD9 := hD.sub (ws' := []) [] (by decide) rfl
  exact W.iret (v := (-4)) hx hb hr (fun t ht hW => ⟨⟨(-4), (fun k => [].getD k 0), rfl, rfl, by rw [ht]; exact hP9, hD9⟩, hS.F ht⟩) hS.2.2 dX12_bound_21
set_option maxHeartbeats 4000000 in
set_option maxRecDepth 100000 in
theorem kX12_lot (l : Launch) (dC : Nat → ClassId) (dI : Nat → Nat → Nat) (cI cQ : ClassId) (h0 h1 h2 h3 h4 h5 h6 h7 h8 h9 h10 h11 h12 h13 h14 h15 h16 h17 h18 : Nat) (p0 : Int32) (hp0l : -2147483648 ≤ p0.toInt) (hp0h : p0.toInt ≤ 0) (p1 : Int32) (hp1l : -2147483648 ≤ p1.toInt) (hp1h : p1.toInt ≤ 2147483647) (sz : Nat) : Met l yX12_lot vsX12_lot ({ frames := 1, cells := 0, slots := 0, locals := 22 }) (va_Pc [.ref h0, .int p0, .int p1] (zB dC dI cI cQ [(h0, .inr (12, [.ref h1, .ref h2, .ref h3, .ref h4, .ref h5, .ref h6, .ref h7, .ref h8, .ref h9, .int 0, .int 0, .int 10, .int 0, .int 0, .int (-9), .int 0, .ref h10, .ref h11, .ref h12, .ref h13, .int 0, .int 0, .int 0, .ref h14, .int 0, .int 0, .int 0, .int (-9), .int 0, .ref h15, .int 0, .int 0, .int 0, .ref h16, .ref h17, .ref h18, .int 0, .int 0])), (h1, .inl (cI, 7, .inl (fun _ => 0)))] sz)) (zQi dC dI (va_A [(h0, .inr (12, [.ref h1, .ref h2, .ref h3, .ref h4, .ref h5, .ref h6, .ref h7, .ref h8, .ref h9, .int 0, .int 0, .int 10, .int 0, .int 0, .int (-9), .int 0, .ref h10, .ref h11, .ref h12, .ref h13, .int 0, .int 0, .int 0, .ref h14, .int 0, .int 0, .int 0, .int (-9), .int 0, .ref h15, .int 0, .int 0, .int 0, .ref h16, .ref h17, .ref h18, .int 0, .int 0])), (h1, .inl (cI, 7, .inl (fun _ => 0)))] sz) (fun ad => []) (-4)) 0 0 (va_A [(h0, .inr (12, [.ref h1, .ref h2, .ref h3, .ref h4, .ref h5, .ref h6, .ref h7, .ref h8, .ref h9, .int 0, .int 0, .int 10, .int 0, .int 0, .int (-9), .int 0, .ref h10, .ref h11, .ref h12, .ref h13, .int 0, .int 0, .int 0, .ref h14, .int 0, .int 0, .int 0, .int (-9), .int 0, .ref h15, .int 0, .int 0, .int 0, .ref h16, .ref h17, .ref h18, .int 0, .int 0])), (h1, .inl (cI, 7, .inl (fun _ => 0)))] sz) := by
  refine Met.ofW (cc := cX12_lot) (maxL := 7) (ret := (some .int)) (by decide) rfl ?_
  intro p e s m args below meth c s₁ B hml hv
  obtain ⟨rfl, hsz, hP, hZ, hD0⟩ := hv
  obtain ⟨hK, hAO, hN⟩ := id hZ
  have hx := B.exec
  have hb := B.bytes
  have hr := B.returns
  have hts := atoms_spec (ws := vsX12_lot) B.pre
  have hown : s.vm.findClass RX12 = some m.cls := findClass_of_methodNamed B.named
  have hlocks := B.notSynchronized
  subst hsz
  have hD := hD0.self (sz := s.heap.size)
  generalize hAe : va_A [(h0, .inr (12, [.ref h1, .ref h2, .ref h3, .ref h4, .ref h5, .ref h6, .ref h7, .ref h8, .ref h9, .int 0, .int 0, .int 10, .int 0, .int 0, .int (-9), .int 0, .ref h10, .ref h11, .ref h12, .ref h13, .int 0, .int 0, .int 0, .ref h14, .int 0, .int 0, .int 0, .int (-9), .int 0, .ref h15, .int 0, .int 0, .int 0, .ref h16, .ref h17, .ref h18, .int 0, .int 0])), (h1, .inl (cI, 7, .inl (fun _ => 0)))] s.heap.size = A at hD ⊢
  have hA : ∀ q : Nat, s.heap.size ≤ q → A q := fun q h => by rw [← hAe]; exact Or.inr h
  have hS : va_S A s.heap s.heap [] := va_S.rf
  have hP : va_P (dC, dI) vwCl [(h0, .inr (12, [.ref h1, .ref h2, .ref h3, .ref h4, .ref h5, .ref h6, .ref h7, .ref h8, .ref h9, .int 0, .int 0, .int 10, .int 0, .int 0, .int (-9), .int 0, .ref h10, .ref h11, .ref h12, .ref h13, .int 0, .int 0, .int 0, .ref h14, .int 0, .int 0, .int 0, .int (-9), .int 0, .ref h15, .int 0, .int 0, .int 0, .ref h16, .ref h17, .ref h18, .int 0, .int 0])), (h1, .inl (cI, 7, .inl (fun _ => 0)))] s.heap := hP
  have hl := lv_entry ([.ref h0, .int p0, .int p1]) (n := 7) (Nat.le_of_ble_eq_true rfl)
  rw [lg_entry_eq]
  generalize (lg_sl ([.ref h0, .int p0, .int p1]) ++ List.replicate (7 - (lg_sl ([.ref h0, .int p0, .int p1])).length) Slot.unset).toArray = ls at hl ⊢
  have hl : lv_has ls 7 [(0, .ref h0), (1, .int p0), (2, .int p1)] := hl
  refine lv_iload_n hx hb dX12_lot_0 rfl (lv_at hl 1 rfl) ?_
  refine lv_iconst (v := 1) hx hb dX12_lot_1 (by decide) ?_
  refine lv_bipush (v := 20) hx hb dX12_lot_2 (by decide) ?_
  refine z_calli (wc := []) (wr := [(h0, .inr (12, [.ref h1, .ref h2, .ref h3, .ref h4, .ref h5, .ref h6, .ref h7, .ref h8, .ref h9, .int 0, .int 0, .int 10, .int 0, .int 0, .int (-9), .int 0, .ref h10, .ref h11, .ref h12, .ref h13, .int 0, .int 0, .int 0, .ref h14, .int 0, .int 0, .int 0, .int (-9), .int 0, .ref h15, .int 0, .int 0, .int 0, .ref h16, .ref h17, .ref h18, .int 0, .int 0])), (h1, .inl (cI, 7, .inl (fun _ => 0)))]) (w1 := (fun _ => [])) (va_runS (As := [.int p0, .int 1, .int 20]) (rest := []) ⟨hx, hb, hml, hown, hts⟩ (kX12_bound_12 l dC dI cI cQ p0 hp0l hp0h s.heap.size) (va_cwS 3 hts gv_X12_lot_X12_bound_82 rfl rfl rfl (by decide +kernel) ⟨Nat.le_of_ble_eq_true rfl, Nat.le_of_ble_eq_true rfl⟩) ⟨z_blind, z_pre hZ hP hD [] rfl (by decide)⟩ rfl rfl hl.1 rfl (lv_room (Nat.le_of_ble_eq_true rfl)) dX12_lot_4 ⟨Nat.le_of_ble_eq_true rfl, Nat.le_of_ble_eq_true rfl⟩) hP hD hS hA [] [0, 1] rfl rfl (by decide) (by decide) (fun _ H locs hP hD hS => ?_)
  have hP : va_P (dC, dI) vwCl [(h0, .inr (12, [.ref h1, .ref h2, .ref h3, .ref h4, .ref h5, .ref h6, .ref h7, .ref h8, .ref h9, .int 0, .int 0, .int 10, .int 0, .int 0, .int (-9), .int 0, .ref h10, .ref h11, .ref h12, .ref h13, .int 0, .int 0, .int 0, .ref h14, .int 0, .int 0, .int 0, .int (-9), .int 0, .ref h15, .int 0, .int 0, .int 0, .ref h16, .ref h17, .ref h18, .int 0, .int 0])), (h1, .inl (cI, 7, .inl (fun _ => 0)))] H := hP
  have hD : va_D A [(h0, .inr (12, [.ref h1, .ref h2, .ref h3, .ref h4, .ref h5, .ref h6, .ref h7, .ref h8, .ref h9, .int 0, .int 0, .int 10, .int 0, .int 0, .int (-9), .int 0, .ref h10, .ref h11, .ref h12, .ref h13, .int 0, .int 0, .int 0, .ref h14, .int 0, .int 0, .int 0, .int (-9), .int 0, .ref h15, .int 0, .int 0, .int 0, .ref h16, .ref h17, .ref h18, .int 0, .int 0])), (h1, .inl (cI, 7, .inl (fun _ => 0)))] := hD
  refine lv_istore_n (lv' := [(3, .int (-4)), (0, .ref h0), (1, .int p0), (2, .int p1)]) hx hb dX12_lot_7 rfl hl (by decide) rfl (fun ls hl => ?_)
  refine lv_iload_n hx hb dX12_lot_8 rfl (lv_at hl 0 rfl) ?_
  refine lv_if_ne (tgt := 22) hx hb dX12_lot_9 (by decide) (fun hc => ?_) (fun hc => ?_)
  rotate_left; exact absurd hc (by decide)
  refine lv_iload_n hx hb dX12_lot_22 rfl (lv_at hl 0 rfl) ?_
  refine lv_if_eq (tgt := 32) hx hb dX12_lot_23 (by decide) (fun hc => ?_) (fun hc => ?_)
  · exact absurd hc (by decide)
  refine lv_aload_n hx hb dX12_lot_26 rfl (lv_at hl 1 rfl) ?_
  refine lv_iload_n hx hb dX12_lot_27 rfl (lv_at hl 0 rfl) ?_
  refine z_calli (wc := [(h0, .inr (12, [.ref h1, .ref h2, .ref h3, .ref h4, .ref h5, .ref h6, .ref h7, .ref h8, .ref h9, .int 0, .int 0, .int 10, .int 0, .int 0, .int (-9), .int 0, .ref h10, .ref h11, .ref h12, .ref h13, .int 0, .int 0, .int 0, .ref h14, .int 0, .int 0, .int 0, .int (-9), .int 0, .ref h15, .int 0, .int 0, .int 0, .ref h16, .ref h17, .ref h18, .int 0, .int 0])), (h1, .inl (cI, 7, .inl (fun _ => 0)))]) (wr := []) (w1 := (fun _ => [(h0, .inr (12, [.ref h1, .ref h2, .ref h3, .ref h4, .ref h5, .ref h6, .ref h7, .ref h8, .ref h9, .int 0, .int 0, .int 10, .int 0, .int 0, .int (-9), .int 0, .ref h10, .ref h11, .ref h12, .ref h13, .int 0, .int 0, .int 0, .ref h14, .int 0, .int 0, .int 0, .int (-9), .int 0, .ref h15, .int 0, .int 0, .int 0, .ref h16, .ref h17, .ref h18, .int 0, .int 0])), (h1, .inl (cI, 7, .inl (upd (fun _ => 0) 4 1)))])) (va_runV (As := [.int (-4)]) (rest := []) ⟨hx, hb, hml, hown, hts⟩ (kX12_no l dC dI cI cQ h0 h1 h2 h3 h4 h5 h6 h7 h8 h9 h10 h11 h12 h13 h14 h15 h16 h17 h18 H.size) (cwV 1 hts gv_X12_lot_X12_no_89 rfl rfl rfl (by decide +kernel) ⟨Nat.le_of_ble_eq_true rfl, Nat.le_of_ble_eq_true rfl⟩) ⟨z_blind, va_recv hK hP (ci := 12) (q0 := 0) rfl rfl, z_pre hZ hP hD [0, 1] rfl (by decide)⟩ rfl rfl hl.1 rfl (lv_room (Nat.le_of_ble_eq_true rfl)) dX12_lot_28 ⟨Nat.le_of_ble_eq_true rfl, Nat.le_of_ble_eq_true rfl⟩) hP hD hS hA [0, 1] [] rfl rfl (by decide) (by decide) (fun _ H locs hP hD hS => ?_)
  have hP : va_P (dC, dI) vwCl [(h0, .inr (12, [.ref h1, .ref h2, .ref h3, .ref h4, .ref h5, .ref h6, .ref h7, .ref h8, .ref h9, .int 0, .int 0, .int 10, .int 0, .int 0, .int (-9), .int 0, .ref h10, .ref h11, .ref h12, .ref h13, .int 0, .int 0, .int 0, .ref h14, .int 0, .int 0, .int 0, .int (-9), .int 0, .ref h15, .int 0, .int 0, .int 0, .ref h16, .ref h17, .ref h18, .int 0, .int 0])), (h1, .inl (cI, 7, .inl (upd (fun _ => 0) 4 1)))] H := hP
  have hD : va_D A [(h0, .inr (12, [.ref h1, .ref h2, .ref h3, .ref h4, .ref h5, .ref h6, .ref h7, .ref h8, .ref h9, .int 0, .int 0, .int 10, .int 0, .int 0, .int (-9), .int 0, .ref h10, .ref h11, .ref h12, .ref h13, .int 0, .int 0, .int 0, .ref h14, .int 0, .int 0, .int 0, .int (-9), .int 0, .ref h15, .int 0, .int 0, .int 0, .ref h16, .ref h17, .ref h18, .int 0, .int 0])), (h1, .inl (cI, 7, .inl (upd (fun _ => 0) 4 1)))] := hD
  have hP9 := hP.sub (ws' := []) [] rfl
  have hD9 := hD.sub (ws' := []) [] (by decide) rfl
  exact W.iret (v := (-4)) hx hb hr (fun t ht hW => ⟨⟨(-4), (fun k => [].getD k 0), rfl, rfl, by rw [ht]; exact hP9, hD9⟩, hS.F ht⟩) hS.2.2 dX12_lot_31
set_option maxHeartbeats 4000000 in
set_option maxRecDepth 100000 in
theorem kX12_bound_13 (l : Launch) (dC : Nat → ClassId) (dI : Nat → Nat → Nat) (cI cQ : ClassId) (p0 : Int32) (hp0l : 1 ≤ p0.toInt) (hp0h : p0.toInt ≤ 20) (sz : Nat) : Met l yX12_bound vsX12_bound ({ frames := 0, cells := 0, slots := 0, locals := 0 }) (va_Pc [.int p0, .int 1, .int 20] (zB dC dI cI cQ [] sz)) (zQi dC dI (va_A [] sz) (fun ad => []) 0) 0 0 (va_A [] sz) := by
  refine Met.ofW (cc := cX12_bound) (maxL := 3) (ret := (some .int)) (by decide) rfl ?_
  intro p e s m args below meth c s₁ B hml hv
  obtain ⟨rfl, hsz, hP, hZ, hD0⟩ := hv
  obtain ⟨hK, hAO, hN⟩ := id hZ
  have hx := B.exec
  have hb := B.bytes
  have hr := B.returns
  have hts := atoms_spec (ws := vsX12_bound) B.pre
  have hown : s.vm.findClass RX12 = some m.cls := findClass_of_methodNamed B.named
  have hlocks := B.notSynchronized
  subst hsz
  have hD := hD0.self (sz := s.heap.size)
  generalize hAe : va_A [] s.heap.size = A at hD ⊢
  have hA : ∀ q : Nat, s.heap.size ≤ q → A q := fun q h => by rw [← hAe]; exact Or.inr h
  have hS : va_S A s.heap s.heap [] := va_S.rf
  have hP : va_P (dC, dI) vwCl [] s.heap := hP
  have hl := lv_entry ([.int p0, .int 1, .int 20]) (n := 3) (Nat.le_of_ble_eq_true rfl)
  rw [lg_entry_eq]
  generalize (lg_sl ([.int p0, .int 1, .int 20]) ++ List.replicate (3 - (lg_sl ([.int p0, .int 1, .int 20])).length) Slot.unset).toArray = ls at hl ⊢
  have hl : lv_has ls 3 [(0, .int p0), (1, .int 1), (2, .int 20)] := hl
  refine lv_iload_n hx hb dX12_bound_0 rfl (lv_at hl 0 rfl) ?_
  refine lv_iload_n hx hb dX12_bound_1 rfl (lv_at hl 1 rfl) ?_
  refine lv_icmp_ge (tgt := 10) hx hb dX12_bound_2 (by decide) (fun hc => ?_) (fun hc => ?_)
  rotate_left; exact absurd ((fa_le _ _).mpr (by rw [show (1 : Int32).toInt = 1 from by decide]; omega)) hc
  refine lv_iload_n hx hb dX12_bound_10 rfl (lv_at hl 0 rfl) ?_
  refine lv_iload_n hx hb dX12_bound_11 rfl (lv_at hl 2 rfl) ?_
  refine lv_icmp_le (tgt := 20) hx hb dX12_bound_12 (by decide) (fun hc => ?_) (fun hc => ?_)
  rotate_left; exact absurd ((fa_le _ _).mpr (by rw [show (20 : Int32).toInt = 20 from by decide]; omega)) hc
  refine lv_iconst (v := 0) hx hb dX12_bound_20 (by decide) ?_
  have hP9 := hP.sub (ws' := []) [] rfl
  have hD9 := hD.sub (ws' := []) [] (by decide) rfl
  exact W.iret (v := 0) hx hb hr (fun t ht hW => ⟨⟨0, (fun k => [].getD k 0), rfl, rfl, by rw [ht]; exact hP9, hD9⟩, hS.F ht⟩) hS.2.2 dX12_bound_21
set_option maxHeartbeats 4000000 in
set_option maxRecDepth 100000 in
theorem kX12_lot_1 (l : Launch) (dC : Nat → ClassId) (dI : Nat → Nat → Nat) (cI cQ : ClassId) (h0 h1 h2 h3 h4 h5 h6 h7 h8 h9 h10 h11 h12 h13 h14 h15 h16 h17 h18 : Nat) (p0 : Int32) (hp0l : 1 ≤ p0.toInt) (hp0h : p0.toInt ≤ 20) (p1 : Int32) (hp1l : -2147483648 ≤ p1.toInt) (hp1h : p1.toInt ≤ 2147483647) (sz : Nat) : Met l yX12_lot vsX12_lot ({ frames := 1, cells := 0, slots := 0, locals := 22 }) (va_Pc [.ref h0, .int p0, .int p1] (zB dC dI cI cQ [(h0, .inr (12, [.ref h1, .ref h2, .ref h3, .ref h4, .ref h5, .ref h6, .ref h7, .ref h8, .ref h9, .int 0, .int 0, .int 10, .int 0, .int 0, .int (-9), .int 0, .ref h10, .ref h11, .ref h12, .ref h13, .int 0, .int 0, .int 0, .ref h14, .int 0, .int 0, .int 0, .int (-9), .int 0, .ref h15, .int 0, .int 0, .int 0, .ref h16, .ref h17, .ref h18, .int 0, .int 0])), (h1, .inl (cI, 7, .inl (fun _ => 0)))] sz)) (zQi dC dI (va_A [(h0, .inr (12, [.ref h1, .ref h2, .ref h3, .ref h4, .ref h5, .ref h6, .ref h7, .ref h8, .ref h9, .int 0, .int 0, .int 10, .int 0, .int 0, .int (-9), .int 0, .ref h10, .ref h11, .ref h12, .ref h13, .int 0, .int 0, .int 0, .ref h14, .int 0, .int 0, .int 0, .int (-9), .int 0, .ref h15, .int 0, .int 0, .int 0, .ref h16, .ref h17, .ref h18, .int 0, .int 0])), (h1, .inl (cI, 7, .inl (fun _ => 0)))] sz) (fun ad => []) (-3)) 0 0 (va_A [(h0, .inr (12, [.ref h1, .ref h2, .ref h3, .ref h4, .ref h5, .ref h6, .ref h7, .ref h8, .ref h9, .int 0, .int 0, .int 10, .int 0, .int 0, .int (-9), .int 0, .ref h10, .ref h11, .ref h12, .ref h13, .int 0, .int 0, .int 0, .ref h14, .int 0, .int 0, .int 0, .int (-9), .int 0, .ref h15, .int 0, .int 0, .int 0, .ref h16, .ref h17, .ref h18, .int 0, .int 0])), (h1, .inl (cI, 7, .inl (fun _ => 0)))] sz) := by
  refine Met.ofW (cc := cX12_lot) (maxL := 7) (ret := (some .int)) (by decide) rfl ?_
  intro p e s m args below meth c s₁ B hml hv
  obtain ⟨rfl, hsz, hP, hZ, hD0⟩ := hv
  obtain ⟨hK, hAO, hN⟩ := id hZ
  have hx := B.exec
  have hb := B.bytes
  have hr := B.returns
  have hts := atoms_spec (ws := vsX12_lot) B.pre
  have hown : s.vm.findClass RX12 = some m.cls := findClass_of_methodNamed B.named
  have hlocks := B.notSynchronized
  subst hsz
  have hD := hD0.self (sz := s.heap.size)
  generalize hAe : va_A [(h0, .inr (12, [.ref h1, .ref h2, .ref h3, .ref h4, .ref h5, .ref h6, .ref h7, .ref h8, .ref h9, .int 0, .int 0, .int 10, .int 0, .int 0, .int (-9), .int 0, .ref h10, .ref h11, .ref h12, .ref h13, .int 0, .int 0, .int 0, .ref h14, .int 0, .int 0, .int 0, .int (-9), .int 0, .ref h15, .int 0, .int 0, .int 0, .ref h16, .ref h17, .ref h18, .int 0, .int 0])), (h1, .inl (cI, 7, .inl (fun _ => 0)))] s.heap.size = A at hD ⊢
  have hA : ∀ q : Nat, s.heap.size ≤ q → A q := fun q h => by rw [← hAe]; exact Or.inr h
  have hS : va_S A s.heap s.heap [] := va_S.rf
  have hP : va_P (dC, dI) vwCl [(h0, .inr (12, [.ref h1, .ref h2, .ref h3, .ref h4, .ref h5, .ref h6, .ref h7, .ref h8, .ref h9, .int 0, .int 0, .int 10, .int 0, .int 0, .int (-9), .int 0, .ref h10, .ref h11, .ref h12, .ref h13, .int 0, .int 0, .int 0, .ref h14, .int 0, .int 0, .int 0, .int (-9), .int 0, .ref h15, .int 0, .int 0, .int 0, .ref h16, .ref h17, .ref h18, .int 0, .int 0])), (h1, .inl (cI, 7, .inl (fun _ => 0)))] s.heap := hP
  have hl := lv_entry ([.ref h0, .int p0, .int p1]) (n := 7) (Nat.le_of_ble_eq_true rfl)
  rw [lg_entry_eq]
  generalize (lg_sl ([.ref h0, .int p0, .int p1]) ++ List.replicate (7 - (lg_sl ([.ref h0, .int p0, .int p1])).length) Slot.unset).toArray = ls at hl ⊢
  have hl : lv_has ls 7 [(0, .ref h0), (1, .int p0), (2, .int p1)] := hl
  refine lv_iload_n hx hb dX12_lot_0 rfl (lv_at hl 1 rfl) ?_
  refine lv_iconst (v := 1) hx hb dX12_lot_1 (by decide) ?_
  refine lv_bipush (v := 20) hx hb dX12_lot_2 (by decide) ?_
  refine z_calli (wc := []) (wr := [(h0, .inr (12, [.ref h1, .ref h2, .ref h3, .ref h4, .ref h5, .ref h6, .ref h7, .ref h8, .ref h9, .int 0, .int 0, .int 10, .int 0, .int 0, .int (-9), .int 0, .ref h10, .ref h11, .ref h12, .ref h13, .int 0, .int 0, .int 0, .ref h14, .int 0, .int 0, .int 0, .int (-9), .int 0, .ref h15, .int 0, .int 0, .int 0, .ref h16, .ref h17, .ref h18, .int 0, .int 0])), (h1, .inl (cI, 7, .inl (fun _ => 0)))]) (w1 := (fun _ => [])) (va_runS (As := [.int p0, .int 1, .int 20]) (rest := []) ⟨hx, hb, hml, hown, hts⟩ (kX12_bound_13 l dC dI cI cQ p0 hp0l hp0h s.heap.size) (va_cwS 3 hts gv_X12_lot_X12_bound_82 rfl rfl rfl (by decide +kernel) ⟨Nat.le_of_ble_eq_true rfl, Nat.le_of_ble_eq_true rfl⟩) ⟨z_blind, z_pre hZ hP hD [] rfl (by decide)⟩ rfl rfl hl.1 rfl (lv_room (Nat.le_of_ble_eq_true rfl)) dX12_lot_4 ⟨Nat.le_of_ble_eq_true rfl, Nat.le_of_ble_eq_true rfl⟩) hP hD hS hA [] [0, 1] rfl rfl (by decide) (by decide) (fun _ H locs hP hD hS => ?_)
  have hP : va_P (dC, dI) vwCl [(h0, .inr (12, [.ref h1, .ref h2, .ref h3, .ref h4, .ref h5, .ref h6, .ref h7, .ref h8, .ref h9, .int 0, .int 0, .int 10, .int 0, .int 0, .int (-9), .int 0, .ref h10, .ref h11, .ref h12, .ref h13, .int 0, .int 0, .int 0, .ref h14, .int 0, .int 0, .int 0, .int (-9), .int 0, .ref h15, .int 0, .int 0, .int 0, .ref h16, .ref h17, .ref h18, .int 0, .int 0])), (h1, .inl (cI, 7, .inl (fun _ => 0)))] H := hP
  have hD : va_D A [(h0, .inr (12, [.ref h1, .ref h2, .ref h3, .ref h4, .ref h5, .ref h6, .ref h7, .ref h8, .ref h9, .int 0, .int 0, .int 10, .int 0, .int 0, .int (-9), .int 0, .ref h10, .ref h11, .ref h12, .ref h13, .int 0, .int 0, .int 0, .ref h14, .int 0, .int 0, .int 0, .int (-9), .int 0, .ref h15, .int 0, .int 0, .int 0, .ref h16, .ref h17, .ref h18, .int 0, .int 0])), (h1, .inl (cI, 7, .inl (fun _ => 0)))] := hD
  refine lv_istore_n (lv' := [(3, .int 0), (0, .ref h0), (1, .int p0), (2, .int p1)]) hx hb dX12_lot_7 rfl hl (by decide) rfl (fun ls hl => ?_)
  refine lv_iload_n hx hb dX12_lot_8 rfl (lv_at hl 0 rfl) ?_
  refine lv_if_ne (tgt := 22) hx hb dX12_lot_9 (by decide) (fun hc => ?_) (fun hc => ?_)
  · exact absurd hc (by decide)
  refine lv_aload_n hx hb dX12_lot_12 rfl (lv_at hl 1 rfl) ?_
  refine va_get (D := (dC, dI)) (ci := 12) (v := .int 0) (C := RX12) (T := TX12) (N := 38) hx hb hts in_X12_lot_X12 hown hK hP 0 rfl rfl 10 (by decide) (hts (.fieldLink RX12 79 "EachOnHisCueModel" "lines" "I") (by decide +kernel)) (fun _ h9 => h9) rfl dX12_lot_13 ?_
  refine lv_if_ne (tgt := 22) hx hb dX12_lot_16 (by decide) (fun hc => ?_) (fun hc => ?_)
  · exact absurd hc (by decide)
  refine lv_bipush (v := (-3)) hx hb dX12_lot_19 (by decide) ?_
  refine lv_istore_n (lv' := [(3, .int (-3)), (0, .ref h0), (1, .int p0), (2, .int p1)]) hx hb dX12_lot_21 rfl hl (by decide) rfl (fun ls hl => ?_)
  refine lv_iload_n hx hb dX12_lot_22 rfl (lv_at hl 0 rfl) ?_
  refine lv_if_eq (tgt := 32) hx hb dX12_lot_23 (by decide) (fun hc => ?_) (fun hc => ?_)
  · exact absurd hc (by decide)
  refine lv_aload_n hx hb dX12_lot_26 rfl (lv_at hl 1 rfl) ?_
  refine lv_iload_n hx hb dX12_lot_27 rfl (lv_at hl 0 rfl) ?_
  refine z_calli (wc := [(h0, .inr (12, [.ref h1, .ref h2, .ref h3, .ref h4, .ref h5, .ref h6, .ref h7, .ref h8, .ref h9, .int 0, .int 0, .int 10, .int 0, .int 0, .int (-9), .int 0, .ref h10, .ref h11, .ref h12, .ref h13, .int 0, .int 0, .int 0, .ref h14, .int 0, .int 0, .int 0, .int (-9), .int 0, .ref h15, .int 0, .int 0, .int 0, .ref h16, .ref h17, .ref h18, .int 0, .int 0])), (h1, .inl (cI, 7, .inl (fun _ => 0)))]) (wr := []) (w1 := (fun _ => [(h0, .inr (12, [.ref h1, .ref h2, .ref h3, .ref h4, .ref h5, .ref h6, .ref h7, .ref h8, .ref h9, .int 0, .int 0, .int 10, .int 0, .int 0, .int (-9), .int 0, .ref h10, .ref h11, .ref h12, .ref h13, .int 0, .int 0, .int 0, .ref h14, .int 0, .int 0, .int 0, .int (-9), .int 0, .ref h15, .int 0, .int 0, .int 0, .ref h16, .ref h17, .ref h18, .int 0, .int 0])), (h1, .inl (cI, 7, .inl (upd (fun _ => 0) 3 1)))])) (va_runV (As := [.int (-3)]) (rest := []) ⟨hx, hb, hml, hown, hts⟩ (kX12_no_4 l dC dI cI cQ h0 h1 h2 h3 h4 h5 h6 h7 h8 h9 h10 h11 h12 h13 h14 h15 h16 h17 h18 H.size) (cwV 1 hts gv_X12_lot_X12_no_89 rfl rfl rfl (by decide +kernel) ⟨Nat.le_of_ble_eq_true rfl, Nat.le_of_ble_eq_true rfl⟩) ⟨z_blind, va_recv hK hP (ci := 12) (q0 := 0) rfl rfl, z_pre hZ hP hD [0, 1] rfl (by decide)⟩ rfl rfl hl.1 rfl (lv_room (Nat.le_of_ble_eq_true rfl)) dX12_lot_28 ⟨Nat.le_of_ble_eq_true rfl, Nat.le_of_ble_eq_true rfl⟩) hP hD hS hA [0, 1] [] rfl rfl (by decide) (by decide) (fun _ H locs hP hD hS => ?_)
  have hP : va_P (dC, dI) vwCl [(h0, .inr (12, [.ref h1, .ref h2, .ref h3, .ref h4, .ref h5, .ref h6, .ref h7, .ref h8, .ref h9, .int 0, .int 0, .int 10, .int 0, .int 0, .int (-9), .int 0, .ref h10, .ref h11, .ref h12, .ref h13, .int 0, .int 0, .int 0, .ref h14, .int 0, .int 0, .int 0, .int (-9), .int 0, .ref h15, .int 0, .int 0, .int 0, .ref h16, .ref h17, .ref h18, .int 0, .int 0])), (h1, .inl (cI, 7, .inl (upd (fun _ => 0) 3 1)))] H := hP
  have hD : va_D A [(h0, .inr (12, [.ref h1, .ref h2, .ref h3, .ref h4, .ref h5, .ref h6, .ref h7, .ref h8, .ref h9, .int 0, .int 0, .int 10, .int 0, .int 0, .int (-9), .int 0, .ref h10, .ref h11, .ref h12, .ref h13, .int 0, .int 0, .int 0, .ref h14, .int 0, .int 0, .int 0, .int (-9), .int 0, .ref h15, .int 0, .int 0, .int 0, .ref h16, .ref h17, .ref h18, .int 0, .int 0])), (h1, .inl (cI, 7, .inl (upd (fun _ => 0) 3 1)))] := hD
  have hP9 := hP.sub (ws' := []) [] rfl
  have hD9 := hD.sub (ws' := []) [] (by decide) rfl
  exact W.iret (v := (-3)) hx hb hr (fun t ht hW => ⟨⟨(-3), (fun k => [].getD k 0), rfl, rfl, by rw [ht]; exact hP9, hD9⟩, hS.F ht⟩) hS.2.2 dX12_lot_31
set_option maxHeartbeats 4000000 in
set_option maxRecDepth 100000 in
theorem kX12_bound_14 (l : Launch) (dC : Nat → ClassId) (dI : Nat → Nat → Nat) (cI cQ : ClassId) (p0 : Int32) (hp0l : 21 ≤ p0.toInt) (hp0h : p0.toInt ≤ 2147483647) (sz : Nat) : Met l yX12_bound vsX12_bound ({ frames := 0, cells := 0, slots := 0, locals := 0 }) (va_Pc [.int p0, .int 1, .int 20] (zB dC dI cI cQ [] sz)) (zQi dC dI (va_A [] sz) (fun ad => []) (-6)) 0 0 (va_A [] sz) := by
  refine Met.ofW (cc := cX12_bound) (maxL := 3) (ret := (some .int)) (by decide) rfl ?_
  intro p e s m args below meth c s₁ B hml hv
  obtain ⟨rfl, hsz, hP, hZ, hD0⟩ := hv
  obtain ⟨hK, hAO, hN⟩ := id hZ
  have hx := B.exec
  have hb := B.bytes
  have hr := B.returns
  have hts := atoms_spec (ws := vsX12_bound) B.pre
  have hown : s.vm.findClass RX12 = some m.cls := findClass_of_methodNamed B.named
  have hlocks := B.notSynchronized
  subst hsz
  have hD := hD0.self (sz := s.heap.size)
  generalize hAe : va_A [] s.heap.size = A at hD ⊢
  have hA : ∀ q : Nat, s.heap.size ≤ q → A q := fun q h => by rw [← hAe]; exact Or.inr h
  have hS : va_S A s.heap s.heap [] := va_S.rf
  have hP : va_P (dC, dI) vwCl [] s.heap := hP
  have hl := lv_entry ([.int p0, .int 1, .int 20]) (n := 3) (Nat.le_of_ble_eq_true rfl)
  rw [lg_entry_eq]
  generalize (lg_sl ([.int p0, .int 1, .int 20]) ++ List.replicate (3 - (lg_sl ([.int p0, .int 1, .int 20])).length) Slot.unset).toArray = ls at hl ⊢
  have hl : lv_has ls 3 [(0, .int p0), (1, .int 1), (2, .int 20)] := hl
  refine lv_iload_n hx hb dX12_bound_0 rfl (lv_at hl 0 rfl) ?_
  refine lv_iload_n hx hb dX12_bound_1 rfl (lv_at hl 1 rfl) ?_
  refine lv_icmp_ge (tgt := 10) hx hb dX12_bound_2 (by decide) (fun hc => ?_) (fun hc => ?_)
  rotate_left; exact absurd ((fa_le _ _).mpr (by rw [show (1 : Int32).toInt = 1 from by decide]; omega)) hc
  refine lv_iload_n hx hb dX12_bound_10 rfl (lv_at hl 0 rfl) ?_
  refine lv_iload_n hx hb dX12_bound_11 rfl (lv_at hl 2 rfl) ?_
  refine lv_icmp_le (tgt := 20) hx hb dX12_bound_12 (by decide) (fun hc => ?_) (fun hc => ?_)
  · exact absurd ((fa_le _ _).mp hc) (by rw [show (20 : Int32).toInt = 20 from by decide]; omega)
  refine lv_bipush (v := (-6)) hx hb dX12_bound_15 (by decide) ?_
  refine lv_goto (tgt := 21) hx hb dX12_bound_17 (by decide) ?_
  have hP9 := hP.sub (ws' := []) [] rfl
  have hD9 := hD.sub (ws' := []) [] (by decide) rfl
  exact W.iret (v := (-6)) hx hb hr (fun t ht hW => ⟨⟨(-6), (fun k => [].getD k 0), rfl, rfl, by rw [ht]; exact hP9, hD9⟩, hS.F ht⟩) hS.2.2 dX12_bound_21
set_option maxHeartbeats 4000000 in
set_option maxRecDepth 100000 in
theorem kX12_lot_2 (l : Launch) (dC : Nat → ClassId) (dI : Nat → Nat → Nat) (cI cQ : ClassId) (h0 h1 h2 h3 h4 h5 h6 h7 h8 h9 h10 h11 h12 h13 h14 h15 h16 h17 h18 : Nat) (p0 : Int32) (hp0l : 21 ≤ p0.toInt) (hp0h : p0.toInt ≤ 2147483647) (p1 : Int32) (hp1l : -2147483648 ≤ p1.toInt) (hp1h : p1.toInt ≤ 2147483647) (sz : Nat) : Met l yX12_lot vsX12_lot ({ frames := 1, cells := 0, slots := 0, locals := 22 }) (va_Pc [.ref h0, .int p0, .int p1] (zB dC dI cI cQ [(h0, .inr (12, [.ref h1, .ref h2, .ref h3, .ref h4, .ref h5, .ref h6, .ref h7, .ref h8, .ref h9, .int 0, .int 0, .int 10, .int 0, .int 0, .int (-9), .int 0, .ref h10, .ref h11, .ref h12, .ref h13, .int 0, .int 0, .int 0, .ref h14, .int 0, .int 0, .int 0, .int (-9), .int 0, .ref h15, .int 0, .int 0, .int 0, .ref h16, .ref h17, .ref h18, .int 0, .int 0])), (h1, .inl (cI, 7, .inl (fun _ => 0)))] sz)) (zQi dC dI (va_A [(h0, .inr (12, [.ref h1, .ref h2, .ref h3, .ref h4, .ref h5, .ref h6, .ref h7, .ref h8, .ref h9, .int 0, .int 0, .int 10, .int 0, .int 0, .int (-9), .int 0, .ref h10, .ref h11, .ref h12, .ref h13, .int 0, .int 0, .int 0, .ref h14, .int 0, .int 0, .int 0, .int (-9), .int 0, .ref h15, .int 0, .int 0, .int 0, .ref h16, .ref h17, .ref h18, .int 0, .int 0])), (h1, .inl (cI, 7, .inl (fun _ => 0)))] sz) (fun ad => []) (-6)) 0 0 (va_A [(h0, .inr (12, [.ref h1, .ref h2, .ref h3, .ref h4, .ref h5, .ref h6, .ref h7, .ref h8, .ref h9, .int 0, .int 0, .int 10, .int 0, .int 0, .int (-9), .int 0, .ref h10, .ref h11, .ref h12, .ref h13, .int 0, .int 0, .int 0, .ref h14, .int 0, .int 0, .int 0, .int (-9), .int 0, .ref h15, .int 0, .int 0, .int 0, .ref h16, .ref h17, .ref h18, .int 0, .int 0])), (h1, .inl (cI, 7, .inl (fun _ => 0)))] sz) := by
  refine Met.ofW (cc := cX12_lot) (maxL := 7) (ret := (some .int)) (by decide) rfl ?_
  intro p e s m args below meth c s₁ B hml hv
  obtain ⟨rfl, hsz, hP, hZ, hD0⟩ := hv
  obtain ⟨hK, hAO, hN⟩ := id hZ
  have hx := B.exec
  have hb := B.bytes
  have hr := B.returns
  have hts := atoms_spec (ws := vsX12_lot) B.pre
  have hown : s.vm.findClass RX12 = some m.cls := findClass_of_methodNamed B.named
  have hlocks := B.notSynchronized
  subst hsz
  have hD := hD0.self (sz := s.heap.size)
  generalize hAe : va_A [(h0, .inr (12, [.ref h1, .ref h2, .ref h3, .ref h4, .ref h5, .ref h6, .ref h7, .ref h8, .ref h9, .int 0, .int 0, .int 10, .int 0, .int 0, .int (-9), .int 0, .ref h10, .ref h11, .ref h12, .ref h13, .int 0, .int 0, .int 0, .ref h14, .int 0, .int 0, .int 0, .int (-9), .int 0, .ref h15, .int 0, .int 0, .int 0, .ref h16, .ref h17, .ref h18, .int 0, .int 0])), (h1, .inl (cI, 7, .inl (fun _ => 0)))] s.heap.size = A at hD ⊢
  have hA : ∀ q : Nat, s.heap.size ≤ q → A q := fun q h => by rw [← hAe]; exact Or.inr h
  have hS : va_S A s.heap s.heap [] := va_S.rf
  have hP : va_P (dC, dI) vwCl [(h0, .inr (12, [.ref h1, .ref h2, .ref h3, .ref h4, .ref h5, .ref h6, .ref h7, .ref h8, .ref h9, .int 0, .int 0, .int 10, .int 0, .int 0, .int (-9), .int 0, .ref h10, .ref h11, .ref h12, .ref h13, .int 0, .int 0, .int 0, .ref h14, .int 0, .int 0, .int 0, .int (-9), .int 0, .ref h15, .int 0, .int 0, .int 0, .ref h16, .ref h17, .ref h18, .int 0, .int 0])), (h1, .inl (cI, 7, .inl (fun _ => 0)))] s.heap := hP
  have hl := lv_entry ([.ref h0, .int p0, .int p1]) (n := 7) (Nat.le_of_ble_eq_true rfl)
  rw [lg_entry_eq]
  generalize (lg_sl ([.ref h0, .int p0, .int p1]) ++ List.replicate (7 - (lg_sl ([.ref h0, .int p0, .int p1])).length) Slot.unset).toArray = ls at hl ⊢
  have hl : lv_has ls 7 [(0, .ref h0), (1, .int p0), (2, .int p1)] := hl
  refine lv_iload_n hx hb dX12_lot_0 rfl (lv_at hl 1 rfl) ?_
  refine lv_iconst (v := 1) hx hb dX12_lot_1 (by decide) ?_
  refine lv_bipush (v := 20) hx hb dX12_lot_2 (by decide) ?_
  refine z_calli (wc := []) (wr := [(h0, .inr (12, [.ref h1, .ref h2, .ref h3, .ref h4, .ref h5, .ref h6, .ref h7, .ref h8, .ref h9, .int 0, .int 0, .int 10, .int 0, .int 0, .int (-9), .int 0, .ref h10, .ref h11, .ref h12, .ref h13, .int 0, .int 0, .int 0, .ref h14, .int 0, .int 0, .int 0, .int (-9), .int 0, .ref h15, .int 0, .int 0, .int 0, .ref h16, .ref h17, .ref h18, .int 0, .int 0])), (h1, .inl (cI, 7, .inl (fun _ => 0)))]) (w1 := (fun _ => [])) (va_runS (As := [.int p0, .int 1, .int 20]) (rest := []) ⟨hx, hb, hml, hown, hts⟩ (kX12_bound_14 l dC dI cI cQ p0 hp0l hp0h s.heap.size) (va_cwS 3 hts gv_X12_lot_X12_bound_82 rfl rfl rfl (by decide +kernel) ⟨Nat.le_of_ble_eq_true rfl, Nat.le_of_ble_eq_true rfl⟩) ⟨z_blind, z_pre hZ hP hD [] rfl (by decide)⟩ rfl rfl hl.1 rfl (lv_room (Nat.le_of_ble_eq_true rfl)) dX12_lot_4 ⟨Nat.le_of_ble_eq_true rfl, Nat.le_of_ble_eq_true rfl⟩) hP hD hS hA [] [0, 1] rfl rfl (by decide) (by decide) (fun _ H locs hP hD hS => ?_)
  have hP : va_P (dC, dI) vwCl [(h0, .inr (12, [.ref h1, .ref h2, .ref h3, .ref h4, .ref h5, .ref h6, .ref h7, .ref h8, .ref h9, .int 0, .int 0, .int 10, .int 0, .int 0, .int (-9), .int 0, .ref h10, .ref h11, .ref h12, .ref h13, .int 0, .int 0, .int 0, .ref h14, .int 0, .int 0, .int 0, .int (-9), .int 0, .ref h15, .int 0, .int 0, .int 0, .ref h16, .ref h17, .ref h18, .int 0, .int 0])), (h1, .inl (cI, 7, .inl (fun _ => 0)))] H := hP
  have hD : va_D A [(h0, .inr (12, [.ref h1, .ref h2, .ref h3, .ref h4, .ref h5, .ref h6, .ref h7, .ref h8, .ref h9, .int 0, .int 0, .int 10, .int 0, .int 0, .int (-9), .int 0, .ref h10, .ref h11, .ref h12, .ref h13, .int 0, .int 0, .int 0, .ref h14, .int 0, .int 0, .int 0, .int (-9), .int 0, .ref h15, .int 0, .int 0, .int 0, .ref h16, .ref h17, .ref h18, .int 0, .int 0])), (h1, .inl (cI, 7, .inl (fun _ => 0)))] := hD
  refine lv_istore_n (lv' := [(3, .int (-6)), (0, .ref h0), (1, .int p0), (2, .int p1)]) hx hb dX12_lot_7 rfl hl (by decide) rfl (fun ls hl => ?_)
  refine lv_iload_n hx hb dX12_lot_8 rfl (lv_at hl 0 rfl) ?_
  refine lv_if_ne (tgt := 22) hx hb dX12_lot_9 (by decide) (fun hc => ?_) (fun hc => ?_)
  rotate_left; exact absurd hc (by decide)
  refine lv_iload_n hx hb dX12_lot_22 rfl (lv_at hl 0 rfl) ?_
  refine lv_if_eq (tgt := 32) hx hb dX12_lot_23 (by decide) (fun hc => ?_) (fun hc => ?_)
  · exact absurd hc (by decide)
  refine lv_aload_n hx hb dX12_lot_26 rfl (lv_at hl 1 rfl) ?_
  refine lv_iload_n hx hb dX12_lot_27 rfl (lv_at hl 0 rfl) ?_
  refine z_calli (wc := [(h0, .inr (12, [.ref h1, .ref h2, .ref h3, .ref h4, .ref h5, .ref h6, .ref h7, .ref h8, .ref h9, .int 0, .int 0, .int 10, .int 0, .int 0, .int (-9), .int 0, .ref h10, .ref h11, .ref h12, .ref h13, .int 0, .int 0, .int 0, .ref h14, .int 0, .int 0, .int 0, .int (-9), .int 0, .ref h15, .int 0, .int 0, .int 0, .ref h16, .ref h17, .ref h18, .int 0, .int 0])), (h1, .inl (cI, 7, .inl (fun _ => 0)))]) (wr := []) (w1 := (fun _ => [(h0, .inr (12, [.ref h1, .ref h2, .ref h3, .ref h4, .ref h5, .ref h6, .ref h7, .ref h8, .ref h9, .int 0, .int 0, .int 10, .int 0, .int 0, .int (-9), .int 0, .ref h10, .ref h11, .ref h12, .ref h13, .int 0, .int 0, .int 0, .ref h14, .int 0, .int 0, .int 0, .int (-9), .int 0, .ref h15, .int 0, .int 0, .int 0, .ref h16, .ref h17, .ref h18, .int 0, .int 0])), (h1, .inl (cI, 7, .inl (upd (fun _ => 0) 6 1)))])) (va_runV (As := [.int (-6)]) (rest := []) ⟨hx, hb, hml, hown, hts⟩ (kX12_no_1 l dC dI cI cQ h0 h1 h2 h3 h4 h5 h6 h7 h8 h9 h10 h11 h12 h13 h14 h15 h16 h17 h18 H.size) (cwV 1 hts gv_X12_lot_X12_no_89 rfl rfl rfl (by decide +kernel) ⟨Nat.le_of_ble_eq_true rfl, Nat.le_of_ble_eq_true rfl⟩) ⟨z_blind, va_recv hK hP (ci := 12) (q0 := 0) rfl rfl, z_pre hZ hP hD [0, 1] rfl (by decide)⟩ rfl rfl hl.1 rfl (lv_room (Nat.le_of_ble_eq_true rfl)) dX12_lot_28 ⟨Nat.le_of_ble_eq_true rfl, Nat.le_of_ble_eq_true rfl⟩) hP hD hS hA [0, 1] [] rfl rfl (by decide) (by decide) (fun _ H locs hP hD hS => ?_)
  have hP : va_P (dC, dI) vwCl [(h0, .inr (12, [.ref h1, .ref h2, .ref h3, .ref h4, .ref h5, .ref h6, .ref h7, .ref h8, .ref h9, .int 0, .int 0, .int 10, .int 0, .int 0, .int (-9), .int 0, .ref h10, .ref h11, .ref h12, .ref h13, .int 0, .int 0, .int 0, .ref h14, .int 0, .int 0, .int 0, .int (-9), .int 0, .ref h15, .int 0, .int 0, .int 0, .ref h16, .ref h17, .ref h18, .int 0, .int 0])), (h1, .inl (cI, 7, .inl (upd (fun _ => 0) 6 1)))] H := hP
  have hD : va_D A [(h0, .inr (12, [.ref h1, .ref h2, .ref h3, .ref h4, .ref h5, .ref h6, .ref h7, .ref h8, .ref h9, .int 0, .int 0, .int 10, .int 0, .int 0, .int (-9), .int 0, .ref h10, .ref h11, .ref h12, .ref h13, .int 0, .int 0, .int 0, .ref h14, .int 0, .int 0, .int 0, .int (-9), .int 0, .ref h15, .int 0, .int 0, .int 0, .ref h16, .ref h17, .ref h18, .int 0, .int 0])), (h1, .inl (cI, 7, .inl (upd (fun _ => 0) 6 1)))] := hD
  have hP9 := hP.sub (ws' := []) [] rfl
  have hD9 := hD.sub (ws' := []) [] (by decide) rfl
  exact W.iret (v := (-6)) hx hb hr (fun t ht hW => ⟨⟨(-6), (fun k => [].getD k 0), rfl, rfl, by rw [ht]; exact hP9, hD9⟩, hS.F ht⟩) hS.2.2 dX12_lot_31
set_option maxHeartbeats 4000000 in
set_option maxRecDepth 100000 in
theorem kX12_passes (l : Launch) (dC : Nat → ClassId) (dI : Nat → Nat → Nat) (cI cQ : ClassId) (h0 h1 h2 h3 h4 h5 h6 h7 h8 h9 h10 h11 h12 h13 h14 h15 h16 h17 h18 : Nat) (sz : Nat) : Met l yX12_passes vsX12_passes ({ frames := 0, cells := 0, slots := 0, locals := 0 }) (va_Pc [.ref h0, .ref h1] (zB dC dI cI cQ [(h0, .inr (12, [.ref h3, .ref h1, .ref h4, .ref h5, .ref h6, .ref h7, .ref h8, .ref h9, .ref h10, .int 0, .int 0, .int 10, .int 0, .int 0, .int (-9), .int 0, .ref h11, .ref h12, .ref h13, .ref h14, .int 0, .int 0, .int 0, .ref h2, .int 1, .int 1, .int 0, .int (-9), .int 0, .ref h15, .int 0, .int 0, .int 0, .ref h16, .ref h17, .ref h18, .int 0, .int 0])), (h1, .inl (cI, 5, .inl (fun _ => 0))), (h2, .inl (cI, 300, .inl (fun _ => 0)))] sz)) (zQv dC dI (va_A [(h0, .inr (12, [.ref h3, .ref h1, .ref h4, .ref h5, .ref h6, .ref h7, .ref h8, .ref h9, .ref h10, .int 0, .int 0, .int 10, .int 0, .int 0, .int (-9), .int 0, .ref h11, .ref h12, .ref h13, .ref h14, .int 0, .int 0, .int 0, .ref h2, .int 1, .int 1, .int 0, .int (-9), .int 0, .ref h15, .int 0, .int 0, .int 0, .ref h16, .ref h17, .ref h18, .int 0, .int 0])), (h1, .inl (cI, 5, .inl (fun _ => 0))), (h2, .inl (cI, 300, .inl (fun _ => 0)))] sz) (fun ad => [(h0, .inr (12, [.ref h3, .ref h1, .ref h4, .ref h5, .ref h6, .ref h7, .ref h8, .ref h9, .ref h10, .int 0, .int 0, .int 10, .int 0, .int 0, .int (-9), .int 0, .ref h11, .ref h12, .ref h13, .ref h14, .int 0, .int 0, .int 0, .ref h2, .int 1, .int 1, .int 5, .int (-9), .int 0, .ref h15, .int 0, .int 0, .int 0, .ref h16, .ref h17, .ref h18, .int 0, .int 0])), (h1, .inl (cI, 5, .inl (fun _ => 0))), (h2, .inl (cI, 300, .inl (fun _ => 0)))])) 0 0 (va_A [(h0, .inr (12, [.ref h3, .ref h1, .ref h4, .ref h5, .ref h6, .ref h7, .ref h8, .ref h9, .ref h10, .int 0, .int 0, .int 10, .int 0, .int 0, .int (-9), .int 0, .ref h11, .ref h12, .ref h13, .ref h14, .int 0, .int 0, .int 0, .ref h2, .int 1, .int 1, .int 0, .int (-9), .int 0, .ref h15, .int 0, .int 0, .int 0, .ref h16, .ref h17, .ref h18, .int 0, .int 0])), (h1, .inl (cI, 5, .inl (fun _ => 0))), (h2, .inl (cI, 300, .inl (fun _ => 0)))] sz) := by
  refine Met.ofW (cc := cX12_passes) (maxL := 3) (ret := none) (by decide) rfl ?_
  intro p e s m args below meth c s₁ B hml hv
  obtain ⟨rfl, hsz, hP, hZ, hD0⟩ := hv
  obtain ⟨hK, hAO, hN⟩ := id hZ
  have hx := B.exec
  have hb := B.bytes
  have hr := B.returns
  have hts := atoms_spec (ws := vsX12_passes) B.pre
  have hown : s.vm.findClass RX12 = some m.cls := findClass_of_methodNamed B.named
  have hlocks := B.notSynchronized
  subst hsz
  have hD := hD0.self (sz := s.heap.size)
  generalize hAe : va_A [(h0, .inr (12, [.ref h3, .ref h1, .ref h4, .ref h5, .ref h6, .ref h7, .ref h8, .ref h9, .ref h10, .int 0, .int 0, .int 10, .int 0, .int 0, .int (-9), .int 0, .ref h11, .ref h12, .ref h13, .ref h14, .int 0, .int 0, .int 0, .ref h2, .int 1, .int 1, .int 0, .int (-9), .int 0, .ref h15, .int 0, .int 0, .int 0, .ref h16, .ref h17, .ref h18, .int 0, .int 0])), (h1, .inl (cI, 5, .inl (fun _ => 0))), (h2, .inl (cI, 300, .inl (fun _ => 0)))] s.heap.size = A at hD ⊢
  have hA : ∀ q : Nat, s.heap.size ≤ q → A q := fun q h => by rw [← hAe]; exact Or.inr h
  have hS : va_S A s.heap s.heap [] := va_S.rf
  have hP : va_P (dC, dI) vwCl [(h0, .inr (12, [.ref h3, .ref h1, .ref h4, .ref h5, .ref h6, .ref h7, .ref h8, .ref h9, .ref h10, .int 0, .int 0, .int 10, .int 0, .int 0, .int (-9), .int 0, .ref h11, .ref h12, .ref h13, .ref h14, .int 0, .int 0, .int 0, .ref h2, .int 1, .int 1, .int 0, .int (-9), .int 0, .ref h15, .int 0, .int 0, .int 0, .ref h16, .ref h17, .ref h18, .int 0, .int 0])), (h1, .inl (cI, 5, .inl (fun _ => 0))), (h2, .inl (cI, 300, .inl (fun _ => 0)))] s.heap := hP
  have hl := lv_entry ([.ref h0, .ref h1]) (n := 3) (Nat.le_of_ble_eq_true rfl)
  rw [lg_entry_eq]
  generalize (lg_sl ([.ref h0, .ref h1]) ++ List.replicate (3 - (lg_sl ([.ref h0, .ref h1])).length) Slot.unset).toArray = ls at hl ⊢
  have hl : lv_has ls 3 [(0, .ref h0), (1, .ref h1)] := hl
  refine lv_iconst (v := 0) hx hb dX12_passes_0 (by decide) ?_
  refine lv_istore_n (lv' := [(2, .int 0), (0, .ref h0), (1, .ref h1)]) hx hb dX12_passes_1 rfl hl (by decide) rfl (fun ls hl => ?_)
  have hloop : ∀ (n j : Nat), j + n = 5 → ∀ (H : Heap) (locs : List Loc) (ls : Array Slot), lv_has ls 3 [(2, .int (nI (j + 0))), (0, .ref h0), (1, .ref h1)] → va_P (dC, dI) vwCl [(h0, .inr (12, [.ref h3, .ref h1, .ref h4, .ref h5, .ref h6, .ref h7, .ref h8, .ref h9, .ref h10, .int 0, .int 0, .int 10, .int 0, .int 0, .int (-9), .int 0, .ref h11, .ref h12, .ref h13, .ref h14, .int 0, .int 0, .int 0, .ref h2, .int 1, .int 1, .int (nI (j + 0)), .int (-9), .int 0, .ref h15, .int 0, .int 0, .int 0, .ref h16, .ref h17, .ref h18, .int 0, .int 0])), (h1, .inl (cI, 5, .inl (fun _ => 0))), (h2, .inl (cI, 300, .inl (fun _ => 0)))] H → va_D A [(h0, .inr (12, [.ref h3, .ref h1, .ref h4, .ref h5, .ref h6, .ref h7, .ref h8, .ref h9, .ref h10, .int 0, .int 0, .int 10, .int 0, .int 0, .int (-9), .int 0, .ref h11, .ref h12, .ref h13, .ref h14, .int 0, .int 0, .int 0, .ref h2, .int 1, .int 1, .int (nI (j + 0)), .int (-9), .int 0, .ref h15, .int 0, .int 0, .int 0, .ref h16, .ref h17, .ref h18, .int 0, .int 0])), (h1, .inl (cI, 5, .inl (fun _ => 0))), (h2, .inl (cI, 300, .inl (fun _ => 0)))] → va_S A s.heap H locs → W p l e (headSpec vsX12_passes ({ frames := 0, cells := 0, slots := 0, locals := 0 })).room s m ([.ref h0, .ref h1] : List Value).toArray below meth c H locs 0 0 (MQ below (zQv dC dI A (fun ad => [(h0, .inr (12, [.ref h3, .ref h1, .ref h4, .ref h5, .ref h6, .ref h7, .ref h8, .ref h9, .ref h10, .int 0, .int 0, .int 10, .int 0, .int 0, .int (-9), .int 0, .ref h11, .ref h12, .ref h13, .ref h14, .int 0, .int 0, .int 0, .ref h2, .int 1, .int 1, .int 5, .int (-9), .int 0, .ref h15, .int 0, .int 0, .int 0, .ref h16, .ref h17, .ref h18, .int 0, .int 0])), (h1, .inl (cI, 5, .inl (fun _ => 0))), (h2, .inl (cI, 300, .inl (fun _ => 0)))])) ([.ref h0, .ref h1] : List Value).toArray s 0 0 A) (F0 m 2 ls []) := by
    intro n
    induction n with
    | succ n ih =>
      intro j hj H locs ls hl hP hD hS
      refine lv_iload_n hx hb dX12_passes_2 rfl (lv_at hl 0 rfl) ?_
      refine lv_aload_n hx hb dX12_passes_3 rfl (lv_at hl 2 rfl) ?_
      refine va_alen hx hb hK hP 1 0 rfl rfl (v := 5) (by decide) dX12_passes_4 ?_
      refine lv_icmp_ge (tgt := 58) hx hb dX12_passes_5 (by decide) (fun hc => ?_) (fun hc => ?_)
      · exact absurd ((fa_le _ _).mp hc) (by rw [nI_toInt (show j + 0 < 2 ^ 31 by omega), show (5 : Int32).toInt = 5 from by decide]; omega)
      refine lv_aload_n hx hb dX12_passes_8 rfl (lv_at hl 1 rfl) ?_
      refine va_get (D := (dC, dI)) (ci := 12) (v := .int 1) (C := RX12) (T := TX12) (N := 38) hx hb hts in_X12_passes_X12 hown hK hP 0 rfl rfl 25 (by decide) (hts (.fieldLink RX12 137 "EachOnHisCueModel" "isKeeping" "Z") (by decide +kernel)) (fun _ h9 => h9) rfl dX12_passes_9 ?_
      refine lv_if_eq (tgt := 30) hx hb dX12_passes_12 (by decide) (fun hc => ?_) (fun hc => ?_)
      · exact absurd hc (by decide)
      refine lv_aload_n hx hb dX12_passes_15 rfl (lv_at hl 1 rfl) ?_
      refine va_get (D := (dC, dI)) (ci := 12) (v := .ref h2) (C := RX12) (T := TX12) (N := 38) hx hb hts in_X12_passes_X12 hown hK hP 0 rfl rfl 23 (by decide) (hts (.fieldLink RX12 56 "EachOnHisCueModel" "kept" "[I") (by decide +kernel)) (fun _ h9 => h9) rfl dX12_passes_16 ?_
      refine lv_aload_n hx hb dX12_passes_19 rfl (lv_at hl 1 rfl) ?_
      refine va_get (D := (dC, dI)) (ci := 12) (v := .int (nI (j + 0))) (C := RX12) (T := TX12) (N := 38) hx hb hts in_X12_passes_X12 hown hK hP 0 rfl rfl 26 (by decide) (hts (.fieldLink RX12 141 "EachOnHisCueModel" "cursor" "I") (by decide +kernel)) (fun _ h9 => h9) rfl dX12_passes_20 ?_
      refine lv_aload_n hx hb dX12_passes_23 rfl (lv_at hl 2 rfl) ?_
      refine lv_iload_n hx hb dX12_passes_24 rfl (lv_at hl 0 rfl) ?_
      refine va_iald hx hb hK hP 1 0 rfl rfl (vp_in_nI (show j + 0 < 5 by omega) (by decide)) dX12_passes_25 ?_
      refine lv_topi (fun y1 ey1 => ?_)
      obtain rfl : y1 = 0 := ey1.trans (by first | rfl | decide)
      refine va_iast hx hb hK hP hD hS 2 0 rfl rfl (vp_in_nI (show j + 0 < 300 by omega) (by decide)) dX12_passes_26 (fun H locs hP hD hS => ?_)
      rw [z_upd0] at hP hD
      have hP : va_P (dC, dI) vwCl [(h0, .inr (12, [.ref h3, .ref h1, .ref h4, .ref h5, .ref h6, .ref h7, .ref h8, .ref h9, .ref h10, .int 0, .int 0, .int 10, .int 0, .int 0, .int (-9), .int 0, .ref h11, .ref h12, .ref h13, .ref h14, .int 0, .int 0, .int 0, .ref h2, .int 1, .int 1, .int (nI (j + 0)), .int (-9), .int 0, .ref h15, .int 0, .int 0, .int 0, .ref h16, .ref h17, .ref h18, .int 0, .int 0])), (h1, .inl (cI, 5, .inl (fun _ => 0))), (h2, .inl (cI, 300, .inl (fun _ => 0)))] H := hP
      have hD : va_D A [(h0, .inr (12, [.ref h3, .ref h1, .ref h4, .ref h5, .ref h6, .ref h7, .ref h8, .ref h9, .ref h10, .int 0, .int 0, .int 10, .int 0, .int 0, .int (-9), .int 0, .ref h11, .ref h12, .ref h13, .ref h14, .int 0, .int 0, .int 0, .ref h2, .int 1, .int 1, .int (nI (j + 0)), .int (-9), .int 0, .ref h15, .int 0, .int 0, .int 0, .ref h16, .ref h17, .ref h18, .int 0, .int 0])), (h1, .inl (cI, 5, .inl (fun _ => 0))), (h2, .inl (cI, 300, .inl (fun _ => 0)))] := hD
      refine lv_goto (tgt := 42) hx hb dX12_passes_27 (by decide) ?_
      refine lv_aload_n hx hb dX12_passes_42 rfl (lv_at hl 1 rfl) ?_
      refine lv_dup hx hb dX12_passes_43 rfl ?_
      refine va_get (D := (dC, dI)) (ci := 12) (v := .int (nI (j + 0))) (C := RX12) (T := TX12) (N := 38) hx hb hts in_X12_passes_X12 hown hK hP 0 rfl rfl 26 (by decide) (hts (.fieldLink RX12 141 "EachOnHisCueModel" "cursor" "I") (by decide +kernel)) (fun _ h9 => h9) rfl dX12_passes_44 ?_
      refine lv_iconst (v := 1) hx hb dX12_passes_47 (by decide) ?_
      refine lv_iadd hx hb dX12_passes_48 ?_
      refine lv_topi (fun y2 ey2 => ?_)
      obtain rfl : y2 = (nI (j + 1)) := ey2.trans (nI_1 _)
      refine va_put (D := (dC, dI)) (ci := 12) (v := .int (nI (j + 1))) (ty := .int) (C := RX12) (T := TX12) (N := 38) hx hb hts in_X12_passes_X12 tyX12 tyX12_ok nmX12 hown hK hP hD hS 0 rfl rfl 26 (by decide) (hts (.fieldLink RX12 141 "EachOnHisCueModel" "cursor" "I") (by decide +kernel)) (fun _ h9 => h9) rfl (by decide +kernel) rfl rfl (Nat.le_of_ble_eq_true rfl) dX12_passes_49 (fun H locs hP hD hS => ?_)
      have hP : va_P (dC, dI) vwCl [(h0, .inr (12, [.ref h3, .ref h1, .ref h4, .ref h5, .ref h6, .ref h7, .ref h8, .ref h9, .ref h10, .int 0, .int 0, .int 10, .int 0, .int 0, .int (-9), .int 0, .ref h11, .ref h12, .ref h13, .ref h14, .int 0, .int 0, .int 0, .ref h2, .int 1, .int 1, .int (nI (j + 1)), .int (-9), .int 0, .ref h15, .int 0, .int 0, .int 0, .ref h16, .ref h17, .ref h18, .int 0, .int 0])), (h1, .inl (cI, 5, .inl (fun _ => 0))), (h2, .inl (cI, 300, .inl (fun _ => 0)))] H := hP
      have hD : va_D A [(h0, .inr (12, [.ref h3, .ref h1, .ref h4, .ref h5, .ref h6, .ref h7, .ref h8, .ref h9, .ref h10, .int 0, .int 0, .int 10, .int 0, .int 0, .int (-9), .int 0, .ref h11, .ref h12, .ref h13, .ref h14, .int 0, .int 0, .int 0, .ref h2, .int 1, .int 1, .int (nI (j + 1)), .int (-9), .int 0, .ref h15, .int 0, .int 0, .int 0, .ref h16, .ref h17, .ref h18, .int 0, .int 0])), (h1, .inl (cI, 5, .inl (fun _ => 0))), (h2, .inl (cI, 300, .inl (fun _ => 0)))] := hD
      refine lv_iinc (v := (nI (j + 1))) (lv' := [(2, .int (nI (j + 1))), (0, .ref h0), (1, .ref h1)]) hx hb dX12_passes_52 hl (k := 0) rfl (nI_1 _) (by decide) rfl (fun ls hl => ?_)
      refine lv_goto (tgt := 2) hx hb dX12_passes_55 (by decide) ?_
      exact ih (j + 1) (by omega) _ _ _ (lv_sub hl [0, 1, 2] rfl) hP hD hS
    | zero =>
      intro j hj H locs ls hl hP hD hS
      obtain rfl : j = 5 := by omega
      have hl : lv_has ls 3 [(2, .int 5), (0, .ref h0), (1, .ref h1)] := hl
      have hP : va_P (dC, dI) vwCl [(h0, .inr (12, [.ref h3, .ref h1, .ref h4, .ref h5, .ref h6, .ref h7, .ref h8, .ref h9, .ref h10, .int 0, .int 0, .int 10, .int 0, .int 0, .int (-9), .int 0, .ref h11, .ref h12, .ref h13, .ref h14, .int 0, .int 0, .int 0, .ref h2, .int 1, .int 1, .int 5, .int (-9), .int 0, .ref h15, .int 0, .int 0, .int 0, .ref h16, .ref h17, .ref h18, .int 0, .int 0])), (h1, .inl (cI, 5, .inl (fun _ => 0))), (h2, .inl (cI, 300, .inl (fun _ => 0)))] H := hP
      have hD : va_D A [(h0, .inr (12, [.ref h3, .ref h1, .ref h4, .ref h5, .ref h6, .ref h7, .ref h8, .ref h9, .ref h10, .int 0, .int 0, .int 10, .int 0, .int 0, .int (-9), .int 0, .ref h11, .ref h12, .ref h13, .ref h14, .int 0, .int 0, .int 0, .ref h2, .int 1, .int 1, .int 5, .int (-9), .int 0, .ref h15, .int 0, .int 0, .int 0, .ref h16, .ref h17, .ref h18, .int 0, .int 0])), (h1, .inl (cI, 5, .inl (fun _ => 0))), (h2, .inl (cI, 300, .inl (fun _ => 0)))] := hD
      refine lv_iload_n hx hb dX12_passes_2 rfl (lv_at hl 0 rfl) ?_
      refine lv_aload_n hx hb dX12_passes_3 rfl (lv_at hl 2 rfl) ?_
      refine va_alen hx hb hK hP 1 0 rfl rfl (v := 5) (by decide) dX12_passes_4 ?_
      refine lv_icmp_ge (tgt := 58) hx hb dX12_passes_5 (by decide) (fun hc => ?_) (fun hc => ?_)
      rotate_left; exact absurd hc (by decide)
      have hP9 := hP.sub (ws' := [(h0, .inr (12, [.ref h3, .ref h1, .ref h4, .ref h5, .ref h6, .ref h7, .ref h8, .ref h9, .ref h10, .int 0, .int 0, .int 10, .int 0, .int 0, .int (-9), .int 0, .ref h11, .ref h12, .ref h13, .ref h14, .int 0, .int 0, .int 0, .ref h2, .int 1, .int 1, .int 5, .int (-9), .int 0, .ref h15, .int 0, .int 0, .int 0, .ref h16, .ref h17, .ref h18, .int 0, .int 0])), (h1, .inl (cI, 5, .inl (fun _ => 0))), (h2, .inl (cI, 300, .inl (fun _ => 0)))]) [0, 1, 2] rfl
      have hD9 := hD.sub (ws' := [(h0, .inr (12, [.ref h3, .ref h1, .ref h4, .ref h5, .ref h6, .ref h7, .ref h8, .ref h9, .ref h10, .int 0, .int 0, .int 10, .int 0, .int 0, .int (-9), .int 0, .ref h11, .ref h12, .ref h13, .ref h14, .int 0, .int 0, .int 0, .ref h2, .int 1, .int 1, .int 5, .int (-9), .int 0, .ref h15, .int 0, .int 0, .int 0, .ref h16, .ref h17, .ref h18, .int 0, .int 0])), (h1, .inl (cI, 5, .inl (fun _ => 0))), (h2, .inl (cI, 300, .inl (fun _ => 0)))]) [0, 1, 2] (by decide) rfl
      exact W.vret hx hb hr (fun t ht hW => ⟨⟨(fun k => [].getD k 0), rfl, trivial, by rw [ht]; exact hP9, hD9⟩, hS.F ht⟩) hS.2.2 dX12_passes_58
  exact hloop 5 0 rfl _ _ _ hl hP hD hS
set_option maxHeartbeats 4000000 in
set_option maxRecDepth 100000 in
theorem kX12_passes_1 (l : Launch) (dC : Nat → ClassId) (dI : Nat → Nat → Nat) (cI cQ : ClassId) (h0 h1 h2 h3 h4 h5 h6 h7 h8 h9 h10 h11 h12 h13 h14 h15 h16 h17 h18 : Nat) (sz : Nat) : Met l yX12_passes vsX12_passes ({ frames := 0, cells := 0, slots := 0, locals := 0 }) (va_Pc [.ref h0, .ref h1] (zB dC dI cI cQ [(h1, .inl (cI, 5, .inl (fun _ => 0))), (h0, .inr (12, [.ref h3, .ref h4, .ref h1, .ref h5, .ref h6, .ref h7, .ref h8, .ref h9, .ref h10, .int 0, .int 0, .int 10, .int 0, .int 0, .int (-9), .int 0, .ref h11, .ref h12, .ref h13, .ref h14, .int 0, .int 0, .int 0, .ref h2, .int 1, .int 1, .int 5, .int (-9), .int 0, .ref h15, .int 0, .int 0, .int 0, .ref h16, .ref h17, .ref h18, .int 0, .int 0])), (h2, .inl (cI, 300, .inl (fun _ => 0)))] sz)) (zQv dC dI (va_A [(h1, .inl (cI, 5, .inl (fun _ => 0))), (h0, .inr (12, [.ref h3, .ref h4, .ref h1, .ref h5, .ref h6, .ref h7, .ref h8, .ref h9, .ref h10, .int 0, .int 0, .int 10, .int 0, .int 0, .int (-9), .int 0, .ref h11, .ref h12, .ref h13, .ref h14, .int 0, .int 0, .int 0, .ref h2, .int 1, .int 1, .int 5, .int (-9), .int 0, .ref h15, .int 0, .int 0, .int 0, .ref h16, .ref h17, .ref h18, .int 0, .int 0])), (h2, .inl (cI, 300, .inl (fun _ => 0)))] sz) (fun ad => [(h1, .inl (cI, 5, .inl (fun _ => 0))), (h0, .inr (12, [.ref h3, .ref h4, .ref h1, .ref h5, .ref h6, .ref h7, .ref h8, .ref h9, .ref h10, .int 0, .int 0, .int 10, .int 0, .int 0, .int (-9), .int 0, .ref h11, .ref h12, .ref h13, .ref h14, .int 0, .int 0, .int 0, .ref h2, .int 1, .int 1, .int 10, .int (-9), .int 0, .ref h15, .int 0, .int 0, .int 0, .ref h16, .ref h17, .ref h18, .int 0, .int 0])), (h2, .inl (cI, 300, .inl (fun _ => 0)))])) 0 0 (va_A [(h1, .inl (cI, 5, .inl (fun _ => 0))), (h0, .inr (12, [.ref h3, .ref h4, .ref h1, .ref h5, .ref h6, .ref h7, .ref h8, .ref h9, .ref h10, .int 0, .int 0, .int 10, .int 0, .int 0, .int (-9), .int 0, .ref h11, .ref h12, .ref h13, .ref h14, .int 0, .int 0, .int 0, .ref h2, .int 1, .int 1, .int 5, .int (-9), .int 0, .ref h15, .int 0, .int 0, .int 0, .ref h16, .ref h17, .ref h18, .int 0, .int 0])), (h2, .inl (cI, 300, .inl (fun _ => 0)))] sz) := by
  refine Met.ofW (cc := cX12_passes) (maxL := 3) (ret := none) (by decide) rfl ?_
  intro p e s m args below meth c s₁ B hml hv
  obtain ⟨rfl, hsz, hP, hZ, hD0⟩ := hv
  obtain ⟨hK, hAO, hN⟩ := id hZ
  have hx := B.exec
  have hb := B.bytes
  have hr := B.returns
  have hts := atoms_spec (ws := vsX12_passes) B.pre
  have hown : s.vm.findClass RX12 = some m.cls := findClass_of_methodNamed B.named
  have hlocks := B.notSynchronized
  subst hsz
  have hD := hD0.self (sz := s.heap.size)
  generalize hAe : va_A [(h1, .inl (cI, 5, .inl (fun _ => 0))), (h0, .inr (12, [.ref h3, .ref h4, .ref h1, .ref h5, .ref h6, .ref h7, .ref h8, .ref h9, .ref h10, .int 0, .int 0, .int 10, .int 0, .int 0, .int (-9), .int 0, .ref h11, .ref h12, .ref h13, .ref h14, .int 0, .int 0, .int 0, .ref h2, .int 1, .int 1, .int 5, .int (-9), .int 0, .ref h15, .int 0, .int 0, .int 0, .ref h16, .ref h17, .ref h18, .int 0, .int 0])), (h2, .inl (cI, 300, .inl (fun _ => 0)))] s.heap.size = A at hD ⊢
  have hA : ∀ q : Nat, s.heap.size ≤ q → A q := fun q h => by rw [← hAe]; exact Or.inr h
  have hS : va_S A s.heap s.heap [] := va_S.rf
  have hP : va_P (dC, dI) vwCl [(h1, .inl (cI, 5, .inl (fun _ => 0))), (h0, .inr (12, [.ref h3, .ref h4, .ref h1, .ref h5, .ref h6, .ref h7, .ref h8, .ref h9, .ref h10, .int 0, .int 0, .int 10, .int 0, .int 0, .int (-9), .int 0, .ref h11, .ref h12, .ref h13, .ref h14, .int 0, .int 0, .int 0, .ref h2, .int 1, .int 1, .int 5, .int (-9), .int 0, .ref h15, .int 0, .int 0, .int 0, .ref h16, .ref h17, .ref h18, .int 0, .int 0])), (h2, .inl (cI, 300, .inl (fun _ => 0)))] s.heap := hP
  have hl := lv_entry ([.ref h0, .ref h1]) (n := 3) (Nat.le_of_ble_eq_true rfl)
  rw [lg_entry_eq]
  generalize (lg_sl ([.ref h0, .ref h1]) ++ List.replicate (3 - (lg_sl ([.ref h0, .ref h1])).length) Slot.unset).toArray = ls at hl ⊢
  have hl : lv_has ls 3 [(0, .ref h0), (1, .ref h1)] := hl
  refine lv_iconst (v := 0) hx hb dX12_passes_0 (by decide) ?_
  refine lv_istore_n (lv' := [(2, .int 0), (0, .ref h0), (1, .ref h1)]) hx hb dX12_passes_1 rfl hl (by decide) rfl (fun ls hl => ?_)
  have hloop : ∀ (n j : Nat), j + n = 5 → ∀ (H : Heap) (locs : List Loc) (ls : Array Slot), lv_has ls 3 [(2, .int (nI (j + 0))), (0, .ref h0), (1, .ref h1)] → va_P (dC, dI) vwCl [(h1, .inl (cI, 5, .inl (fun _ => 0))), (h0, .inr (12, [.ref h3, .ref h4, .ref h1, .ref h5, .ref h6, .ref h7, .ref h8, .ref h9, .ref h10, .int 0, .int 0, .int 10, .int 0, .int 0, .int (-9), .int 0, .ref h11, .ref h12, .ref h13, .ref h14, .int 0, .int 0, .int 0, .ref h2, .int 1, .int 1, .int (nI (j + 5)), .int (-9), .int 0, .ref h15, .int 0, .int 0, .int 0, .ref h16, .ref h17, .ref h18, .int 0, .int 0])), (h2, .inl (cI, 300, .inl (fun _ => 0)))] H → va_D A [(h1, .inl (cI, 5, .inl (fun _ => 0))), (h0, .inr (12, [.ref h3, .ref h4, .ref h1, .ref h5, .ref h6, .ref h7, .ref h8, .ref h9, .ref h10, .int 0, .int 0, .int 10, .int 0, .int 0, .int (-9), .int 0, .ref h11, .ref h12, .ref h13, .ref h14, .int 0, .int 0, .int 0, .ref h2, .int 1, .int 1, .int (nI (j + 5)), .int (-9), .int 0, .ref h15, .int 0, .int 0, .int 0, .ref h16, .ref h17, .ref h18, .int 0, .int 0])), (h2, .inl (cI, 300, .inl (fun _ => 0)))] → va_S A s.heap H locs → W p l e (headSpec vsX12_passes ({ frames := 0, cells := 0, slots := 0, locals := 0 })).room s m ([.ref h0, .ref h1] : List Value).toArray below meth c H locs 0 0 (MQ below (zQv dC dI A (fun ad => [(h1, .inl (cI, 5, .inl (fun _ => 0))), (h0, .inr (12, [.ref h3, .ref h4, .ref h1, .ref h5, .ref h6, .ref h7, .ref h8, .ref h9, .ref h10, .int 0, .int 0, .int 10, .int 0, .int 0, .int (-9), .int 0, .ref h11, .ref h12, .ref h13, .ref h14, .int 0, .int 0, .int 0, .ref h2, .int 1, .int 1, .int 10, .int (-9), .int 0, .ref h15, .int 0, .int 0, .int 0, .ref h16, .ref h17, .ref h18, .int 0, .int 0])), (h2, .inl (cI, 300, .inl (fun _ => 0)))])) ([.ref h0, .ref h1] : List Value).toArray s 0 0 A) (F0 m 2 ls []) := by
    intro n
    induction n with
    | succ n ih =>
      intro j hj H locs ls hl hP hD hS
      refine lv_iload_n hx hb dX12_passes_2 rfl (lv_at hl 0 rfl) ?_
      refine lv_aload_n hx hb dX12_passes_3 rfl (lv_at hl 2 rfl) ?_
      refine va_alen hx hb hK hP 0 0 rfl rfl (v := 5) (by decide) dX12_passes_4 ?_
      refine lv_icmp_ge (tgt := 58) hx hb dX12_passes_5 (by decide) (fun hc => ?_) (fun hc => ?_)
      · exact absurd ((fa_le _ _).mp hc) (by rw [nI_toInt (show j + 0 < 2 ^ 31 by omega), show (5 : Int32).toInt = 5 from by decide]; omega)
      refine lv_aload_n hx hb dX12_passes_8 rfl (lv_at hl 1 rfl) ?_
      refine va_get (D := (dC, dI)) (ci := 12) (v := .int 1) (C := RX12) (T := TX12) (N := 38) hx hb hts in_X12_passes_X12 hown hK hP 1 rfl rfl 25 (by decide) (hts (.fieldLink RX12 137 "EachOnHisCueModel" "isKeeping" "Z") (by decide +kernel)) (fun _ h9 => h9) rfl dX12_passes_9 ?_
      refine lv_if_eq (tgt := 30) hx hb dX12_passes_12 (by decide) (fun hc => ?_) (fun hc => ?_)
      · exact absurd hc (by decide)
      refine lv_aload_n hx hb dX12_passes_15 rfl (lv_at hl 1 rfl) ?_
      refine va_get (D := (dC, dI)) (ci := 12) (v := .ref h2) (C := RX12) (T := TX12) (N := 38) hx hb hts in_X12_passes_X12 hown hK hP 1 rfl rfl 23 (by decide) (hts (.fieldLink RX12 56 "EachOnHisCueModel" "kept" "[I") (by decide +kernel)) (fun _ h9 => h9) rfl dX12_passes_16 ?_
      refine lv_aload_n hx hb dX12_passes_19 rfl (lv_at hl 1 rfl) ?_
      refine va_get (D := (dC, dI)) (ci := 12) (v := .int (nI (j + 5))) (C := RX12) (T := TX12) (N := 38) hx hb hts in_X12_passes_X12 hown hK hP 1 rfl rfl 26 (by decide) (hts (.fieldLink RX12 141 "EachOnHisCueModel" "cursor" "I") (by decide +kernel)) (fun _ h9 => h9) rfl dX12_passes_20 ?_
      refine lv_aload_n hx hb dX12_passes_23 rfl (lv_at hl 2 rfl) ?_
      refine lv_iload_n hx hb dX12_passes_24 rfl (lv_at hl 0 rfl) ?_
      refine va_iald hx hb hK hP 0 0 rfl rfl (vp_in_nI (show j + 0 < 5 by omega) (by decide)) dX12_passes_25 ?_
      refine lv_topi (fun y1 ey1 => ?_)
      obtain rfl : y1 = 0 := ey1.trans (by first | rfl | decide)
      refine va_iast hx hb hK hP hD hS 2 0 rfl rfl (vp_in_nI (show j + 5 < 300 by omega) (by decide)) dX12_passes_26 (fun H locs hP hD hS => ?_)
      rw [z_upd0] at hP hD
      have hP : va_P (dC, dI) vwCl [(h1, .inl (cI, 5, .inl (fun _ => 0))), (h0, .inr (12, [.ref h3, .ref h4, .ref h1, .ref h5, .ref h6, .ref h7, .ref h8, .ref h9, .ref h10, .int 0, .int 0, .int 10, .int 0, .int 0, .int (-9), .int 0, .ref h11, .ref h12, .ref h13, .ref h14, .int 0, .int 0, .int 0, .ref h2, .int 1, .int 1, .int (nI (j + 5)), .int (-9), .int 0, .ref h15, .int 0, .int 0, .int 0, .ref h16, .ref h17, .ref h18, .int 0, .int 0])), (h2, .inl (cI, 300, .inl (fun _ => 0)))] H := hP
      have hD : va_D A [(h1, .inl (cI, 5, .inl (fun _ => 0))), (h0, .inr (12, [.ref h3, .ref h4, .ref h1, .ref h5, .ref h6, .ref h7, .ref h8, .ref h9, .ref h10, .int 0, .int 0, .int 10, .int 0, .int 0, .int (-9), .int 0, .ref h11, .ref h12, .ref h13, .ref h14, .int 0, .int 0, .int 0, .ref h2, .int 1, .int 1, .int (nI (j + 5)), .int (-9), .int 0, .ref h15, .int 0, .int 0, .int 0, .ref h16, .ref h17, .ref h18, .int 0, .int 0])), (h2, .inl (cI, 300, .inl (fun _ => 0)))] := hD
      refine lv_goto (tgt := 42) hx hb dX12_passes_27 (by decide) ?_
      refine lv_aload_n hx hb dX12_passes_42 rfl (lv_at hl 1 rfl) ?_
      refine lv_dup hx hb dX12_passes_43 rfl ?_
      refine va_get (D := (dC, dI)) (ci := 12) (v := .int (nI (j + 5))) (C := RX12) (T := TX12) (N := 38) hx hb hts in_X12_passes_X12 hown hK hP 1 rfl rfl 26 (by decide) (hts (.fieldLink RX12 141 "EachOnHisCueModel" "cursor" "I") (by decide +kernel)) (fun _ h9 => h9) rfl dX12_passes_44 ?_
      refine lv_iconst (v := 1) hx hb dX12_passes_47 (by decide) ?_
      refine lv_iadd hx hb dX12_passes_48 ?_
      refine lv_topi (fun y2 ey2 => ?_)
      obtain rfl : y2 = (nI (j + 6)) := ey2.trans (nI_1 _)
      refine va_put (D := (dC, dI)) (ci := 12) (v := .int (nI (j + 6))) (ty := .int) (C := RX12) (T := TX12) (N := 38) hx hb hts in_X12_passes_X12 tyX12 tyX12_ok nmX12 hown hK hP hD hS 1 rfl rfl 26 (by decide) (hts (.fieldLink RX12 141 "EachOnHisCueModel" "cursor" "I") (by decide +kernel)) (fun _ h9 => h9) rfl (by decide +kernel) rfl rfl (Nat.le_of_ble_eq_true rfl) dX12_passes_49 (fun H locs hP hD hS => ?_)
      have hP : va_P (dC, dI) vwCl [(h1, .inl (cI, 5, .inl (fun _ => 0))), (h0, .inr (12, [.ref h3, .ref h4, .ref h1, .ref h5, .ref h6, .ref h7, .ref h8, .ref h9, .ref h10, .int 0, .int 0, .int 10, .int 0, .int 0, .int (-9), .int 0, .ref h11, .ref h12, .ref h13, .ref h14, .int 0, .int 0, .int 0, .ref h2, .int 1, .int 1, .int (nI (j + 6)), .int (-9), .int 0, .ref h15, .int 0, .int 0, .int 0, .ref h16, .ref h17, .ref h18, .int 0, .int 0])), (h2, .inl (cI, 300, .inl (fun _ => 0)))] H := hP
      have hD : va_D A [(h1, .inl (cI, 5, .inl (fun _ => 0))), (h0, .inr (12, [.ref h3, .ref h4, .ref h1, .ref h5, .ref h6, .ref h7, .ref h8, .ref h9, .ref h10, .int 0, .int 0, .int 10, .int 0, .int 0, .int (-9), .int 0, .ref h11, .ref h12, .ref h13, .ref h14, .int 0, .int 0, .int 0, .ref h2, .int 1, .int 1, .int (nI (j + 6)), .int (-9), .int 0, .ref h15, .int 0, .int 0, .int 0, .ref h16, .ref h17, .ref h18, .int 0, .int 0])), (h2, .inl (cI, 300, .inl (fun _ => 0)))] := hD
      refine lv_iinc (v := (nI (j + 1))) (lv' := [(2, .int (nI (j + 1))), (0, .ref h0), (1, .ref h1)]) hx hb dX12_passes_52 hl (k := 0) rfl (nI_1 _) (by decide) rfl (fun ls hl => ?_)
      refine lv_goto (tgt := 2) hx hb dX12_passes_55 (by decide) ?_
      exact ih (j + 1) (by omega) _ _ _ (lv_sub hl [0, 1, 2] rfl) hP hD hS
    | zero =>
      intro j hj H locs ls hl hP hD hS
      obtain rfl : j = 5 := by omega
      have hl : lv_has ls 3 [(2, .int 5), (0, .ref h0), (1, .ref h1)] := hl
      have hP : va_P (dC, dI) vwCl [(h1, .inl (cI, 5, .inl (fun _ => 0))), (h0, .inr (12, [.ref h3, .ref h4, .ref h1, .ref h5, .ref h6, .ref h7, .ref h8, .ref h9, .ref h10, .int 0, .int 0, .int 10, .int 0, .int 0, .int (-9), .int 0, .ref h11, .ref h12, .ref h13, .ref h14, .int 0, .int 0, .int 0, .ref h2, .int 1, .int 1, .int 10, .int (-9), .int 0, .ref h15, .int 0, .int 0, .int 0, .ref h16, .ref h17, .ref h18, .int 0, .int 0])), (h2, .inl (cI, 300, .inl (fun _ => 0)))] H := hP
      have hD : va_D A [(h1, .inl (cI, 5, .inl (fun _ => 0))), (h0, .inr (12, [.ref h3, .ref h4, .ref h1, .ref h5, .ref h6, .ref h7, .ref h8, .ref h9, .ref h10, .int 0, .int 0, .int 10, .int 0, .int 0, .int (-9), .int 0, .ref h11, .ref h12, .ref h13, .ref h14, .int 0, .int 0, .int 0, .ref h2, .int 1, .int 1, .int 10, .int (-9), .int 0, .ref h15, .int 0, .int 0, .int 0, .ref h16, .ref h17, .ref h18, .int 0, .int 0])), (h2, .inl (cI, 300, .inl (fun _ => 0)))] := hD
      refine lv_iload_n hx hb dX12_passes_2 rfl (lv_at hl 0 rfl) ?_
      refine lv_aload_n hx hb dX12_passes_3 rfl (lv_at hl 2 rfl) ?_
      refine va_alen hx hb hK hP 0 0 rfl rfl (v := 5) (by decide) dX12_passes_4 ?_
      refine lv_icmp_ge (tgt := 58) hx hb dX12_passes_5 (by decide) (fun hc => ?_) (fun hc => ?_)
      rotate_left; exact absurd hc (by decide)
      have hP9 := hP.sub (ws' := [(h1, .inl (cI, 5, .inl (fun _ => 0))), (h0, .inr (12, [.ref h3, .ref h4, .ref h1, .ref h5, .ref h6, .ref h7, .ref h8, .ref h9, .ref h10, .int 0, .int 0, .int 10, .int 0, .int 0, .int (-9), .int 0, .ref h11, .ref h12, .ref h13, .ref h14, .int 0, .int 0, .int 0, .ref h2, .int 1, .int 1, .int 10, .int (-9), .int 0, .ref h15, .int 0, .int 0, .int 0, .ref h16, .ref h17, .ref h18, .int 0, .int 0])), (h2, .inl (cI, 300, .inl (fun _ => 0)))]) [0, 1, 2] rfl
      have hD9 := hD.sub (ws' := [(h1, .inl (cI, 5, .inl (fun _ => 0))), (h0, .inr (12, [.ref h3, .ref h4, .ref h1, .ref h5, .ref h6, .ref h7, .ref h8, .ref h9, .ref h10, .int 0, .int 0, .int 10, .int 0, .int 0, .int (-9), .int 0, .ref h11, .ref h12, .ref h13, .ref h14, .int 0, .int 0, .int 0, .ref h2, .int 1, .int 1, .int 10, .int (-9), .int 0, .ref h15, .int 0, .int 0, .int 0, .ref h16, .ref h17, .ref h18, .int 0, .int 0])), (h2, .inl (cI, 300, .inl (fun _ => 0)))]) [0, 1, 2] (by decide) rfl
      exact W.vret hx hb hr (fun t ht hW => ⟨⟨(fun k => [].getD k 0), rfl, trivial, by rw [ht]; exact hP9, hD9⟩, hS.F ht⟩) hS.2.2 dX12_passes_58
  exact hloop 5 0 rfl _ _ _ hl hP hD hS
set_option maxHeartbeats 4000000 in
set_option maxRecDepth 100000 in
theorem kX12_passes_2 (l : Launch) (dC : Nat → ClassId) (dI : Nat → Nat → Nat) (cI cQ : ClassId) (h0 h1 h2 h3 h4 h5 h6 h7 h8 h9 h10 h11 h12 h13 h14 h15 h16 h17 h18 : Nat) (sz : Nat) : Met l yX12_passes vsX12_passes ({ frames := 0, cells := 0, slots := 0, locals := 0 }) (va_Pc [.ref h0, .ref h1] (zB dC dI cI cQ [(h1, .inl (cI, 5, .inl (fun _ => 0))), (h0, .inr (12, [.ref h3, .ref h4, .ref h5, .ref h1, .ref h6, .ref h7, .ref h8, .ref h9, .ref h10, .int 0, .int 0, .int 10, .int 0, .int 0, .int (-9), .int 0, .ref h11, .ref h12, .ref h13, .ref h14, .int 0, .int 0, .int 0, .ref h2, .int 1, .int 1, .int 10, .int (-9), .int 0, .ref h15, .int 0, .int 0, .int 0, .ref h16, .ref h17, .ref h18, .int 0, .int 0])), (h2, .inl (cI, 300, .inl (fun _ => 0)))] sz)) (zQv dC dI (va_A [(h1, .inl (cI, 5, .inl (fun _ => 0))), (h0, .inr (12, [.ref h3, .ref h4, .ref h5, .ref h1, .ref h6, .ref h7, .ref h8, .ref h9, .ref h10, .int 0, .int 0, .int 10, .int 0, .int 0, .int (-9), .int 0, .ref h11, .ref h12, .ref h13, .ref h14, .int 0, .int 0, .int 0, .ref h2, .int 1, .int 1, .int 10, .int (-9), .int 0, .ref h15, .int 0, .int 0, .int 0, .ref h16, .ref h17, .ref h18, .int 0, .int 0])), (h2, .inl (cI, 300, .inl (fun _ => 0)))] sz) (fun ad => [(h1, .inl (cI, 5, .inl (fun _ => 0))), (h0, .inr (12, [.ref h3, .ref h4, .ref h5, .ref h1, .ref h6, .ref h7, .ref h8, .ref h9, .ref h10, .int 0, .int 0, .int 10, .int 0, .int 0, .int (-9), .int 0, .ref h11, .ref h12, .ref h13, .ref h14, .int 0, .int 0, .int 0, .ref h2, .int 1, .int 1, .int 15, .int (-9), .int 0, .ref h15, .int 0, .int 0, .int 0, .ref h16, .ref h17, .ref h18, .int 0, .int 0])), (h2, .inl (cI, 300, .inl (fun _ => 0)))])) 0 0 (va_A [(h1, .inl (cI, 5, .inl (fun _ => 0))), (h0, .inr (12, [.ref h3, .ref h4, .ref h5, .ref h1, .ref h6, .ref h7, .ref h8, .ref h9, .ref h10, .int 0, .int 0, .int 10, .int 0, .int 0, .int (-9), .int 0, .ref h11, .ref h12, .ref h13, .ref h14, .int 0, .int 0, .int 0, .ref h2, .int 1, .int 1, .int 10, .int (-9), .int 0, .ref h15, .int 0, .int 0, .int 0, .ref h16, .ref h17, .ref h18, .int 0, .int 0])), (h2, .inl (cI, 300, .inl (fun _ => 0)))] sz) := by
  refine Met.ofW (cc := cX12_passes) (maxL := 3) (ret := none) (by decide) rfl ?_
  intro p e s m args below meth c s₁ B hml hv
  obtain ⟨rfl, hsz, hP, hZ, hD0⟩ := hv
  obtain ⟨hK, hAO, hN⟩ := id hZ
  have hx := B.exec
  have hb := B.bytes
  have hr := B.returns
  have hts := atoms_spec (ws := vsX12_passes) B.pre
  have hown : s.vm.findClass RX12 = some m.cls := findClass_of_methodNamed B.named
  have hlocks := B.notSynchronized
  subst hsz
  have hD := hD0.self (sz := s.heap.size)
  generalize hAe : va_A [(h1, .inl (cI, 5, .inl (fun _ => 0))), (h0, .inr (12, [.ref h3, .ref h4, .ref h5, .ref h1, .ref h6, .ref h7, .ref h8, .ref h9, .ref h10, .int 0, .int 0, .int 10, .int 0, .int 0, .int (-9), .int 0, .ref h11, .ref h12, .ref h13, .ref h14, .int 0, .int 0, .int 0, .ref h2, .int 1, .int 1, .int 10, .int (-9), .int 0, .ref h15, .int 0, .int 0, .int 0, .ref h16, .ref h17, .ref h18, .int 0, .int 0])), (h2, .inl (cI, 300, .inl (fun _ => 0)))] s.heap.size = A at hD ⊢
  have hA : ∀ q : Nat, s.heap.size ≤ q → A q := fun q h => by rw [← hAe]; exact Or.inr h
  have hS : va_S A s.heap s.heap [] := va_S.rf
  have hP : va_P (dC, dI) vwCl [(h1, .inl (cI, 5, .inl (fun _ => 0))), (h0, .inr (12, [.ref h3, .ref h4, .ref h5, .ref h1, .ref h6, .ref h7, .ref h8, .ref h9, .ref h10, .int 0, .int 0, .int 10, .int 0, .int 0, .int (-9), .int 0, .ref h11, .ref h12, .ref h13, .ref h14, .int 0, .int 0, .int 0, .ref h2, .int 1, .int 1, .int 10, .int (-9), .int 0, .ref h15, .int 0, .int 0, .int 0, .ref h16, .ref h17, .ref h18, .int 0, .int 0])), (h2, .inl (cI, 300, .inl (fun _ => 0)))] s.heap := hP
  have hl := lv_entry ([.ref h0, .ref h1]) (n := 3) (Nat.le_of_ble_eq_true rfl)
  rw [lg_entry_eq]
  generalize (lg_sl ([.ref h0, .ref h1]) ++ List.replicate (3 - (lg_sl ([.ref h0, .ref h1])).length) Slot.unset).toArray = ls at hl ⊢
  have hl : lv_has ls 3 [(0, .ref h0), (1, .ref h1)] := hl
  refine lv_iconst (v := 0) hx hb dX12_passes_0 (by decide) ?_
  refine lv_istore_n (lv' := [(2, .int 0), (0, .ref h0), (1, .ref h1)]) hx hb dX12_passes_1 rfl hl (by decide) rfl (fun ls hl => ?_)
  have hloop : ∀ (n j : Nat), j + n = 5 → ∀ (H : Heap) (locs : List Loc) (ls : Array Slot), lv_has ls 3 [(2, .int (nI (j + 0))), (0, .ref h0), (1, .ref h1)] → va_P (dC, dI) vwCl [(h1, .inl (cI, 5, .inl (fun _ => 0))), (h0, .inr (12, [.ref h3, .ref h4, .ref h5, .ref h1, .ref h6, .ref h7, .ref h8, .ref h9, .ref h10, .int 0, .int 0, .int 10, .int 0, .int 0, .int (-9), .int 0, .ref h11, .ref h12, .ref h13, .ref h14, .int 0, .int 0, .int 0, .ref h2, .int 1, .int 1, .int (nI (j + 10)), .int (-9), .int 0, .ref h15, .int 0, .int 0, .int 0, .ref h16, .ref h17, .ref h18, .int 0, .int 0])), (h2, .inl (cI, 300, .inl (fun _ => 0)))] H → va_D A [(h1, .inl (cI, 5, .inl (fun _ => 0))), (h0, .inr (12, [.ref h3, .ref h4, .ref h5, .ref h1, .ref h6, .ref h7, .ref h8, .ref h9, .ref h10, .int 0, .int 0, .int 10, .int 0, .int 0, .int (-9), .int 0, .ref h11, .ref h12, .ref h13, .ref h14, .int 0, .int 0, .int 0, .ref h2, .int 1, .int 1, .int (nI (j + 10)), .int (-9), .int 0, .ref h15, .int 0, .int 0, .int 0, .ref h16, .ref h17, .ref h18, .int 0, .int 0])), (h2, .inl (cI, 300, .inl (fun _ => 0)))] → va_S A s.heap H locs → W p l e (headSpec vsX12_passes ({ frames := 0, cells := 0, slots := 0, locals := 0 })).room s m ([.ref h0, .ref h1] : List Value).toArray below meth c H locs 0 0 (MQ below (zQv dC dI A (fun ad => [(h1, .inl (cI, 5, .inl (fun _ => 0))), (h0, .inr (12, [.ref h3, .ref h4, .ref h5, .ref h1, .ref h6, .ref h7, .ref h8, .ref h9, .ref h10, .int 0, .int 0, .int 10, .int 0, .int 0, .int (-9), .int 0, .ref h11, .ref h12, .ref h13, .ref h14, .int 0, .int 0, .int 0, .ref h2, .int 1, .int 1, .int 15, .int (-9), .int 0, .ref h15, .int 0, .int 0, .int 0, .ref h16, .ref h17, .ref h18, .int 0, .int 0])), (h2, .inl (cI, 300, .inl (fun _ => 0)))])) ([.ref h0, .ref h1] : List Value).toArray s 0 0 A) (F0 m 2 ls []) := by
    intro n
    induction n with
    | succ n ih =>
      intro j hj H locs ls hl hP hD hS
      refine lv_iload_n hx hb dX12_passes_2 rfl (lv_at hl 0 rfl) ?_
      refine lv_aload_n hx hb dX12_passes_3 rfl (lv_at hl 2 rfl) ?_
      refine va_alen hx hb hK hP 0 0 rfl rfl (v := 5) (by decide) dX12_passes_4 ?_
      refine lv_icmp_ge (tgt := 58) hx hb dX12_passes_5 (by decide) (fun hc => ?_) (fun hc => ?_)
      · exact absurd ((fa_le _ _).mp hc) (by rw [nI_toInt (show j + 0 < 2 ^ 31 by omega), show (5 : Int32).toInt = 5 from by decide]; omega)
      refine lv_aload_n hx hb dX12_passes_8 rfl (lv_at hl 1 rfl) ?_
      refine va_get (D := (dC, dI)) (ci := 12) (v := .int 1) (C := RX12) (T := TX12) (N := 38) hx hb hts in_X12_passes_X12 hown hK hP 1 rfl rfl 25 (by decide) (hts (.fieldLink RX12 137 "EachOnHisCueModel" "isKeeping" "Z") (by decide +kernel)) (fun _ h9 => h9) rfl dX12_passes_9 ?_
      refine lv_if_eq (tgt := 30) hx hb dX12_passes_12 (by decide) (fun hc => ?_) (fun hc => ?_)
      · exact absurd hc (by decide)
      refine lv_aload_n hx hb dX12_passes_15 rfl (lv_at hl 1 rfl) ?_
      refine va_get (D := (dC, dI)) (ci := 12) (v := .ref h2) (C := RX12) (T := TX12) (N := 38) hx hb hts in_X12_passes_X12 hown hK hP 1 rfl rfl 23 (by decide) (hts (.fieldLink RX12 56 "EachOnHisCueModel" "kept" "[I") (by decide +kernel)) (fun _ h9 => h9) rfl dX12_passes_16 ?_
      refine lv_aload_n hx hb dX12_passes_19 rfl (lv_at hl 1 rfl) ?_
      refine va_get (D := (dC, dI)) (ci := 12) (v := .int (nI (j + 10))) (C := RX12) (T := TX12) (N := 38) hx hb hts in_X12_passes_X12 hown hK hP 1 rfl rfl 26 (by decide) (hts (.fieldLink RX12 141 "EachOnHisCueModel" "cursor" "I") (by decide +kernel)) (fun _ h9 => h9) rfl dX12_passes_20 ?_
      refine lv_aload_n hx hb dX12_passes_23 rfl (lv_at hl 2 rfl) ?_
      refine lv_iload_n hx hb dX12_passes_24 rfl (lv_at hl 0 rfl) ?_
      refine va_iald hx hb hK hP 0 0 rfl rfl (vp_in_nI (show j + 0 < 5 by omega) (by decide)) dX12_passes_25 ?_
      refine lv_topi (fun y1 ey1 => ?_)
      obtain rfl : y1 = 0 := ey1.trans (by first | rfl | decide)
      refine va_iast hx hb hK hP hD hS 2 0 rfl rfl (vp_in_nI (show j + 10 < 300 by omega) (by decide)) dX12_passes_26 (fun H locs hP hD hS => ?_)
      rw [z_upd0] at hP hD
      have hP : va_P (dC, dI) vwCl [(h1, .inl (cI, 5, .inl (fun _ => 0))), (h0, .inr (12, [.ref h3, .ref h4, .ref h5, .ref h1, .ref h6, .ref h7, .ref h8, .ref h9, .ref h10, .int 0, .int 0, .int 10, .int 0, .int 0, .int (-9), .int 0, .ref h11, .ref h12, .ref h13, .ref h14, .int 0, .int 0, .int 0, .ref h2, .int 1, .int 1, .int (nI (j + 10)), .int (-9), .int 0, .ref h15, .int 0, .int 0, .int 0, .ref h16, .ref h17, .ref h18, .int 0, .int 0])), (h2, .inl (cI, 300, .inl (fun _ => 0)))] H := hP
      have hD : va_D A [(h1, .inl (cI, 5, .inl (fun _ => 0))), (h0, .inr (12, [.ref h3, .ref h4, .ref h5, .ref h1, .ref h6, .ref h7, .ref h8, .ref h9, .ref h10, .int 0, .int 0, .int 10, .int 0, .int 0, .int (-9), .int 0, .ref h11, .ref h12, .ref h13, .ref h14, .int 0, .int 0, .int 0, .ref h2, .int 1, .int 1, .int (nI (j + 10)), .int (-9), .int 0, .ref h15, .int 0, .int 0, .int 0, .ref h16, .ref h17, .ref h18, .int 0, .int 0])), (h2, .inl (cI, 300, .inl (fun _ => 0)))] := hD
      refine lv_goto (tgt := 42) hx hb dX12_passes_27 (by decide) ?_
      refine lv_aload_n hx hb dX12_passes_42 rfl (lv_at hl 1 rfl) ?_
      refine lv_dup hx hb dX12_passes_43 rfl ?_
      refine va_get (D := (dC, dI)) (ci := 12) (v := .int (nI (j + 10))) (C := RX12) (T := TX12) (N := 38) hx hb hts in_X12_passes_X12 hown hK hP 1 rfl rfl 26 (by decide) (hts (.fieldLink RX12 141 "EachOnHisCueModel" "cursor" "I") (by decide +kernel)) (fun _ h9 => h9) rfl dX12_passes_44 ?_
      refine lv_iconst (v := 1) hx hb dX12_passes_47 (by decide) ?_
      refine lv_iadd hx hb dX12_passes_48 ?_
      refine lv_topi (fun y2 ey2 => ?_)
      obtain rfl : y2 = (nI (j + 11)) := ey2.trans (nI_1 _)
      refine va_put (D := (dC, dI)) (ci := 12) (v := .int (nI (j + 11))) (ty := .int) (C := RX12) (T := TX12) (N := 38) hx hb hts in_X12_passes_X12 tyX12 tyX12_ok nmX12 hown hK hP hD hS 1 rfl rfl 26 (by decide) (hts (.fieldLink RX12 141 "EachOnHisCueModel" "cursor" "I") (by decide +kernel)) (fun _ h9 => h9) rfl (by decide +kernel) rfl rfl (Nat.le_of_ble_eq_true rfl) dX12_passes_49 (fun H locs hP hD hS => ?_)
      have hP : va_P (dC, dI) vwCl [(h1, .inl (cI, 5, .inl (fun _ => 0))), (h0, .inr (12, [.ref h3, .ref h4, .ref h5, .ref h1, .ref h6, .ref h7, .ref h8, .ref h9, .ref h10, .int 0, .int 0, .int 10, .int 0, .int 0, .int (-9), .int 0, .ref h11, .ref h12, .ref h13, .ref h14, .int 0, .int 0, .int 0, .ref h2, .int 1, .int 1, .int (nI (j + 11)), .int (-9), .int 0, .ref h15, .int 0, .int 0, .int 0, .ref h16, .ref h17, .ref h18, .int 0, .int 0])), (h2, .inl (cI, 300, .inl (fun _ => 0)))] H := hP
      have hD : va_D A [(h1, .inl (cI, 5, .inl (fun _ => 0))), (h0, .inr (12, [.ref h3, .ref h4, .ref h5, .ref h1, .ref h6, .ref h7, .ref h8, .ref h9, .ref h10, .int 0, .int 0, .int 10, .int 0, .int 0, .int (-9), .int 0, .ref h11, .ref h12, .ref h13, .ref h14, .int 0, .int 0, .int 0, .ref h2, .int 1, .int 1, .int (nI (j + 11)), .int (-9), .int 0, .ref h15, .int 0, .int 0, .int 0, .ref h16, .ref h17, .ref h18, .int 0, .int 0])), (h2, .inl (cI, 300, .inl (fun _ => 0)))] := hD
      refine lv_iinc (v := (nI (j + 1))) (lv' := [(2, .int (nI (j + 1))), (0, .ref h0), (1, .ref h1)]) hx hb dX12_passes_52 hl (k := 0) rfl (nI_1 _) (by decide) rfl (fun ls hl => ?_)
      refine lv_goto (tgt := 2) hx hb dX12_passes_55 (by decide) ?_
      exact ih (j + 1) (by omega) _ _ _ (lv_sub hl [0, 1, 2] rfl) hP hD hS
    | zero =>
      intro j hj H locs ls hl hP hD hS
      obtain rfl : j = 5 := by omega
      have hl : lv_has ls 3 [(2, .int 5), (0, .ref h0), (1, .ref h1)] := hl
      have hP : va_P (dC, dI) vwCl [(h1, .inl (cI, 5, .inl (fun _ => 0))), (h0, .inr (12, [.ref h3, .ref h4, .ref h5, .ref h1, .ref h6, .ref h7, .ref h8, .ref h9, .ref h10, .int 0, .int 0, .int 10, .int 0, .int 0, .int (-9), .int 0, .ref h11, .ref h12, .ref h13, .ref h14, .int 0, .int 0, .int 0, .ref h2, .int 1, .int 1, .int 15, .int (-9), .int 0, .ref h15, .int 0, .int 0, .int 0, .ref h16, .ref h17, .ref h18, .int 0, .int 0])), (h2, .inl (cI, 300, .inl (fun _ => 0)))] H := hP
      have hD : va_D A [(h1, .inl (cI, 5, .inl (fun _ => 0))), (h0, .inr (12, [.ref h3, .ref h4, .ref h5, .ref h1, .ref h6, .ref h7, .ref h8, .ref h9, .ref h10, .int 0, .int 0, .int 10, .int 0, .int 0, .int (-9), .int 0, .ref h11, .ref h12, .ref h13, .ref h14, .int 0, .int 0, .int 0, .ref h2, .int 1, .int 1, .int 15, .int (-9), .int 0, .ref h15, .int 0, .int 0, .int 0, .ref h16, .ref h17, .ref h18, .int 0, .int 0])), (h2, .inl (cI, 300, .inl (fun _ => 0)))] := hD
      refine lv_iload_n hx hb dX12_passes_2 rfl (lv_at hl 0 rfl) ?_
      refine lv_aload_n hx hb dX12_passes_3 rfl (lv_at hl 2 rfl) ?_
      refine va_alen hx hb hK hP 0 0 rfl rfl (v := 5) (by decide) dX12_passes_4 ?_
      refine lv_icmp_ge (tgt := 58) hx hb dX12_passes_5 (by decide) (fun hc => ?_) (fun hc => ?_)
      rotate_left; exact absurd hc (by decide)
      have hP9 := hP.sub (ws' := [(h1, .inl (cI, 5, .inl (fun _ => 0))), (h0, .inr (12, [.ref h3, .ref h4, .ref h5, .ref h1, .ref h6, .ref h7, .ref h8, .ref h9, .ref h10, .int 0, .int 0, .int 10, .int 0, .int 0, .int (-9), .int 0, .ref h11, .ref h12, .ref h13, .ref h14, .int 0, .int 0, .int 0, .ref h2, .int 1, .int 1, .int 15, .int (-9), .int 0, .ref h15, .int 0, .int 0, .int 0, .ref h16, .ref h17, .ref h18, .int 0, .int 0])), (h2, .inl (cI, 300, .inl (fun _ => 0)))]) [0, 1, 2] rfl
      have hD9 := hD.sub (ws' := [(h1, .inl (cI, 5, .inl (fun _ => 0))), (h0, .inr (12, [.ref h3, .ref h4, .ref h5, .ref h1, .ref h6, .ref h7, .ref h8, .ref h9, .ref h10, .int 0, .int 0, .int 10, .int 0, .int 0, .int (-9), .int 0, .ref h11, .ref h12, .ref h13, .ref h14, .int 0, .int 0, .int 0, .ref h2, .int 1, .int 1, .int 15, .int (-9), .int 0, .ref h15, .int 0, .int 0, .int 0, .ref h16, .ref h17, .ref h18, .int 0, .int 0])), (h2, .inl (cI, 300, .inl (fun _ => 0)))]) [0, 1, 2] (by decide) rfl
      exact W.vret hx hb hr (fun t ht hW => ⟨⟨(fun k => [].getD k 0), rfl, trivial, by rw [ht]; exact hP9, hD9⟩, hS.F ht⟩) hS.2.2 dX12_passes_58
  exact hloop 5 0 rfl _ _ _ hl hP hD hS
set_option maxHeartbeats 4000000 in
set_option maxRecDepth 100000 in
theorem kX12_passes_3 (l : Launch) (dC : Nat → ClassId) (dI : Nat → Nat → Nat) (cI cQ : ClassId) (h0 h1 h2 h3 h4 h5 h6 h7 h8 h9 h10 h11 h12 h13 h14 h15 h16 h17 h18 : Nat) (sz : Nat) : Met l yX12_passes vsX12_passes ({ frames := 0, cells := 0, slots := 0, locals := 0 }) (va_Pc [.ref h0, .ref h1] (zB dC dI cI cQ [(h1, .inl (cI, 12, .inl (fun _ => 0))), (h0, .inr (12, [.ref h3, .ref h4, .ref h5, .ref h6, .ref h1, .ref h7, .ref h8, .ref h9, .ref h10, .int 0, .int 0, .int 10, .int 0, .int 0, .int (-9), .int 0, .ref h11, .ref h12, .ref h13, .ref h14, .int 0, .int 0, .int 0, .ref h2, .int 1, .int 1, .int 15, .int (-9), .int 0, .ref h15, .int 0, .int 0, .int 0, .ref h16, .ref h17, .ref h18, .int 0, .int 0])), (h2, .inl (cI, 300, .inl (fun _ => 0)))] sz)) (zQv dC dI (va_A [(h1, .inl (cI, 12, .inl (fun _ => 0))), (h0, .inr (12, [.ref h3, .ref h4, .ref h5, .ref h6, .ref h1, .ref h7, .ref h8, .ref h9, .ref h10, .int 0, .int 0, .int 10, .int 0, .int 0, .int (-9), .int 0, .ref h11, .ref h12, .ref h13, .ref h14, .int 0, .int 0, .int 0, .ref h2, .int 1, .int 1, .int 15, .int (-9), .int 0, .ref h15, .int 0, .int 0, .int 0, .ref h16, .ref h17, .ref h18, .int 0, .int 0])), (h2, .inl (cI, 300, .inl (fun _ => 0)))] sz) (fun ad => [(h1, .inl (cI, 12, .inl (fun _ => 0))), (h0, .inr (12, [.ref h3, .ref h4, .ref h5, .ref h6, .ref h1, .ref h7, .ref h8, .ref h9, .ref h10, .int 0, .int 0, .int 10, .int 0, .int 0, .int (-9), .int 0, .ref h11, .ref h12, .ref h13, .ref h14, .int 0, .int 0, .int 0, .ref h2, .int 1, .int 1, .int 27, .int (-9), .int 0, .ref h15, .int 0, .int 0, .int 0, .ref h16, .ref h17, .ref h18, .int 0, .int 0])), (h2, .inl (cI, 300, .inl (fun _ => 0)))])) 0 0 (va_A [(h1, .inl (cI, 12, .inl (fun _ => 0))), (h0, .inr (12, [.ref h3, .ref h4, .ref h5, .ref h6, .ref h1, .ref h7, .ref h8, .ref h9, .ref h10, .int 0, .int 0, .int 10, .int 0, .int 0, .int (-9), .int 0, .ref h11, .ref h12, .ref h13, .ref h14, .int 0, .int 0, .int 0, .ref h2, .int 1, .int 1, .int 15, .int (-9), .int 0, .ref h15, .int 0, .int 0, .int 0, .ref h16, .ref h17, .ref h18, .int 0, .int 0])), (h2, .inl (cI, 300, .inl (fun _ => 0)))] sz) := by
  refine Met.ofW (cc := cX12_passes) (maxL := 3) (ret := none) (by decide) rfl ?_
  intro p e s m args below meth c s₁ B hml hv
  obtain ⟨rfl, hsz, hP, hZ, hD0⟩ := hv
  obtain ⟨hK, hAO, hN⟩ := id hZ
  have hx := B.exec
  have hb := B.bytes
  have hr := B.returns
  have hts := atoms_spec (ws := vsX12_passes) B.pre
  have hown : s.vm.findClass RX12 = some m.cls := findClass_of_methodNamed B.named
  have hlocks := B.notSynchronized
  subst hsz
  have hD := hD0.self (sz := s.heap.size)
  generalize hAe : va_A [(h1, .inl (cI, 12, .inl (fun _ => 0))), (h0, .inr (12, [.ref h3, .ref h4, .ref h5, .ref h6, .ref h1, .ref h7, .ref h8, .ref h9, .ref h10, .int 0, .int 0, .int 10, .int 0, .int 0, .int (-9), .int 0, .ref h11, .ref h12, .ref h13, .ref h14, .int 0, .int 0, .int 0, .ref h2, .int 1, .int 1, .int 15, .int (-9), .int 0, .ref h15, .int 0, .int 0, .int 0, .ref h16, .ref h17, .ref h18, .int 0, .int 0])), (h2, .inl (cI, 300, .inl (fun _ => 0)))] s.heap.size = A at hD ⊢
  have hA : ∀ q : Nat, s.heap.size ≤ q → A q := fun q h => by rw [← hAe]; exact Or.inr h
  have hS : va_S A s.heap s.heap [] := va_S.rf
  have hP : va_P (dC, dI) vwCl [(h1, .inl (cI, 12, .inl (fun _ => 0))), (h0, .inr (12, [.ref h3, .ref h4, .ref h5, .ref h6, .ref h1, .ref h7, .ref h8, .ref h9, .ref h10, .int 0, .int 0, .int 10, .int 0, .int 0, .int (-9), .int 0, .ref h11, .ref h12, .ref h13, .ref h14, .int 0, .int 0, .int 0, .ref h2, .int 1, .int 1, .int 15, .int (-9), .int 0, .ref h15, .int 0, .int 0, .int 0, .ref h16, .ref h17, .ref h18, .int 0, .int 0])), (h2, .inl (cI, 300, .inl (fun _ => 0)))] s.heap := hP
  have hl := lv_entry ([.ref h0, .ref h1]) (n := 3) (Nat.le_of_ble_eq_true rfl)
  rw [lg_entry_eq]
  generalize (lg_sl ([.ref h0, .ref h1]) ++ List.replicate (3 - (lg_sl ([.ref h0, .ref h1])).length) Slot.unset).toArray = ls at hl ⊢
  have hl : lv_has ls 3 [(0, .ref h0), (1, .ref h1)] := hl
  refine lv_iconst (v := 0) hx hb dX12_passes_0 (by decide) ?_
  refine lv_istore_n (lv' := [(2, .int 0), (0, .ref h0), (1, .ref h1)]) hx hb dX12_passes_1 rfl hl (by decide) rfl (fun ls hl => ?_)
  have hloop : ∀ (n j : Nat), j + n = 12 → ∀ (H : Heap) (locs : List Loc) (ls : Array Slot), lv_has ls 3 [(2, .int (nI (j + 0))), (0, .ref h0), (1, .ref h1)] → va_P (dC, dI) vwCl [(h1, .inl (cI, 12, .inl (fun _ => 0))), (h0, .inr (12, [.ref h3, .ref h4, .ref h5, .ref h6, .ref h1, .ref h7, .ref h8, .ref h9, .ref h10, .int 0, .int 0, .int 10, .int 0, .int 0, .int (-9), .int 0, .ref h11, .ref h12, .ref h13, .ref h14, .int 0, .int 0, .int 0, .ref h2, .int 1, .int 1, .int (nI (j + 15)), .int (-9), .int 0, .ref h15, .int 0, .int 0, .int 0, .ref h16, .ref h17, .ref h18, .int 0, .int 0])), (h2, .inl (cI, 300, .inl (fun _ => 0)))] H → va_D A [(h1, .inl (cI, 12, .inl (fun _ => 0))), (h0, .inr (12, [.ref h3, .ref h4, .ref h5, .ref h6, .ref h1, .ref h7, .ref h8, .ref h9, .ref h10, .int 0, .int 0, .int 10, .int 0, .int 0, .int (-9), .int 0, .ref h11, .ref h12, .ref h13, .ref h14, .int 0, .int 0, .int 0, .ref h2, .int 1, .int 1, .int (nI (j + 15)), .int (-9), .int 0, .ref h15, .int 0, .int 0, .int 0, .ref h16, .ref h17, .ref h18, .int 0, .int 0])), (h2, .inl (cI, 300, .inl (fun _ => 0)))] → va_S A s.heap H locs → W p l e (headSpec vsX12_passes ({ frames := 0, cells := 0, slots := 0, locals := 0 })).room s m ([.ref h0, .ref h1] : List Value).toArray below meth c H locs 0 0 (MQ below (zQv dC dI A (fun ad => [(h1, .inl (cI, 12, .inl (fun _ => 0))), (h0, .inr (12, [.ref h3, .ref h4, .ref h5, .ref h6, .ref h1, .ref h7, .ref h8, .ref h9, .ref h10, .int 0, .int 0, .int 10, .int 0, .int 0, .int (-9), .int 0, .ref h11, .ref h12, .ref h13, .ref h14, .int 0, .int 0, .int 0, .ref h2, .int 1, .int 1, .int 27, .int (-9), .int 0, .ref h15, .int 0, .int 0, .int 0, .ref h16, .ref h17, .ref h18, .int 0, .int 0])), (h2, .inl (cI, 300, .inl (fun _ => 0)))])) ([.ref h0, .ref h1] : List Value).toArray s 0 0 A) (F0 m 2 ls []) := by
    intro n
    induction n with
    | succ n ih =>
      intro j hj H locs ls hl hP hD hS
      refine lv_iload_n hx hb dX12_passes_2 rfl (lv_at hl 0 rfl) ?_
      refine lv_aload_n hx hb dX12_passes_3 rfl (lv_at hl 2 rfl) ?_
      refine va_alen hx hb hK hP 0 0 rfl rfl (v := 12) (by decide) dX12_passes_4 ?_
      refine lv_icmp_ge (tgt := 58) hx hb dX12_passes_5 (by decide) (fun hc => ?_) (fun hc => ?_)
      · exact absurd ((fa_le _ _).mp hc) (by rw [nI_toInt (show j + 0 < 2 ^ 31 by omega), show (12 : Int32).toInt = 12 from by decide]; omega)
      refine lv_aload_n hx hb dX12_passes_8 rfl (lv_at hl 1 rfl) ?_
      refine va_get (D := (dC, dI)) (ci := 12) (v := .int 1) (C := RX12) (T := TX12) (N := 38) hx hb hts in_X12_passes_X12 hown hK hP 1 rfl rfl 25 (by decide) (hts (.fieldLink RX12 137 "EachOnHisCueModel" "isKeeping" "Z") (by decide +kernel)) (fun _ h9 => h9) rfl dX12_passes_9 ?_
      refine lv_if_eq (tgt := 30) hx hb dX12_passes_12 (by decide) (fun hc => ?_) (fun hc => ?_)
      · exact absurd hc (by decide)
      refine lv_aload_n hx hb dX12_passes_15 rfl (lv_at hl 1 rfl) ?_
      refine va_get (D := (dC, dI)) (ci := 12) (v := .ref h2) (C := RX12) (T := TX12) (N := 38) hx hb hts in_X12_passes_X12 hown hK hP 1 rfl rfl 23 (by decide) (hts (.fieldLink RX12 56 "EachOnHisCueModel" "kept" "[I") (by decide +kernel)) (fun _ h9 => h9) rfl dX12_passes_16 ?_
      refine lv_aload_n hx hb dX12_passes_19 rfl (lv_at hl 1 rfl) ?_
      refine va_get (D := (dC, dI)) (ci := 12) (v := .int (nI (j + 15))) (C := RX12) (T := TX12) (N := 38) hx hb hts in_X12_passes_X12 hown hK hP 1 rfl rfl 26 (by decide) (hts (.fieldLink RX12 141 "EachOnHisCueModel" "cursor" "I") (by decide +kernel)) (fun _ h9 => h9) rfl dX12_passes_20 ?_
      refine lv_aload_n hx hb dX12_passes_23 rfl (lv_at hl 2 rfl) ?_
      refine lv_iload_n hx hb dX12_passes_24 rfl (lv_at hl 0 rfl) ?_
      refine va_iald hx hb hK hP 0 0 rfl rfl (vp_in_nI (show j + 0 < 12 by omega) (by decide)) dX12_passes_25 ?_
      refine lv_topi (fun y1 ey1 => ?_)
      obtain rfl : y1 = 0 := ey1.trans (by first | rfl | decide)
      refine va_iast hx hb hK hP hD hS 2 0 rfl rfl (vp_in_nI (show j + 15 < 300 by omega) (by decide)) dX12_passes_26 (fun H locs hP hD hS => ?_)
      rw [z_upd0] at hP hD
      have hP : va_P (dC, dI) vwCl [(h1, .inl (cI, 12, .inl (fun _ => 0))), (h0, .inr (12, [.ref h3, .ref h4, .ref h5, .ref h6, .ref h1, .ref h7, .ref h8, .ref h9, .ref h10, .int 0, .int 0, .int 10, .int 0, .int 0, .int (-9), .int 0, .ref h11, .ref h12, .ref h13, .ref h14, .int 0, .int 0, .int 0, .ref h2, .int 1, .int 1, .int (nI (j + 15)), .int (-9), .int 0, .ref h15, .int 0, .int 0, .int 0, .ref h16, .ref h17, .ref h18, .int 0, .int 0])), (h2, .inl (cI, 300, .inl (fun _ => 0)))] H := hP
      have hD : va_D A [(h1, .inl (cI, 12, .inl (fun _ => 0))), (h0, .inr (12, [.ref h3, .ref h4, .ref h5, .ref h6, .ref h1, .ref h7, .ref h8, .ref h9, .ref h10, .int 0, .int 0, .int 10, .int 0, .int 0, .int (-9), .int 0, .ref h11, .ref h12, .ref h13, .ref h14, .int 0, .int 0, .int 0, .ref h2, .int 1, .int 1, .int (nI (j + 15)), .int (-9), .int 0, .ref h15, .int 0, .int 0, .int 0, .ref h16, .ref h17, .ref h18, .int 0, .int 0])), (h2, .inl (cI, 300, .inl (fun _ => 0)))] := hD
      refine lv_goto (tgt := 42) hx hb dX12_passes_27 (by decide) ?_
      refine lv_aload_n hx hb dX12_passes_42 rfl (lv_at hl 1 rfl) ?_
      refine lv_dup hx hb dX12_passes_43 rfl ?_
      refine va_get (D := (dC, dI)) (ci := 12) (v := .int (nI (j + 15))) (C := RX12) (T := TX12) (N := 38) hx hb hts in_X12_passes_X12 hown hK hP 1 rfl rfl 26 (by decide) (hts (.fieldLink RX12 141 "EachOnHisCueModel" "cursor" "I") (by decide +kernel)) (fun _ h9 => h9) rfl dX12_passes_44 ?_
      refine lv_iconst (v := 1) hx hb dX12_passes_47 (by decide) ?_
      refine lv_iadd hx hb dX12_passes_48 ?_
      refine lv_topi (fun y2 ey2 => ?_)
      obtain rfl : y2 = (nI (j + 16)) := ey2.trans (nI_1 _)
      refine va_put (D := (dC, dI)) (ci := 12) (v := .int (nI (j + 16))) (ty := .int) (C := RX12) (T := TX12) (N := 38) hx hb hts in_X12_passes_X12 tyX12 tyX12_ok nmX12 hown hK hP hD hS 1 rfl rfl 26 (by decide) (hts (.fieldLink RX12 141 "EachOnHisCueModel" "cursor" "I") (by decide +kernel)) (fun _ h9 => h9) rfl (by decide +kernel) rfl rfl (Nat.le_of_ble_eq_true rfl) dX12_passes_49 (fun H locs hP hD hS => ?_)
      have hP : va_P (dC, dI) vwCl [(h1, .inl (cI, 12, .inl (fun _ => 0))), (h0, .inr (12, [.ref h3, .ref h4, .ref h5, .ref h6, .ref h1, .ref h7, .ref h8, .ref h9, .ref h10, .int 0, .int 0, .int 10, .int 0, .int 0, .int (-9), .int 0, .ref h11, .ref h12, .ref h13, .ref h14, .int 0, .int 0, .int 0, .ref h2, .int 1, .int 1, .int (nI (j + 16)), .int (-9), .int 0, .ref h15, .int 0, .int 0, .int 0, .ref h16, .ref h17, .ref h18, .int 0, .int 0])), (h2, .inl (cI, 300, .inl (fun _ => 0)))] H := hP
      have hD : va_D A [(h1, .inl (cI, 12, .inl (fun _ => 0))), (h0, .inr (12, [.ref h3, .ref h4, .ref h5, .ref h6, .ref h1, .ref h7, .ref h8, .ref h9, .ref h10, .int 0, .int 0, .int 10, .int 0, .int 0, .int (-9), .int 0, .ref h11, .ref h12, .ref h13, .ref h14, .int 0, .int 0, .int 0, .ref h2, .int 1, .int 1, .int (nI (j + 16)), .int (-9), .int 0, .ref h15, .int 0, .int 0, .int 0, .ref h16, .ref h17, .ref h18, .int 0, .int 0])), (h2, .inl (cI, 300, .inl (fun _ => 0)))] := hD
      refine lv_iinc (v := (nI (j + 1))) (lv' := [(2, .int (nI (j + 1))), (0, .ref h0), (1, .ref h1)]) hx hb dX12_passes_52 hl (k := 0) rfl (nI_1 _) (by decide) rfl (fun ls hl => ?_)
      refine lv_goto (tgt := 2) hx hb dX12_passes_55 (by decide) ?_
      exact ih (j + 1) (by omega) _ _ _ (lv_sub hl [0, 1, 2] rfl) hP hD hS
    | zero =>
      intro j hj H locs ls hl hP hD hS
      obtain rfl : j = 12 := by omega
      have hl : lv_has ls 3 [(2, .int 12), (0, .ref h0), (1, .ref h1)] := hl
      have hP : va_P (dC, dI) vwCl [(h1, .inl (cI, 12, .inl (fun _ => 0))), (h0, .inr (12, [.ref h3, .ref h4, .ref h5, .ref h6, .ref h1, .ref h7, .ref h8, .ref h9, .ref h10, .int 0, .int 0, .int 10, .int 0, .int 0, .int (-9), .int 0, .ref h11, .ref h12, .ref h13, .ref h14, .int 0, .int 0, .int 0, .ref h2, .int 1, .int 1, .int 27, .int (-9), .int 0, .ref h15, .int 0, .int 0, .int 0, .ref h16, .ref h17, .ref h18, .int 0, .int 0])), (h2, .inl (cI, 300, .inl (fun _ => 0)))] H := hP
      have hD : va_D A [(h1, .inl (cI, 12, .inl (fun _ => 0))), (h0, .inr (12, [.ref h3, .ref h4, .ref h5, .ref h6, .ref h1, .ref h7, .ref h8, .ref h9, .ref h10, .int 0, .int 0, .int 10, .int 0, .int 0, .int (-9), .int 0, .ref h11, .ref h12, .ref h13, .ref h14, .int 0, .int 0, .int 0, .ref h2, .int 1, .int 1, .int 27, .int (-9), .int 0, .ref h15, .int 0, .int 0, .int 0, .ref h16, .ref h17, .ref h18, .int 0, .int 0])), (h2, .inl (cI, 300, .inl (fun _ => 0)))] := hD
      refine lv_iload_n hx hb dX12_passes_2 rfl (lv_at hl 0 rfl) ?_
      refine lv_aload_n hx hb dX12_passes_3 rfl (lv_at hl 2 rfl) ?_
      refine va_alen hx hb hK hP 0 0 rfl rfl (v := 12) (by decide) dX12_passes_4 ?_
      refine lv_icmp_ge (tgt := 58) hx hb dX12_passes_5 (by decide) (fun hc => ?_) (fun hc => ?_)
      rotate_left; exact absurd hc (by decide)
      have hP9 := hP.sub (ws' := [(h1, .inl (cI, 12, .inl (fun _ => 0))), (h0, .inr (12, [.ref h3, .ref h4, .ref h5, .ref h6, .ref h1, .ref h7, .ref h8, .ref h9, .ref h10, .int 0, .int 0, .int 10, .int 0, .int 0, .int (-9), .int 0, .ref h11, .ref h12, .ref h13, .ref h14, .int 0, .int 0, .int 0, .ref h2, .int 1, .int 1, .int 27, .int (-9), .int 0, .ref h15, .int 0, .int 0, .int 0, .ref h16, .ref h17, .ref h18, .int 0, .int 0])), (h2, .inl (cI, 300, .inl (fun _ => 0)))]) [0, 1, 2] rfl
      have hD9 := hD.sub (ws' := [(h1, .inl (cI, 12, .inl (fun _ => 0))), (h0, .inr (12, [.ref h3, .ref h4, .ref h5, .ref h6, .ref h1, .ref h7, .ref h8, .ref h9, .ref h10, .int 0, .int 0, .int 10, .int 0, .int 0, .int (-9), .int 0, .ref h11, .ref h12, .ref h13, .ref h14, .int 0, .int 0, .int 0, .ref h2, .int 1, .int 1, .int 27, .int (-9), .int 0, .ref h15, .int 0, .int 0, .int 0, .ref h16, .ref h17, .ref h18, .int 0, .int 0])), (h2, .inl (cI, 300, .inl (fun _ => 0)))]) [0, 1, 2] (by decide) rfl
      exact W.vret hx hb hr (fun t ht hW => ⟨⟨(fun k => [].getD k 0), rfl, trivial, by rw [ht]; exact hP9, hD9⟩, hS.F ht⟩) hS.2.2 dX12_passes_58
  exact hloop 12 0 rfl _ _ _ hl hP hD hS
