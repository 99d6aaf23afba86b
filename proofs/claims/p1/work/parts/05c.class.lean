set_option maxHeartbeats 4000000 in
set_option maxRecDepth 100000 in
theorem kX11_refuse_4 (l : Launch) (dC : Nat → ClassId) (dI : Nat → Nat → Nat) (cI cQ : ClassId) (h0 h1 h2 h3 h4 h5 h6 h7 : Nat) (sz : Nat) : Met l yX11_refuse vsX11_refuse ({ frames := 0, cells := 0, slots := 0, locals := 0 }) (va_Pc [.ref h0, .int (-2)] (zB dC dI cI cQ [(h0, .inr (11, [.ref h2, .ref h3, .int 0, .ref h4, .ref h5, .ref h6, .ref h7, .int 0, .ref h1])), (h1, .inl (cI, 7, .inl (fun _ => 0)))] sz)) (zQi dC dI (va_A [(h0, .inr (11, [.ref h2, .ref h3, .int 0, .ref h4, .ref h5, .ref h6, .ref h7, .int 0, .ref h1])), (h1, .inl (cI, 7, .inl (fun _ => 0)))] sz) (fun ad => [(h0, .inr (11, [.ref h2, .ref h3, .int 0, .ref h4, .ref h5, .ref h6, .ref h7, .int 0, .ref h1])), (h1, .inl (cI, 7, .inl (upd (fun _ => 0) 2 1)))]) (-2)) 0 0 (va_A [(h0, .inr (11, [.ref h2, .ref h3, .int 0, .ref h4, .ref h5, .ref h6, .ref h7, .int 0, .ref h1])), (h1, .inl (cI, 7, .inl (fun _ => 0)))] sz) := by
  refine Met.ofW (cc := cX11_refuse) (maxL := 3) (ret := (some .int)) (by decide) rfl ?_
  intro p e s m args below meth c s₁ B hml hv
  obtain ⟨rfl, hsz, hP, hZ, hD0⟩ := hv
  obtain ⟨hK, hAO, hN⟩ := id hZ
  have hx := B.exec
  have hb := B.bytes
  have hr := B.returns
  have hts := atoms_spec (ws := vsX11_refuse) B.pre
  have hown : s.vm.findClass RX11 = some m.cls := findClass_of_methodNamed B.named
  have hlocks := B.notSynchronized
  subst hsz
  have hD := hD0.self (sz := s.heap.size)
  generalize hAe : va_A [(h0, .inr (11, [.ref h2, .ref h3, .int 0, .ref h4, .ref h5, .ref h6, .ref h7, .int 0, .ref h1])), (h1, .inl (cI, 7, .inl (fun _ => 0)))] s.heap.size = A at hD ⊢
  have hA : ∀ q : Nat, s.heap.size ≤ q → A q := fun q h => by rw [← hAe]; exact Or.inr h
  have hS : va_S A s.heap s.heap [] := va_S.rf
  have hP : va_P (dC, dI) vwCl [(h0, .inr (11, [.ref h2, .ref h3, .int 0, .ref h4, .ref h5, .ref h6, .ref h7, .int 0, .ref h1])), (h1, .inl (cI, 7, .inl (fun _ => 0)))] s.heap := hP
  have hl := lv_entry ([.ref h0, .int (-2)]) (n := 3) (Nat.le_of_ble_eq_true rfl)
  rw [lg_entry_eq]
  generalize (lg_sl ([.ref h0, .int (-2)]) ++ List.replicate (3 - (lg_sl ([.ref h0, .int (-2)])).length) Slot.unset).toArray = ls at hl ⊢
  have hl : lv_has ls 3 [(0, .ref h0), (1, .int (-2))] := hl
  refine lv_iload_n hx hb dX11_refuse_0 rfl (lv_at hl 1 rfl) ?_
  refine lv_ineg hx hb dX11_refuse_1 ?_
  refine lv_topi (fun y1 ey1 => ?_)
  obtain rfl : y1 = 2 := ey1.trans (by decide)
  refine lv_istore_n (lv' := [(2, .int 2), (0, .ref h0), (1, .int (-2))]) hx hb dX11_refuse_2 rfl hl (by decide) rfl (fun ls hl => ?_)
  refine lv_iload_n hx hb dX11_refuse_3 rfl (lv_at hl 0 rfl) ?_
  refine lv_iconst (v := 1) hx hb dX11_refuse_4 (by decide) ?_
  refine lv_icmp_lt (tgt := 24) hx hb dX11_refuse_5 (by decide) (fun hc => ?_) (fun hc => ?_)
  · exact absurd hc (by decide)
  refine lv_iload_n hx hb dX11_refuse_8 rfl (lv_at hl 0 rfl) ?_
  refine lv_bipush (v := 6) hx hb dX11_refuse_9 (by decide) ?_
  refine lv_icmp_gt (tgt := 24) hx hb dX11_refuse_11 (by decide) (fun hc => ?_) (fun hc => ?_)
  · exact absurd hc (by decide)
  refine lv_aload_n hx hb dX11_refuse_14 rfl (lv_at hl 1 rfl) ?_
  refine va_get (D := (dC, dI)) (ci := 11) (v := .ref h1) (C := RX11) (T := TX11) (N := 9) hx hb hts in_X11_refuse_X11 hown hK hP 0 rfl rfl 8 (by decide) (hts (.fieldLink RX11 50 "EachOnHisCue" "refusals" "[I") (by decide +kernel)) (fun _ h9 => h9) rfl dX11_refuse_15 ?_
  refine lv_iload_n hx hb dX11_refuse_18 rfl (lv_at hl 0 rfl) ?_
  refine lv_dup2_11 hx hb dX11_refuse_19 rfl rfl ?_
  refine va_iald hx hb hK hP 1 0 rfl rfl (by unfold vp_in; decide) dX11_refuse_20 ?_
  refine lv_topi (fun y2 ey2 => ?_)
  obtain rfl : y2 = 0 := ey2.trans (by first | rfl | decide)
  refine lv_iconst (v := 1) hx hb dX11_refuse_21 (by decide) ?_
  refine lv_iadd hx hb dX11_refuse_22 ?_
  refine lv_topi (fun y3 ey3 => ?_)
  obtain rfl : y3 = 1 := ey3.trans (by decide)
  refine va_iast hx hb hK hP hD hS 1 0 rfl rfl (by unfold vp_in; decide) dX11_refuse_23 (fun H locs hP hD hS => ?_)
  have hP : va_P (dC, dI) vwCl [(h0, .inr (11, [.ref h2, .ref h3, .int 0, .ref h4, .ref h5, .ref h6, .ref h7, .int 0, .ref h1])), (h1, .inl (cI, 7, .inl (upd (fun _ => 0) 2 1)))] H := hP
  have hD : va_D A [(h0, .inr (11, [.ref h2, .ref h3, .int 0, .ref h4, .ref h5, .ref h6, .ref h7, .int 0, .ref h1])), (h1, .inl (cI, 7, .inl (upd (fun _ => 0) 2 1)))] := hD
  refine lv_iload_n hx hb dX11_refuse_24 rfl (lv_at hl 2 rfl) ?_
  have hP9 := hP.sub (ws' := [(h0, .inr (11, [.ref h2, .ref h3, .int 0, .ref h4, .ref h5, .ref h6, .ref h7, .int 0, .ref h1])), (h1, .inl (cI, 7, .inl (upd (fun _ => 0) 2 1)))]) [0, 1] rfl
  have hD9 := hD.sub (ws' := [(h0, .inr (11, [.ref h2, .ref h3, .int 0, .ref h4, .ref h5, .ref h6, .ref h7, .int 0, .ref h1])), (h1, .inl (cI, 7, .inl (upd (fun _ => 0) 2 1)))]) [0, 1] (by decide) rfl
  exact W.iret (v := (-2)) hx hb hr (fun t ht hW => ⟨⟨(-2), (fun k => [].getD k 0), rfl, rfl, by rw [ht]; exact hP9, hD9⟩, hS.F ht⟩) hS.2.2 dX11_refuse_25
set_option maxHeartbeats 4000000 in
set_option maxRecDepth 100000 in
theorem kX11_goes (l : Launch) (dC : Nat → ClassId) (dI : Nat → Nat → Nat) (cI cQ : ClassId) (h0 h1 h2 h3 h4 h5 h6 h7 : Nat) (p0 : Int32) (hp0l : -2147483648 ≤ p0.toInt) (hp0h : p0.toInt ≤ -1) (sz : Nat) : Met l yX11_goes vsX11_goes ({ frames := 1, cells := 0, slots := 0, locals := 22 }) (va_Pc [.ref h0, .int p0] (zB dC dI cI cQ [(h0, .inr (11, [.ref h2, .ref h3, .int 0, .ref h4, .ref h5, .ref h6, .ref h7, .int 0, .ref h1])), (h1, .inl (cI, 7, .inl (fun _ => 0)))] sz)) (zQi dC dI (va_A [(h0, .inr (11, [.ref h2, .ref h3, .int 0, .ref h4, .ref h5, .ref h6, .ref h7, .int 0, .ref h1])), (h1, .inl (cI, 7, .inl (fun _ => 0)))] sz) (fun ad => []) (-2)) 0 0 (va_A [(h0, .inr (11, [.ref h2, .ref h3, .int 0, .ref h4, .ref h5, .ref h6, .ref h7, .int 0, .ref h1])), (h1, .inl (cI, 7, .inl (fun _ => 0)))] sz) := by
  refine Met.ofW (cc := cX11_goes) (maxL := 3) (ret := (some .int)) (by decide) rfl ?_
  intro p e s m args below meth c s₁ B hml hv
  obtain ⟨rfl, hsz, hP, hZ, hD0⟩ := hv
  obtain ⟨hK, hAO, hN⟩ := id hZ
  have hx := B.exec
  have hb := B.bytes
  have hr := B.returns
  have hts := atoms_spec (ws := vsX11_goes) B.pre
  have hown : s.vm.findClass RX11 = some m.cls := findClass_of_methodNamed B.named
  have hlocks := B.notSynchronized
  subst hsz
  have hD := hD0.self (sz := s.heap.size)
  generalize hAe : va_A [(h0, .inr (11, [.ref h2, .ref h3, .int 0, .ref h4, .ref h5, .ref h6, .ref h7, .int 0, .ref h1])), (h1, .inl (cI, 7, .inl (fun _ => 0)))] s.heap.size = A at hD ⊢
  have hA : ∀ q : Nat, s.heap.size ≤ q → A q := fun q h => by rw [← hAe]; exact Or.inr h
  have hS : va_S A s.heap s.heap [] := va_S.rf
  have hP : va_P (dC, dI) vwCl [(h0, .inr (11, [.ref h2, .ref h3, .int 0, .ref h4, .ref h5, .ref h6, .ref h7, .int 0, .ref h1])), (h1, .inl (cI, 7, .inl (fun _ => 0)))] s.heap := hP
  have hl := lv_entry ([.ref h0, .int p0]) (n := 3) (Nat.le_of_ble_eq_true rfl)
  rw [lg_entry_eq]
  generalize (lg_sl ([.ref h0, .int p0]) ++ List.replicate (3 - (lg_sl ([.ref h0, .int p0])).length) Slot.unset).toArray = ls at hl ⊢
  have hl : lv_has ls 3 [(0, .ref h0), (1, .int p0)] := hl
  refine lv_iload_n hx hb dX11_goes_0 rfl (lv_at hl 1 rfl) ?_
  refine lv_if_lt (tgt := 9) hx hb dX11_goes_1 (by decide) (fun hc => ?_) (fun hc => ?_)
  rotate_left; exact absurd ((fa_lt _ _).mpr (by rw [show (0 : Int32).toInt = 0 from by decide]; omega)) hc
  refine lv_aload_n hx hb dX11_goes_9 rfl (lv_at hl 0 rfl) ?_
  refine lv_bipush (v := (-2)) hx hb dX11_goes_10 (by decide) ?_
  refine z_calli (wc := [(h0, .inr (11, [.ref h2, .ref h3, .int 0, .ref h4, .ref h5, .ref h6, .ref h7, .int 0, .ref h1])), (h1, .inl (cI, 7, .inl (fun _ => 0)))]) (wr := []) (w1 := (fun _ => [(h0, .inr (11, [.ref h2, .ref h3, .int 0, .ref h4, .ref h5, .ref h6, .ref h7, .int 0, .ref h1])), (h1, .inl (cI, 7, .inl (upd (fun _ => 0) 2 1)))])) (va_runV (As := [.int (-2)]) (rest := []) ⟨hx, hb, hml, hown, hts⟩ (kX11_refuse_4 l dC dI cI cQ h0 h1 h2 h3 h4 h5 h6 h7 s.heap.size) (cwV 1 hts gv_X11_goes_X11_refuse_53 rfl rfl rfl (by decide +kernel) ⟨Nat.le_of_ble_eq_true rfl, Nat.le_of_ble_eq_true rfl⟩) ⟨z_blind, va_recv hK hP (ci := 11) (q0 := 0) rfl rfl, z_pre hZ hP hD [0, 1] rfl (by decide)⟩ rfl rfl hl.1 rfl (lv_room (Nat.le_of_ble_eq_true rfl)) dX11_goes_12 ⟨Nat.le_of_ble_eq_true rfl, Nat.le_of_ble_eq_true rfl⟩) hP hD hS hA [0, 1] [] rfl rfl (by decide) (by decide) (fun _ H locs hP hD hS => ?_)
  have hP : va_P (dC, dI) vwCl [(h0, .inr (11, [.ref h2, .ref h3, .int 0, .ref h4, .ref h5, .ref h6, .ref h7, .int 0, .ref h1])), (h1, .inl (cI, 7, .inl (upd (fun _ => 0) 2 1)))] H := hP
  have hD : va_D A [(h0, .inr (11, [.ref h2, .ref h3, .int 0, .ref h4, .ref h5, .ref h6, .ref h7, .int 0, .ref h1])), (h1, .inl (cI, 7, .inl (upd (fun _ => 0) 2 1)))] := hD
  have hP9 := hP.sub (ws' := []) [] rfl
  have hD9 := hD.sub (ws' := []) [] (by decide) rfl
  exact W.iret (v := (-2)) hx hb hr (fun t ht hW => ⟨⟨(-2), (fun k => [].getD k 0), rfl, rfl, by rw [ht]; exact hP9, hD9⟩, hS.F ht⟩) hS.2.2 dX11_goes_15
set_option maxHeartbeats 4000000 in
set_option maxRecDepth 100000 in
theorem kX11_goes_1 (l : Launch) (dC : Nat → ClassId) (dI : Nat → Nat → Nat) (cI cQ : ClassId) (h0 h1 h2 h3 h4 h5 h6 h7 h8 h9 h10 h11 h12 h13 h14 h15 : Nat) (p0 : Int32) (hp0l : 0 ≤ p0.toInt) (hp0h : p0.toInt ≤ 3) (sz : Nat) : Met l yX11_goes vsX11_goes ({ frames := 1, cells := 0, slots := 0, locals := 22 }) (va_Pc [.ref h0, .int p0] (zB dC dI cI cQ [(h0, .inr (11, [.ref h1, .ref h3, .int 0, .ref h4, .ref h5, .ref h6, .ref h7, .int 0, .ref h2])), (h1, .inr (7, [.ref h8, .ref h9, .ref h10, .int 0, .ref h11, .ref h12, .ref h13, .ref h14, .int 0, .int 0, .int 10, .ref h15])), (h2, .inl (cI, 7, .inl (fun _ => 0)))] sz)) (zQi dC dI (va_A [(h0, .inr (11, [.ref h1, .ref h3, .int 0, .ref h4, .ref h5, .ref h6, .ref h7, .int 0, .ref h2])), (h1, .inr (7, [.ref h8, .ref h9, .ref h10, .int 0, .ref h11, .ref h12, .ref h13, .ref h14, .int 0, .int 0, .int 10, .ref h15])), (h2, .inl (cI, 7, .inl (fun _ => 0)))] sz) (fun ad => []) (-3)) 0 0 (va_A [(h0, .inr (11, [.ref h1, .ref h3, .int 0, .ref h4, .ref h5, .ref h6, .ref h7, .int 0, .ref h2])), (h1, .inr (7, [.ref h8, .ref h9, .ref h10, .int 0, .ref h11, .ref h12, .ref h13, .ref h14, .int 0, .int 0, .int 10, .ref h15])), (h2, .inl (cI, 7, .inl (fun _ => 0)))] sz) := by
  refine Met.ofW (cc := cX11_goes) (maxL := 3) (ret := (some .int)) (by decide) rfl ?_
  intro p e s m args below meth c s₁ B hml hv
  obtain ⟨rfl, hsz, hP, hZ, hD0⟩ := hv
  obtain ⟨hK, hAO, hN⟩ := id hZ
  have hx := B.exec
  have hb := B.bytes
  have hr := B.returns
  have hts := atoms_spec (ws := vsX11_goes) B.pre
  have hown : s.vm.findClass RX11 = some m.cls := findClass_of_methodNamed B.named
  have hlocks := B.notSynchronized
  subst hsz
  have hD := hD0.self (sz := s.heap.size)
  generalize hAe : va_A [(h0, .inr (11, [.ref h1, .ref h3, .int 0, .ref h4, .ref h5, .ref h6, .ref h7, .int 0, .ref h2])), (h1, .inr (7, [.ref h8, .ref h9, .ref h10, .int 0, .ref h11, .ref h12, .ref h13, .ref h14, .int 0, .int 0, .int 10, .ref h15])), (h2, .inl (cI, 7, .inl (fun _ => 0)))] s.heap.size = A at hD ⊢
  have hA : ∀ q : Nat, s.heap.size ≤ q → A q := fun q h => by rw [← hAe]; exact Or.inr h
  have hS : va_S A s.heap s.heap [] := va_S.rf
  have hP : va_P (dC, dI) vwCl [(h0, .inr (11, [.ref h1, .ref h3, .int 0, .ref h4, .ref h5, .ref h6, .ref h7, .int 0, .ref h2])), (h1, .inr (7, [.ref h8, .ref h9, .ref h10, .int 0, .ref h11, .ref h12, .ref h13, .ref h14, .int 0, .int 0, .int 10, .ref h15])), (h2, .inl (cI, 7, .inl (fun _ => 0)))] s.heap := hP
  have hl := lv_entry ([.ref h0, .int p0]) (n := 3) (Nat.le_of_ble_eq_true rfl)
  rw [lg_entry_eq]
  generalize (lg_sl ([.ref h0, .int p0]) ++ List.replicate (3 - (lg_sl ([.ref h0, .int p0])).length) Slot.unset).toArray = ls at hl ⊢
  have hl : lv_has ls 3 [(0, .ref h0), (1, .int p0)] := hl
  refine lv_iload_n hx hb dX11_goes_0 rfl (lv_at hl 1 rfl) ?_
  refine lv_if_lt (tgt := 9) hx hb dX11_goes_1 (by decide) (fun hc => ?_) (fun hc => ?_)
  · exact absurd ((fa_lt _ _).mp hc) (by rw [show (0 : Int32).toInt = 0 from by decide]; omega)
  refine lv_iload_n hx hb dX11_goes_4 rfl (lv_at hl 1 rfl) ?_
  refine lv_iconst (v := 3) hx hb dX11_goes_5 (by decide) ?_
  refine lv_icmp_le (tgt := 16) hx hb dX11_goes_6 (by decide) (fun hc => ?_) (fun hc => ?_)
  rotate_left; exact absurd ((fa_le _ _).mpr (by rw [show (3 : Int32).toInt = 3 from by decide]; omega)) hc
  refine lv_aload_n hx hb dX11_goes_16 rfl (lv_at hl 0 rfl) ?_
  refine va_get (D := (dC, dI)) (ci := 11) (v := .ref h1) (C := RX11) (T := TX11) (N := 9) hx hb hts in_X11_goes_X11 hown hK hP 0 rfl rfl 0 (by decide) (hts (.fieldLink RX11 10 "EachOnHisCue" "play" "LEachOnHisCue$Play;") (by decide +kernel)) (fun _ h9 => h9) rfl dX11_goes_17 ?_
  refine va_get (D := (dC, dI)) (ci := 7) (v := .int 0) (C := RX7) (T := TX7) (N := 12) hx hb hts in_X11_goes_X7 hown hK hP 1 rfl rfl 9 (by decide) (hts (.fieldLink RX11 137 "EachOnHisCue$Play" "lines" "I") (by decide +kernel)) (fun _ h9 => h9) rfl dX11_goes_20 ?_
  refine lv_if_ne (tgt := 33) hx hb dX11_goes_23 (by decide) (fun hc => ?_) (fun hc => ?_)
  · exact absurd hc (by decide)
  refine lv_aload_n hx hb dX11_goes_26 rfl (lv_at hl 0 rfl) ?_
  refine lv_bipush (v := (-3)) hx hb dX11_goes_27 (by decide) ?_
  refine z_calli (wc := [(h0, .inr (11, [.ref h1, .ref h3, .int 0, .ref h4, .ref h5, .ref h6, .ref h7, .int 0, .ref h2])), (h2, .inl (cI, 7, .inl (fun _ => 0)))]) (wr := [(h1, .inr (7, [.ref h8, .ref h9, .ref h10, .int 0, .ref h11, .ref h12, .ref h13, .ref h14, .int 0, .int 0, .int 10, .ref h15]))]) (w1 := (fun _ => [(h0, .inr (11, [.ref h1, .ref h3, .int 0, .ref h4, .ref h5, .ref h6, .ref h7, .int 0, .ref h2])), (h2, .inl (cI, 7, .inl (upd (fun _ => 0) 3 1)))])) (va_runV (As := [.int (-3)]) (rest := []) ⟨hx, hb, hml, hown, hts⟩ (kX11_refuse_3 l dC dI cI cQ h0 h2 h1 h3 h4 h5 h6 h7 s.heap.size) (cwV 1 hts gv_X11_goes_X11_refuse_53 rfl rfl rfl (by decide +kernel) ⟨Nat.le_of_ble_eq_true rfl, Nat.le_of_ble_eq_true rfl⟩) ⟨z_blind, va_recv hK hP (ci := 11) (q0 := 0) rfl rfl, z_pre hZ hP hD [0, 2] rfl (by decide)⟩ rfl rfl hl.1 rfl (lv_room (Nat.le_of_ble_eq_true rfl)) dX11_goes_29 ⟨Nat.le_of_ble_eq_true rfl, Nat.le_of_ble_eq_true rfl⟩) hP hD hS hA [0, 2] [1] rfl rfl (by decide) (by decide) (fun _ H locs hP hD hS => ?_)
  have hP : va_P (dC, dI) vwCl [(h1, .inr (7, [.ref h8, .ref h9, .ref h10, .int 0, .ref h11, .ref h12, .ref h13, .ref h14, .int 0, .int 0, .int 10, .ref h15])), (h0, .inr (11, [.ref h1, .ref h3, .int 0, .ref h4, .ref h5, .ref h6, .ref h7, .int 0, .ref h2])), (h2, .inl (cI, 7, .inl (upd (fun _ => 0) 3 1)))] H := hP
  have hD : va_D A [(h1, .inr (7, [.ref h8, .ref h9, .ref h10, .int 0, .ref h11, .ref h12, .ref h13, .ref h14, .int 0, .int 0, .int 10, .ref h15])), (h0, .inr (11, [.ref h1, .ref h3, .int 0, .ref h4, .ref h5, .ref h6, .ref h7, .int 0, .ref h2])), (h2, .inl (cI, 7, .inl (upd (fun _ => 0) 3 1)))] := hD
  have hP9 := hP.sub (ws' := []) [] rfl
  have hD9 := hD.sub (ws' := []) [] (by decide) rfl
  exact W.iret (v := (-3)) hx hb hr (fun t ht hW => ⟨⟨(-3), (fun k => [].getD k 0), rfl, rfl, by rw [ht]; exact hP9, hD9⟩, hS.F ht⟩) hS.2.2 dX11_goes_32
set_option maxHeartbeats 4000000 in
set_option maxRecDepth 100000 in
theorem kX11_goes_2 (l : Launch) (dC : Nat → ClassId) (dI : Nat → Nat → Nat) (cI cQ : ClassId) (h0 h1 h2 h3 h4 h5 h6 h7 : Nat) (p0 : Int32) (hp0l : 4 ≤ p0.toInt) (hp0h : p0.toInt ≤ 2147483647) (sz : Nat) : Met l yX11_goes vsX11_goes ({ frames := 1, cells := 0, slots := 0, locals := 22 }) (va_Pc [.ref h0, .int p0] (zB dC dI cI cQ [(h0, .inr (11, [.ref h2, .ref h3, .int 0, .ref h4, .ref h5, .ref h6, .ref h7, .int 0, .ref h1])), (h1, .inl (cI, 7, .inl (fun _ => 0)))] sz)) (zQi dC dI (va_A [(h0, .inr (11, [.ref h2, .ref h3, .int 0, .ref h4, .ref h5, .ref h6, .ref h7, .int 0, .ref h1])), (h1, .inl (cI, 7, .inl (fun _ => 0)))] sz) (fun ad => []) (-2)) 0 0 (va_A [(h0, .inr (11, [.ref h2, .ref h3, .int 0, .ref h4, .ref h5, .ref h6, .ref h7, .int 0, .ref h1])), (h1, .inl (cI, 7, .inl (fun _ => 0)))] sz) := by
  refine Met.ofW (cc := cX11_goes) (maxL := 3) (ret := (some .int)) (by decide) rfl ?_
  intro p e s m args below meth c s₁ B hml hv
  obtain ⟨rfl, hsz, hP, hZ, hD0⟩ := hv
  obtain ⟨hK, hAO, hN⟩ := id hZ
  have hx := B.exec
  have hb := B.bytes
  have hr := B.returns
  have hts := atoms_spec (ws := vsX11_goes) B.pre
  have hown : s.vm.findClass RX11 = some m.cls := findClass_of_methodNamed B.named
  have hlocks := B.notSynchronized
  subst hsz
  have hD := hD0.self (sz := s.heap.size)
  generalize hAe : va_A [(h0, .inr (11, [.ref h2, .ref h3, .int 0, .ref h4, .ref h5, .ref h6, .ref h7, .int 0, .ref h1])), (h1, .inl (cI, 7, .inl (fun _ => 0)))] s.heap.size = A at hD ⊢
  have hA : ∀ q : Nat, s.heap.size ≤ q → A q := fun q h => by rw [← hAe]; exact Or.inr h
  have hS : va_S A s.heap s.heap [] := va_S.rf
  have hP : va_P (dC, dI) vwCl [(h0, .inr (11, [.ref h2, .ref h3, .int 0, .ref h4, .ref h5, .ref h6, .ref h7, .int 0, .ref h1])), (h1, .inl (cI, 7, .inl (fun _ => 0)))] s.heap := hP
  have hl := lv_entry ([.ref h0, .int p0]) (n := 3) (Nat.le_of_ble_eq_true rfl)
  rw [lg_entry_eq]
  generalize (lg_sl ([.ref h0, .int p0]) ++ List.replicate (3 - (lg_sl ([.ref h0, .int p0])).length) Slot.unset).toArray = ls at hl ⊢
  have hl : lv_has ls 3 [(0, .ref h0), (1, .int p0)] := hl
  refine lv_iload_n hx hb dX11_goes_0 rfl (lv_at hl 1 rfl) ?_
  refine lv_if_lt (tgt := 9) hx hb dX11_goes_1 (by decide) (fun hc => ?_) (fun hc => ?_)
  · exact absurd ((fa_lt _ _).mp hc) (by rw [show (0 : Int32).toInt = 0 from by decide]; omega)
  refine lv_iload_n hx hb dX11_goes_4 rfl (lv_at hl 1 rfl) ?_
  refine lv_iconst (v := 3) hx hb dX11_goes_5 (by decide) ?_
  refine lv_icmp_le (tgt := 16) hx hb dX11_goes_6 (by decide) (fun hc => ?_) (fun hc => ?_)
  · exact absurd ((fa_le _ _).mp hc) (by rw [show (3 : Int32).toInt = 3 from by decide]; omega)
  refine lv_aload_n hx hb dX11_goes_9 rfl (lv_at hl 0 rfl) ?_
  refine lv_bipush (v := (-2)) hx hb dX11_goes_10 (by decide) ?_
  refine z_calli (wc := [(h0, .inr (11, [.ref h2, .ref h3, .int 0, .ref h4, .ref h5, .ref h6, .ref h7, .int 0, .ref h1])), (h1, .inl (cI, 7, .inl (fun _ => 0)))]) (wr := []) (w1 := (fun _ => [(h0, .inr (11, [.ref h2, .ref h3, .int 0, .ref h4, .ref h5, .ref h6, .ref h7, .int 0, .ref h1])), (h1, .inl (cI, 7, .inl (upd (fun _ => 0) 2 1)))])) (va_runV (As := [.int (-2)]) (rest := []) ⟨hx, hb, hml, hown, hts⟩ (kX11_refuse_4 l dC dI cI cQ h0 h1 h2 h3 h4 h5 h6 h7 s.heap.size) (cwV 1 hts gv_X11_goes_X11_refuse_53 rfl rfl rfl (by decide +kernel) ⟨Nat.le_of_ble_eq_true rfl, Nat.le_of_ble_eq_true rfl⟩) ⟨z_blind, va_recv hK hP (ci := 11) (q0 := 0) rfl rfl, z_pre hZ hP hD [0, 1] rfl (by decide)⟩ rfl rfl hl.1 rfl (lv_room (Nat.le_of_ble_eq_true rfl)) dX11_goes_12 ⟨Nat.le_of_ble_eq_true rfl, Nat.le_of_ble_eq_true rfl⟩) hP hD hS hA [0, 1] [] rfl rfl (by decide) (by decide) (fun _ H locs hP hD hS => ?_)
  have hP : va_P (dC, dI) vwCl [(h0, .inr (11, [.ref h2, .ref h3, .int 0, .ref h4, .ref h5, .ref h6, .ref h7, .int 0, .ref h1])), (h1, .inl (cI, 7, .inl (upd (fun _ => 0) 2 1)))] H := hP
  have hD : va_D A [(h0, .inr (11, [.ref h2, .ref h3, .int 0, .ref h4, .ref h5, .ref h6, .ref h7, .int 0, .ref h1])), (h1, .inl (cI, 7, .inl (upd (fun _ => 0) 2 1)))] := hD
  have hP9 := hP.sub (ws' := []) [] rfl
  have hD9 := hD.sub (ws' := []) [] (by decide) rfl
  exact W.iret (v := (-2)) hx hb hr (fun t ht hW => ⟨⟨(-2), (fun k => [].getD k 0), rfl, rfl, by rw [ht]; exact hP9, hD9⟩, hS.F ht⟩) hS.2.2 dX11_goes_15
set_option maxHeartbeats 4000000 in
set_option maxRecDepth 100000 in
theorem kX11_follow (l : Launch) (dC : Nat → ClassId) (dI : Nat → Nat → Nat) (cI cQ : ClassId) (h0 h1 h2 h3 h4 h5 h6 h7 h8 h9 h10 h11 h12 h13 h14 h15 : Nat) (p0 : Int32) (hp0l : -2147483648 ≤ p0.toInt) (hp0h : p0.toInt ≤ -1) (sz : Nat) : Met l yX11_follow vsX11_follow ({ frames := 1, cells := 0, slots := 0, locals := 22 }) (va_Pc [.ref h0, .int p0] (zB dC dI cI cQ [(h0, .inr (11, [.ref h1, .ref h3, .int 0, .ref h4, .ref h5, .ref h6, .ref h7, .int 0, .ref h2])), (h1, .inr (7, [.ref h8, .ref h9, .ref h10, .int 0, .ref h11, .ref h12, .ref h13, .ref h14, .int 0, .int 0, .int 10, .ref h15])), (h2, .inl (cI, 7, .inl (fun _ => 0)))] sz)) (zQi dC dI (va_A [(h0, .inr (11, [.ref h1, .ref h3, .int 0, .ref h4, .ref h5, .ref h6, .ref h7, .int 0, .ref h2])), (h1, .inr (7, [.ref h8, .ref h9, .ref h10, .int 0, .ref h11, .ref h12, .ref h13, .ref h14, .int 0, .int 0, .int 10, .ref h15])), (h2, .inl (cI, 7, .inl (fun _ => 0)))] sz) (fun ad => []) (-1)) 0 0 (va_A [(h0, .inr (11, [.ref h1, .ref h3, .int 0, .ref h4, .ref h5, .ref h6, .ref h7, .int 0, .ref h2])), (h1, .inr (7, [.ref h8, .ref h9, .ref h10, .int 0, .ref h11, .ref h12, .ref h13, .ref h14, .int 0, .int 0, .int 10, .ref h15])), (h2, .inl (cI, 7, .inl (fun _ => 0)))] sz) := by
  refine Met.ofW (cc := cX11_follow) (maxL := 2) (ret := (some .int)) (by decide) rfl ?_
  intro p e s m args below meth c s₁ B hml hv
  obtain ⟨rfl, hsz, hP, hZ, hD0⟩ := hv
  obtain ⟨hK, hAO, hN⟩ := id hZ
  have hx := B.exec
  have hb := B.bytes
  have hr := B.returns
  have hts := atoms_spec (ws := vsX11_follow) B.pre
  have hown : s.vm.findClass RX11 = some m.cls := findClass_of_methodNamed B.named
  have hlocks := B.notSynchronized
  subst hsz
  have hD := hD0.self (sz := s.heap.size)
  generalize hAe : va_A [(h0, .inr (11, [.ref h1, .ref h3, .int 0, .ref h4, .ref h5, .ref h6, .ref h7, .int 0, .ref h2])), (h1, .inr (7, [.ref h8, .ref h9, .ref h10, .int 0, .ref h11, .ref h12, .ref h13, .ref h14, .int 0, .int 0, .int 10, .ref h15])), (h2, .inl (cI, 7, .inl (fun _ => 0)))] s.heap.size = A at hD ⊢
  have hA : ∀ q : Nat, s.heap.size ≤ q → A q := fun q h => by rw [← hAe]; exact Or.inr h
  have hS : va_S A s.heap s.heap [] := va_S.rf
  have hP : va_P (dC, dI) vwCl [(h0, .inr (11, [.ref h1, .ref h3, .int 0, .ref h4, .ref h5, .ref h6, .ref h7, .int 0, .ref h2])), (h1, .inr (7, [.ref h8, .ref h9, .ref h10, .int 0, .ref h11, .ref h12, .ref h13, .ref h14, .int 0, .int 0, .int 10, .ref h15])), (h2, .inl (cI, 7, .inl (fun _ => 0)))] s.heap := hP
  have hl := lv_entry ([.ref h0, .int p0]) (n := 2) (Nat.le_of_ble_eq_true rfl)
  rw [lg_entry_eq]
  generalize (lg_sl ([.ref h0, .int p0]) ++ List.replicate (2 - (lg_sl ([.ref h0, .int p0])).length) Slot.unset).toArray = ls at hl ⊢
  have hl : lv_has ls 2 [(0, .ref h0), (1, .int p0)] := hl
  refine lv_aload_n hx hb dX11_follow_0 rfl (lv_at hl 0 rfl) ?_
  refine va_get (D := (dC, dI)) (ci := 11) (v := .ref h1) (C := RX11) (T := TX11) (N := 9) hx hb hts in_X11_follow_X11 hown hK hP 0 rfl rfl 0 (by decide) (hts (.fieldLink RX11 10 "EachOnHisCue" "play" "LEachOnHisCue$Play;") (by decide +kernel)) (fun _ h9 => h9) rfl dX11_follow_1 ?_
  refine lv_iload_n hx hb dX11_follow_4 rfl (lv_at hl 1 rfl) ?_
  refine z_calli (wc := []) (wr := [(h0, .inr (11, [.ref h1, .ref h3, .int 0, .ref h4, .ref h5, .ref h6, .ref h7, .int 0, .ref h2])), (h1, .inr (7, [.ref h8, .ref h9, .ref h10, .int 0, .ref h11, .ref h12, .ref h13, .ref h14, .int 0, .int 0, .int 10, .ref h15])), (h2, .inl (cI, 7, .inl (fun _ => 0)))]) (w1 := (fun _ => [])) (va_runV (As := [.int p0]) (rest := []) ⟨hx, hb, hml, hown, hts⟩ (kX7_hasLine l dC dI cI cQ h1 p0 hp0l hp0h s.heap.size) (cwV 1 hts gv_X11_follow_X7_hasLine_103 rfl rfl rfl (by decide +kernel) ⟨Nat.le_of_ble_eq_true rfl, Nat.le_of_ble_eq_true rfl⟩) ⟨z_blind, va_recv hK hP (ci := 7) (q0 := 1) rfl rfl, z_pre hZ hP hD [] rfl (by decide)⟩ rfl rfl hl.1 rfl (lv_room (Nat.le_of_ble_eq_true rfl)) dX11_follow_5 ⟨Nat.le_of_ble_eq_true rfl, Nat.le_of_ble_eq_true rfl⟩) hP hD hS hA [] [0, 1, 2] rfl rfl (by decide) (by decide) (fun _ H locs hP hD hS => ?_)
  have hP : va_P (dC, dI) vwCl [(h0, .inr (11, [.ref h1, .ref h3, .int 0, .ref h4, .ref h5, .ref h6, .ref h7, .int 0, .ref h2])), (h1, .inr (7, [.ref h8, .ref h9, .ref h10, .int 0, .ref h11, .ref h12, .ref h13, .ref h14, .int 0, .int 0, .int 10, .ref h15])), (h2, .inl (cI, 7, .inl (fun _ => 0)))] H := hP
  have hD : va_D A [(h0, .inr (11, [.ref h1, .ref h3, .int 0, .ref h4, .ref h5, .ref h6, .ref h7, .int 0, .ref h2])), (h1, .inr (7, [.ref h8, .ref h9, .ref h10, .int 0, .ref h11, .ref h12, .ref h13, .ref h14, .int 0, .int 0, .int 10, .ref h15])), (h2, .inl (cI, 7, .inl (fun _ => 0)))] := hD
  refine lv_if_ne (tgt := 17) hx hb dX11_follow_8 (by decide) (fun hc => ?_) (fun hc => ?_)
  · exact absurd hc (by decide)
  refine lv_aload_n hx hb dX11_follow_11 rfl (lv_at hl 0 rfl) ?_
  refine lv_iconst (v := (-1)) hx hb dX11_follow_12 (by decide) ?_
  refine z_calli (wc := [(h0, .inr (11, [.ref h1, .ref h3, .int 0, .ref h4, .ref h5, .ref h6, .ref h7, .int 0, .ref h2])), (h2, .inl (cI, 7, .inl (fun _ => 0)))]) (wr := [(h1, .inr (7, [.ref h8, .ref h9, .ref h10, .int 0, .ref h11, .ref h12, .ref h13, .ref h14, .int 0, .int 0, .int 10, .ref h15]))]) (w1 := (fun _ => [(h0, .inr (11, [.ref h1, .ref h3, .int 0, .ref h4, .ref h5, .ref h6, .ref h7, .int 0, .ref h2])), (h2, .inl (cI, 7, .inl (upd (fun _ => 0) 1 1)))])) (va_runV (As := [.int (-1)]) (rest := []) ⟨hx, hb, hml, hown, hts⟩ (kX11_refuse_2 l dC dI cI cQ h0 h2 h1 h3 h4 h5 h6 h7 H.size) (cwV 1 hts gv_X11_follow_X11_refuse_53 rfl rfl rfl (by decide +kernel) ⟨Nat.le_of_ble_eq_true rfl, Nat.le_of_ble_eq_true rfl⟩) ⟨z_blind, va_recv hK hP (ci := 11) (q0 := 0) rfl rfl, z_pre hZ hP hD [0, 2] rfl (by decide)⟩ rfl rfl hl.1 rfl (lv_room (Nat.le_of_ble_eq_true rfl)) dX11_follow_13 ⟨Nat.le_of_ble_eq_true rfl, Nat.le_of_ble_eq_true rfl⟩) hP hD hS hA [0, 2] [1] rfl rfl (by decide) (by decide) (fun _ H locs hP hD hS => ?_)
  have hP : va_P (dC, dI) vwCl [(h1, .inr (7, [.ref h8, .ref h9, .ref h10, .int 0, .ref h11, .ref h12, .ref h13, .ref h14, .int 0, .int 0, .int 10, .ref h15])), (h0, .inr (11, [.ref h1, .ref h3, .int 0, .ref h4, .ref h5, .ref h6, .ref h7, .int 0, .ref h2])), (h2, .inl (cI, 7, .inl (upd (fun _ => 0) 1 1)))] H := hP
  have hD : va_D A [(h1, .inr (7, [.ref h8, .ref h9, .ref h10, .int 0, .ref h11, .ref h12, .ref h13, .ref h14, .int 0, .int 0, .int 10, .ref h15])), (h0, .inr (11, [.ref h1, .ref h3, .int 0, .ref h4, .ref h5, .ref h6, .ref h7, .int 0, .ref h2])), (h2, .inl (cI, 7, .inl (upd (fun _ => 0) 1 1)))] := hD
  have hP9 := hP.sub (ws' := []) [] rfl
  have hD9 := hD.sub (ws' := []) [] (by decide) rfl
  exact W.iret (v := (-1)) hx hb hr (fun t ht hW => ⟨⟨(-1), (fun k => [].getD k 0), rfl, rfl, by rw [ht]; exact hP9, hD9⟩, hS.F ht⟩) hS.2.2 dX11_follow_16
set_option maxHeartbeats 4000000 in
set_option maxRecDepth 100000 in
theorem kX11_follow_1 (l : Launch) (dC : Nat → ClassId) (dI : Nat → Nat → Nat) (cI cQ : ClassId) (h0 h1 h2 h3 h4 h5 h6 h7 h8 h9 h10 h11 h12 h13 h14 h15 : Nat) (p0 : Int32) (hp0l : 0 ≤ p0.toInt) (hp0h : p0.toInt ≤ 2147483647) (sz : Nat) : Met l yX11_follow vsX11_follow ({ frames := 1, cells := 0, slots := 0, locals := 22 }) (va_Pc [.ref h0, .int p0] (zB dC dI cI cQ [(h0, .inr (11, [.ref h1, .ref h3, .int 0, .ref h4, .ref h5, .ref h6, .ref h7, .int 0, .ref h2])), (h1, .inr (7, [.ref h8, .ref h9, .ref h10, .int 0, .ref h11, .ref h12, .ref h13, .ref h14, .int 0, .int 0, .int 10, .ref h15])), (h2, .inl (cI, 7, .inl (fun _ => 0)))] sz)) (zQi dC dI (va_A [(h0, .inr (11, [.ref h1, .ref h3, .int 0, .ref h4, .ref h5, .ref h6, .ref h7, .int 0, .ref h2])), (h1, .inr (7, [.ref h8, .ref h9, .ref h10, .int 0, .ref h11, .ref h12, .ref h13, .ref h14, .int 0, .int 0, .int 10, .ref h15])), (h2, .inl (cI, 7, .inl (fun _ => 0)))] sz) (fun ad => []) (-1)) 0 0 (va_A [(h0, .inr (11, [.ref h1, .ref h3, .int 0, .ref h4, .ref h5, .ref h6, .ref h7, .int 0, .ref h2])), (h1, .inr (7, [.ref h8, .ref h9, .ref h10, .int 0, .ref h11, .ref h12, .ref h13, .ref h14, .int 0, .int 0, .int 10, .ref h15])), (h2, .inl (cI, 7, .inl (fun _ => 0)))] sz) := by
  refine Met.ofW (cc := cX11_follow) (maxL := 2) (ret := (some .int)) (by decide) rfl ?_
  intro p e s m args below meth c s₁ B hml hv
  obtain ⟨rfl, hsz, hP, hZ, hD0⟩ := hv
  obtain ⟨hK, hAO, hN⟩ := id hZ
  have hx := B.exec
  have hb := B.bytes
  have hr := B.returns
  have hts := atoms_spec (ws := vsX11_follow) B.pre
  have hown : s.vm.findClass RX11 = some m.cls := findClass_of_methodNamed B.named
  have hlocks := B.notSynchronized
  subst hsz
  have hD := hD0.self (sz := s.heap.size)
  generalize hAe : va_A [(h0, .inr (11, [.ref h1, .ref h3, .int 0, .ref h4, .ref h5, .ref h6, .ref h7, .int 0, .ref h2])), (h1, .inr (7, [.ref h8, .ref h9, .ref h10, .int 0, .ref h11, .ref h12, .ref h13, .ref h14, .int 0, .int 0, .int 10, .ref h15])), (h2, .inl (cI, 7, .inl (fun _ => 0)))] s.heap.size = A at hD ⊢
  have hA : ∀ q : Nat, s.heap.size ≤ q → A q := fun q h => by rw [← hAe]; exact Or.inr h
  have hS : va_S A s.heap s.heap [] := va_S.rf
  have hP : va_P (dC, dI) vwCl [(h0, .inr (11, [.ref h1, .ref h3, .int 0, .ref h4, .ref h5, .ref h6, .ref h7, .int 0, .ref h2])), (h1, .inr (7, [.ref h8, .ref h9, .ref h10, .int 0, .ref h11, .ref h12, .ref h13, .ref h14, .int 0, .int 0, .int 10, .ref h15])), (h2, .inl (cI, 7, .inl (fun _ => 0)))] s.heap := hP
  have hl := lv_entry ([.ref h0, .int p0]) (n := 2) (Nat.le_of_ble_eq_true rfl)
  rw [lg_entry_eq]
  generalize (lg_sl ([.ref h0, .int p0]) ++ List.replicate (2 - (lg_sl ([.ref h0, .int p0])).length) Slot.unset).toArray = ls at hl ⊢
  have hl : lv_has ls 2 [(0, .ref h0), (1, .int p0)] := hl
  refine lv_aload_n hx hb dX11_follow_0 rfl (lv_at hl 0 rfl) ?_
  refine va_get (D := (dC, dI)) (ci := 11) (v := .ref h1) (C := RX11) (T := TX11) (N := 9) hx hb hts in_X11_follow_X11 hown hK hP 0 rfl rfl 0 (by decide) (hts (.fieldLink RX11 10 "EachOnHisCue" "play" "LEachOnHisCue$Play;") (by decide +kernel)) (fun _ h9 => h9) rfl dX11_follow_1 ?_
  refine lv_iload_n hx hb dX11_follow_4 rfl (lv_at hl 1 rfl) ?_
  refine z_calli (wc := [(h1, .inr (7, [.ref h8, .ref h9, .ref h10, .int 0, .ref h11, .ref h12, .ref h13, .ref h14, .int 0, .int 0, .int 10, .ref h15]))]) (wr := [(h0, .inr (11, [.ref h1, .ref h3, .int 0, .ref h4, .ref h5, .ref h6, .ref h7, .int 0, .ref h2])), (h2, .inl (cI, 7, .inl (fun _ => 0)))]) (w1 := (fun _ => [(h1, .inr (7, [.ref h8, .ref h9, .ref h10, .int 0, .ref h11, .ref h12, .ref h13, .ref h14, .int 0, .int 0, .int 10, .ref h15]))])) (va_runV (As := [.int p0]) (rest := []) ⟨hx, hb, hml, hown, hts⟩ (kX7_hasLine_1 l dC dI cI cQ h1 h8 h9 h10 h11 h12 h13 h14 h15 p0 hp0l hp0h s.heap.size) (cwV 1 hts gv_X11_follow_X7_hasLine_103 rfl rfl rfl (by decide +kernel) ⟨Nat.le_of_ble_eq_true rfl, Nat.le_of_ble_eq_true rfl⟩) ⟨z_blind, va_recv hK hP (ci := 7) (q0 := 1) rfl rfl, z_pre hZ hP hD [1] rfl (by decide)⟩ rfl rfl hl.1 rfl (lv_room (Nat.le_of_ble_eq_true rfl)) dX11_follow_5 ⟨Nat.le_of_ble_eq_true rfl, Nat.le_of_ble_eq_true rfl⟩) hP hD hS hA [1] [0, 2] rfl rfl (by decide) (by decide) (fun _ H locs hP hD hS => ?_)
  have hP : va_P (dC, dI) vwCl [(h0, .inr (11, [.ref h1, .ref h3, .int 0, .ref h4, .ref h5, .ref h6, .ref h7, .int 0, .ref h2])), (h2, .inl (cI, 7, .inl (fun _ => 0))), (h1, .inr (7, [.ref h8, .ref h9, .ref h10, .int 0, .ref h11, .ref h12, .ref h13, .ref h14, .int 0, .int 0, .int 10, .ref h15]))] H := hP
  have hD : va_D A [(h0, .inr (11, [.ref h1, .ref h3, .int 0, .ref h4, .ref h5, .ref h6, .ref h7, .int 0, .ref h2])), (h2, .inl (cI, 7, .inl (fun _ => 0))), (h1, .inr (7, [.ref h8, .ref h9, .ref h10, .int 0, .ref h11, .ref h12, .ref h13, .ref h14, .int 0, .int 0, .int 10, .ref h15]))] := hD
  refine lv_if_ne (tgt := 17) hx hb dX11_follow_8 (by decide) (fun hc => ?_) (fun hc => ?_)
  · exact absurd hc (by decide)
  refine lv_aload_n hx hb dX11_follow_11 rfl (lv_at hl 0 rfl) ?_
  refine lv_iconst (v := (-1)) hx hb dX11_follow_12 (by decide) ?_
  refine z_calli (wc := [(h0, .inr (11, [.ref h1, .ref h3, .int 0, .ref h4, .ref h5, .ref h6, .ref h7, .int 0, .ref h2])), (h2, .inl (cI, 7, .inl (fun _ => 0)))]) (wr := [(h1, .inr (7, [.ref h8, .ref h9, .ref h10, .int 0, .ref h11, .ref h12, .ref h13, .ref h14, .int 0, .int 0, .int 10, .ref h15]))]) (w1 := (fun _ => [(h0, .inr (11, [.ref h1, .ref h3, .int 0, .ref h4, .ref h5, .ref h6, .ref h7, .int 0, .ref h2])), (h2, .inl (cI, 7, .inl (upd (fun _ => 0) 1 1)))])) (va_runV (As := [.int (-1)]) (rest := []) ⟨hx, hb, hml, hown, hts⟩ (kX11_refuse_2 l dC dI cI cQ h0 h2 h1 h3 h4 h5 h6 h7 H.size) (cwV 1 hts gv_X11_follow_X11_refuse_53 rfl rfl rfl (by decide +kernel) ⟨Nat.le_of_ble_eq_true rfl, Nat.le_of_ble_eq_true rfl⟩) ⟨z_blind, va_recv hK hP (ci := 11) (q0 := 0) rfl rfl, z_pre hZ hP hD [0, 1] rfl (by decide)⟩ rfl rfl hl.1 rfl (lv_room (Nat.le_of_ble_eq_true rfl)) dX11_follow_13 ⟨Nat.le_of_ble_eq_true rfl, Nat.le_of_ble_eq_true rfl⟩) hP hD hS hA [0, 1] [2] rfl rfl (by decide) (by decide) (fun _ H locs hP hD hS => ?_)
  have hP : va_P (dC, dI) vwCl [(h1, .inr (7, [.ref h8, .ref h9, .ref h10, .int 0, .ref h11, .ref h12, .ref h13, .ref h14, .int 0, .int 0, .int 10, .ref h15])), (h0, .inr (11, [.ref h1, .ref h3, .int 0, .ref h4, .ref h5, .ref h6, .ref h7, .int 0, .ref h2])), (h2, .inl (cI, 7, .inl (upd (fun _ => 0) 1 1)))] H := hP
  have hD : va_D A [(h1, .inr (7, [.ref h8, .ref h9, .ref h10, .int 0, .ref h11, .ref h12, .ref h13, .ref h14, .int 0, .int 0, .int 10, .ref h15])), (h0, .inr (11, [.ref h1, .ref h3, .int 0, .ref h4, .ref h5, .ref h6, .ref h7, .int 0, .ref h2])), (h2, .inl (cI, 7, .inl (upd (fun _ => 0) 1 1)))] := hD
  have hP9 := hP.sub (ws' := []) [] rfl
  have hD9 := hD.sub (ws' := []) [] (by decide) rfl
  exact W.iret (v := (-1)) hx hb hr (fun t ht hW => ⟨⟨(-1), (fun k => [].getD k 0), rfl, rfl, by rw [ht]; exact hP9, hD9⟩, hS.F ht⟩) hS.2.2 dX11_follow_16
set_option maxHeartbeats 4000000 in
set_option maxRecDepth 100000 in
theorem kX11_net (l : Launch) (dC : Nat → ClassId) (dI : Nat → Nat → Nat) (cI cQ : ClassId) (h0 h1 h2 h3 h4 h5 h6 h7 : Nat) (p0 : Int32) (hp0l : -2147483648 ≤ p0.toInt) (hp0h : p0.toInt ≤ -1) (sz : Nat) : Met l yX11_net vsX11_net ({ frames := 1, cells := 0, slots := 0, locals := 22 }) (va_Pc [.ref h0, .int p0] (zB dC dI cI cQ [(h0, .inr (11, [.ref h2, .ref h3, .int 0, .ref h4, .ref h5, .ref h6, .ref h7, .int 0, .ref h1])), (h1, .inl (cI, 7, .inl (fun _ => 0)))] sz)) (zQi dC dI (va_A [(h0, .inr (11, [.ref h2, .ref h3, .int 0, .ref h4, .ref h5, .ref h6, .ref h7, .int 0, .ref h1])), (h1, .inl (cI, 7, .inl (fun _ => 0)))] sz) (fun ad => []) (-2)) 0 0 (va_A [(h0, .inr (11, [.ref h2, .ref h3, .int 0, .ref h4, .ref h5, .ref h6, .ref h7, .int 0, .ref h1])), (h1, .inl (cI, 7, .inl (fun _ => 0)))] sz) := by
  refine Met.ofW (cc := cX11_net) (maxL := 2) (ret := (some .int)) (by decide) rfl ?_
  intro p e s m args below meth c s₁ B hml hv
  obtain ⟨rfl, hsz, hP, hZ, hD0⟩ := hv
  obtain ⟨hK, hAO, hN⟩ := id hZ
  have hx := B.exec
  have hb := B.bytes
  have hr := B.returns
  have hts := atoms_spec (ws := vsX11_net) B.pre
  have hown : s.vm.findClass RX11 = some m.cls := findClass_of_methodNamed B.named
  have hlocks := B.notSynchronized
  subst hsz
  have hD := hD0.self (sz := s.heap.size)
  generalize hAe : va_A [(h0, .inr (11, [.ref h2, .ref h3, .int 0, .ref h4, .ref h5, .ref h6, .ref h7, .int 0, .ref h1])), (h1, .inl (cI, 7, .inl (fun _ => 0)))] s.heap.size = A at hD ⊢
  have hA : ∀ q : Nat, s.heap.size ≤ q → A q := fun q h => by rw [← hAe]; exact Or.inr h
  have hS : va_S A s.heap s.heap [] := va_S.rf
  have hP : va_P (dC, dI) vwCl [(h0, .inr (11, [.ref h2, .ref h3, .int 0, .ref h4, .ref h5, .ref h6, .ref h7, .int 0, .ref h1])), (h1, .inl (cI, 7, .inl (fun _ => 0)))] s.heap := hP
  have hl := lv_entry ([.ref h0, .int p0]) (n := 2) (Nat.le_of_ble_eq_true rfl)
  rw [lg_entry_eq]
  generalize (lg_sl ([.ref h0, .int p0]) ++ List.replicate (2 - (lg_sl ([.ref h0, .int p0])).length) Slot.unset).toArray = ls at hl ⊢
  have hl : lv_has ls 2 [(0, .ref h0), (1, .int p0)] := hl
  refine lv_iload_n hx hb dX11_net_0 rfl (lv_at hl 1 rfl) ?_
  refine lv_if_lt (tgt := 9) hx hb dX11_net_1 (by decide) (fun hc => ?_) (fun hc => ?_)
  rotate_left; exact absurd ((fa_lt _ _).mpr (by rw [show (0 : Int32).toInt = 0 from by decide]; omega)) hc
  refine lv_aload_n hx hb dX11_net_9 rfl (lv_at hl 0 rfl) ?_
  refine lv_bipush (v := (-2)) hx hb dX11_net_10 (by decide) ?_
  refine z_calli (wc := [(h0, .inr (11, [.ref h2, .ref h3, .int 0, .ref h4, .ref h5, .ref h6, .ref h7, .int 0, .ref h1])), (h1, .inl (cI, 7, .inl (fun _ => 0)))]) (wr := []) (w1 := (fun _ => [(h0, .inr (11, [.ref h2, .ref h3, .int 0, .ref h4, .ref h5, .ref h6, .ref h7, .int 0, .ref h1])), (h1, .inl (cI, 7, .inl (upd (fun _ => 0) 2 1)))])) (va_runV (As := [.int (-2)]) (rest := []) ⟨hx, hb, hml, hown, hts⟩ (kX11_refuse_4 l dC dI cI cQ h0 h1 h2 h3 h4 h5 h6 h7 s.heap.size) (cwV 1 hts gv_X11_net_X11_refuse_53 rfl rfl rfl (by decide +kernel) ⟨Nat.le_of_ble_eq_true rfl, Nat.le_of_ble_eq_true rfl⟩) ⟨z_blind, va_recv hK hP (ci := 11) (q0 := 0) rfl rfl, z_pre hZ hP hD [0, 1] rfl (by decide)⟩ rfl rfl hl.1 rfl (lv_room (Nat.le_of_ble_eq_true rfl)) dX11_net_12 ⟨Nat.le_of_ble_eq_true rfl, Nat.le_of_ble_eq_true rfl⟩) hP hD hS hA [0, 1] [] rfl rfl (by decide) (by decide) (fun _ H locs hP hD hS => ?_)
  have hP : va_P (dC, dI) vwCl [(h0, .inr (11, [.ref h2, .ref h3, .int 0, .ref h4, .ref h5, .ref h6, .ref h7, .int 0, .ref h1])), (h1, .inl (cI, 7, .inl (upd (fun _ => 0) 2 1)))] H := hP
  have hD : va_D A [(h0, .inr (11, [.ref h2, .ref h3, .int 0, .ref h4, .ref h5, .ref h6, .ref h7, .int 0, .ref h1])), (h1, .inl (cI, 7, .inl (upd (fun _ => 0) 2 1)))] := hD
  have hP9 := hP.sub (ws' := []) [] rfl
  have hD9 := hD.sub (ws' := []) [] (by decide) rfl
  exact W.iret (v := (-2)) hx hb hr (fun t ht hW => ⟨⟨(-2), (fun k => [].getD k 0), rfl, rfl, by rw [ht]; exact hP9, hD9⟩, hS.F ht⟩) hS.2.2 dX11_net_15
set_option maxHeartbeats 4000000 in
set_option maxRecDepth 100000 in
theorem kX11_net_1 (l : Launch) (dC : Nat → ClassId) (dI : Nat → Nat → Nat) (cI cQ : ClassId) (h0 h1 h2 h3 h4 h5 h6 h7 h8 h9 h10 h11 h12 h13 h14 h15 : Nat) (p0 : Int32) (hp0l : 0 ≤ p0.toInt) (hp0h : p0.toInt ≤ 3) (sz : Nat) : Met l yX11_net vsX11_net ({ frames := 1, cells := 0, slots := 0, locals := 22 }) (va_Pc [.ref h0, .int p0] (zB dC dI cI cQ [(h0, .inr (11, [.ref h1, .ref h3, .int 0, .ref h4, .ref h5, .ref h6, .ref h7, .int 0, .ref h2])), (h1, .inr (7, [.ref h8, .ref h9, .ref h10, .int 0, .ref h11, .ref h12, .ref h13, .ref h14, .int 0, .int 0, .int 10, .ref h15])), (h2, .inl (cI, 7, .inl (fun _ => 0)))] sz)) (zQi dC dI (va_A [(h0, .inr (11, [.ref h1, .ref h3, .int 0, .ref h4, .ref h5, .ref h6, .ref h7, .int 0, .ref h2])), (h1, .inr (7, [.ref h8, .ref h9, .ref h10, .int 0, .ref h11, .ref h12, .ref h13, .ref h14, .int 0, .int 0, .int 10, .ref h15])), (h2, .inl (cI, 7, .inl (fun _ => 0)))] sz) (fun ad => []) (-3)) 0 0 (va_A [(h0, .inr (11, [.ref h1, .ref h3, .int 0, .ref h4, .ref h5, .ref h6, .ref h7, .int 0, .ref h2])), (h1, .inr (7, [.ref h8, .ref h9, .ref h10, .int 0, .ref h11, .ref h12, .ref h13, .ref h14, .int 0, .int 0, .int 10, .ref h15])), (h2, .inl (cI, 7, .inl (fun _ => 0)))] sz) := by
  refine Met.ofW (cc := cX11_net) (maxL := 2) (ret := (some .int)) (by decide) rfl ?_
  intro p e s m args below meth c s₁ B hml hv
  obtain ⟨rfl, hsz, hP, hZ, hD0⟩ := hv
  obtain ⟨hK, hAO, hN⟩ := id hZ
  have hx := B.exec
  have hb := B.bytes
  have hr := B.returns
  have hts := atoms_spec (ws := vsX11_net) B.pre
  have hown : s.vm.findClass RX11 = some m.cls := findClass_of_methodNamed B.named
  have hlocks := B.notSynchronized
  subst hsz
  have hD := hD0.self (sz := s.heap.size)
  generalize hAe : va_A [(h0, .inr (11, [.ref h1, .ref h3, .int 0, .ref h4, .ref h5, .ref h6, .ref h7, .int 0, .ref h2])), (h1, .inr (7, [.ref h8, .ref h9, .ref h10, .int 0, .ref h11, .ref h12, .ref h13, .ref h14, .int 0, .int 0, .int 10, .ref h15])), (h2, .inl (cI, 7, .inl (fun _ => 0)))] s.heap.size = A at hD ⊢
  have hA : ∀ q : Nat, s.heap.size ≤ q → A q := fun q h => by rw [← hAe]; exact Or.inr h
  have hS : va_S A s.heap s.heap [] := va_S.rf
  have hP : va_P (dC, dI) vwCl [(h0, .inr (11, [.ref h1, .ref h3, .int 0, .ref h4, .ref h5, .ref h6, .ref h7, .int 0, .ref h2])), (h1, .inr (7, [.ref h8, .ref h9, .ref h10, .int 0, .ref h11, .ref h12, .ref h13, .ref h14, .int 0, .int 0, .int 10, .ref h15])), (h2, .inl (cI, 7, .inl (fun _ => 0)))] s.heap := hP
  have hl := lv_entry ([.ref h0, .int p0]) (n := 2) (Nat.le_of_ble_eq_true rfl)
  rw [lg_entry_eq]
  generalize (lg_sl ([.ref h0, .int p0]) ++ List.replicate (2 - (lg_sl ([.ref h0, .int p0])).length) Slot.unset).toArray = ls at hl ⊢
  have hl : lv_has ls 2 [(0, .ref h0), (1, .int p0)] := hl
  refine lv_iload_n hx hb dX11_net_0 rfl (lv_at hl 1 rfl) ?_
  refine lv_if_lt (tgt := 9) hx hb dX11_net_1 (by decide) (fun hc => ?_) (fun hc => ?_)
  · exact absurd ((fa_lt _ _).mp hc) (by rw [show (0 : Int32).toInt = 0 from by decide]; omega)
  refine lv_iload_n hx hb dX11_net_4 rfl (lv_at hl 1 rfl) ?_
  refine lv_iconst (v := 3) hx hb dX11_net_5 (by decide) ?_
  refine lv_icmp_le (tgt := 16) hx hb dX11_net_6 (by decide) (fun hc => ?_) (fun hc => ?_)
  rotate_left; exact absurd ((fa_le _ _).mpr (by rw [show (3 : Int32).toInt = 3 from by decide]; omega)) hc
  refine lv_aload_n hx hb dX11_net_16 rfl (lv_at hl 0 rfl) ?_
  refine va_get (D := (dC, dI)) (ci := 11) (v := .ref h1) (C := RX11) (T := TX11) (N := 9) hx hb hts in_X11_net_X11 hown hK hP 0 rfl rfl 0 (by decide) (hts (.fieldLink RX11 10 "EachOnHisCue" "play" "LEachOnHisCue$Play;") (by decide +kernel)) (fun _ h9 => h9) rfl dX11_net_17 ?_
  refine va_get (D := (dC, dI)) (ci := 7) (v := .int 0) (C := RX7) (T := TX7) (N := 12) hx hb hts in_X11_net_X7 hown hK hP 1 rfl rfl 9 (by decide) (hts (.fieldLink RX11 137 "EachOnHisCue$Play" "lines" "I") (by decide +kernel)) (fun _ h9 => h9) rfl dX11_net_20 ?_
  refine lv_if_ne (tgt := 33) hx hb dX11_net_23 (by decide) (fun hc => ?_) (fun hc => ?_)
  · exact absurd hc (by decide)
  refine lv_aload_n hx hb dX11_net_26 rfl (lv_at hl 0 rfl) ?_
  refine lv_bipush (v := (-3)) hx hb dX11_net_27 (by decide) ?_
  refine z_calli (wc := [(h0, .inr (11, [.ref h1, .ref h3, .int 0, .ref h4, .ref h5, .ref h6, .ref h7, .int 0, .ref h2])), (h2, .inl (cI, 7, .inl (fun _ => 0)))]) (wr := [(h1, .inr (7, [.ref h8, .ref h9, .ref h10, .int 0, .ref h11, .ref h12, .ref h13, .ref h14, .int 0, .int 0, .int 10, .ref h15]))]) (w1 := (fun _ => [(h0, .inr (11, [.ref h1, .ref h3, .int 0, .ref h4, .ref h5, .ref h6, .ref h7, .int 0, .ref h2])), (h2, .inl (cI, 7, .inl (upd (fun _ => 0) 3 1)))])) (va_runV (As := [.int (-3)]) (rest := []) ⟨hx, hb, hml, hown, hts⟩ (kX11_refuse_3 l dC dI cI cQ h0 h2 h1 h3 h4 h5 h6 h7 s.heap.size) (cwV 1 hts gv_X11_net_X11_refuse_53 rfl rfl rfl (by decide +kernel) ⟨Nat.le_of_ble_eq_true rfl, Nat.le_of_ble_eq_true rfl⟩) ⟨z_blind, va_recv hK hP (ci := 11) (q0 := 0) rfl rfl, z_pre hZ hP hD [0, 2] rfl (by decide)⟩ rfl rfl hl.1 rfl (lv_room (Nat.le_of_ble_eq_true rfl)) dX11_net_29 ⟨Nat.le_of_ble_eq_true rfl, Nat.le_of_ble_eq_true rfl⟩) hP hD hS hA [0, 2] [1] rfl rfl (by decide) (by decide) (fun _ H locs hP hD hS => ?_)
  have hP : va_P (dC, dI) vwCl [(h1, .inr (7, [.ref h8, .ref h9, .ref h10, .int 0, .ref h11, .ref h12, .ref h13, .ref h14, .int 0, .int 0, .int 10, .ref h15])), (h0, .inr (11, [.ref h1, .ref h3, .int 0, .ref h4, .ref h5, .ref h6, .ref h7, .int 0, .ref h2])), (h2, .inl (cI, 7, .inl (upd (fun _ => 0) 3 1)))] H := hP
  have hD : va_D A [(h1, .inr (7, [.ref h8, .ref h9, .ref h10, .int 0, .ref h11, .ref h12, .ref h13, .ref h14, .int 0, .int 0, .int 10, .ref h15])), (h0, .inr (11, [.ref h1, .ref h3, .int 0, .ref h4, .ref h5, .ref h6, .ref h7, .int 0, .ref h2])), (h2, .inl (cI, 7, .inl (upd (fun _ => 0) 3 1)))] := hD
  have hP9 := hP.sub (ws' := []) [] rfl
  have hD9 := hD.sub (ws' := []) [] (by decide) rfl
  exact W.iret (v := (-3)) hx hb hr (fun t ht hW => ⟨⟨(-3), (fun k => [].getD k 0), rfl, rfl, by rw [ht]; exact hP9, hD9⟩, hS.F ht⟩) hS.2.2 dX11_net_32
set_option maxHeartbeats 4000000 in
set_option maxRecDepth 100000 in
theorem kX11_net_2 (l : Launch) (dC : Nat → ClassId) (dI : Nat → Nat → Nat) (cI cQ : ClassId) (h0 h1 h2 h3 h4 h5 h6 h7 : Nat) (p0 : Int32) (hp0l : 4 ≤ p0.toInt) (hp0h : p0.toInt ≤ 2147483647) (sz : Nat) : Met l yX11_net vsX11_net ({ frames := 1, cells := 0, slots := 0, locals := 22 }) (va_Pc [.ref h0, .int p0] (zB dC dI cI cQ [(h0, .inr (11, [.ref h2, .ref h3, .int 0, .ref h4, .ref h5, .ref h6, .ref h7, .int 0, .ref h1])), (h1, .inl (cI, 7, .inl (fun _ => 0)))] sz)) (zQi dC dI (va_A [(h0, .inr (11, [.ref h2, .ref h3, .int 0, .ref h4, .ref h5, .ref h6, .ref h7, .int 0, .ref h1])), (h1, .inl (cI, 7, .inl (fun _ => 0)))] sz) (fun ad => []) (-2)) 0 0 (va_A [(h0, .inr (11, [.ref h2, .ref h3, .int 0, .ref h4, .ref h5, .ref h6, .ref h7, .int 0, .ref h1])), (h1, .inl (cI, 7, .inl (fun _ => 0)))] sz) := by
  refine Met.ofW (cc := cX11_net) (maxL := 2) (ret := (some .int)) (by decide) rfl ?_
  intro p e s m args below meth c s₁ B hml hv
  obtain ⟨rfl, hsz, hP, hZ, hD0⟩ := hv
  obtain ⟨hK, hAO, hN⟩ := id hZ
  have hx := B.exec
  have hb := B.bytes
  have hr := B.returns
  have hts := atoms_spec (ws := vsX11_net) B.pre
  have hown : s.vm.findClass RX11 = some m.cls := findClass_of_methodNamed B.named
  have hlocks := B.notSynchronized
  subst hsz
  have hD := hD0.self (sz := s.heap.size)
  generalize hAe : va_A [(h0, .inr (11, [.ref h2, .ref h3, .int 0, .ref h4, .ref h5, .ref h6, .ref h7, .int 0, .ref h1])), (h1, .inl (cI, 7, .inl (fun _ => 0)))] s.heap.size = A at hD ⊢
  have hA : ∀ q : Nat, s.heap.size ≤ q → A q := fun q h => by rw [← hAe]; exact Or.inr h
  have hS : va_S A s.heap s.heap [] := va_S.rf
  have hP : va_P (dC, dI) vwCl [(h0, .inr (11, [.ref h2, .ref h3, .int 0, .ref h4, .ref h5, .ref h6, .ref h7, .int 0, .ref h1])), (h1, .inl (cI, 7, .inl (fun _ => 0)))] s.heap := hP
  have hl := lv_entry ([.ref h0, .int p0]) (n := 2) (Nat.le_of_ble_eq_true rfl)
  rw [lg_entry_eq]
  generalize (lg_sl ([.ref h0, .int p0]) ++ List.replicate (2 - (lg_sl ([.ref h0, .int p0])).length) Slot.unset).toArray = ls at hl ⊢
  have hl : lv_has ls 2 [(0, .ref h0), (1, .int p0)] := hl
  refine lv_iload_n hx hb dX11_net_0 rfl (lv_at hl 1 rfl) ?_
  refine lv_if_lt (tgt := 9) hx hb dX11_net_1 (by decide) (fun hc => ?_) (fun hc => ?_)
  · exact absurd ((fa_lt _ _).mp hc) (by rw [show (0 : Int32).toInt = 0 from by decide]; omega)
  refine lv_iload_n hx hb dX11_net_4 rfl (lv_at hl 1 rfl) ?_
  refine lv_iconst (v := 3) hx hb dX11_net_5 (by decide) ?_
  refine lv_icmp_le (tgt := 16) hx hb dX11_net_6 (by decide) (fun hc => ?_) (fun hc => ?_)
  · exact absurd ((fa_le _ _).mp hc) (by rw [show (3 : Int32).toInt = 3 from by decide]; omega)
  refine lv_aload_n hx hb dX11_net_9 rfl (lv_at hl 0 rfl) ?_
  refine lv_bipush (v := (-2)) hx hb dX11_net_10 (by decide) ?_
  refine z_calli (wc := [(h0, .inr (11, [.ref h2, .ref h3, .int 0, .ref h4, .ref h5, .ref h6, .ref h7, .int 0, .ref h1])), (h1, .inl (cI, 7, .inl (fun _ => 0)))]) (wr := []) (w1 := (fun _ => [(h0, .inr (11, [.ref h2, .ref h3, .int 0, .ref h4, .ref h5, .ref h6, .ref h7, .int 0, .ref h1])), (h1, .inl (cI, 7, .inl (upd (fun _ => 0) 2 1)))])) (va_runV (As := [.int (-2)]) (rest := []) ⟨hx, hb, hml, hown, hts⟩ (kX11_refuse_4 l dC dI cI cQ h0 h1 h2 h3 h4 h5 h6 h7 s.heap.size) (cwV 1 hts gv_X11_net_X11_refuse_53 rfl rfl rfl (by decide +kernel) ⟨Nat.le_of_ble_eq_true rfl, Nat.le_of_ble_eq_true rfl⟩) ⟨z_blind, va_recv hK hP (ci := 11) (q0 := 0) rfl rfl, z_pre hZ hP hD [0, 1] rfl (by decide)⟩ rfl rfl hl.1 rfl (lv_room (Nat.le_of_ble_eq_true rfl)) dX11_net_12 ⟨Nat.le_of_ble_eq_true rfl, Nat.le_of_ble_eq_true rfl⟩) hP hD hS hA [0, 1] [] rfl rfl (by decide) (by decide) (fun _ H locs hP hD hS => ?_)
  have hP : va_P (dC, dI) vwCl [(h0, .inr (11, [.ref h2, .ref h3, .int 0, .ref h4, .ref h5, .ref h6, .ref h7, .int 0, .ref h1])), (h1, .inl (cI, 7, .inl (upd (fun _ => 0) 2 1)))] H := hP
  have hD : va_D A [(h0, .inr (11, [.ref h2, .ref h3, .int 0, .ref h4, .ref h5, .ref h6, .ref h7, .int 0, .ref h1])), (h1, .inl (cI, 7, .inl (upd (fun _ => 0) 2 1)))] := hD
  have hP9 := hP.sub (ws' := []) [] rfl
  have hD9 := hD.sub (ws' := []) [] (by decide) rfl
  exact W.iret (v := (-2)) hx hb hr (fun t ht hW => ⟨⟨(-2), (fun k => [].getD k 0), rfl, rfl, by rw [ht]; exact hP9, hD9⟩, hS.F ht⟩) hS.2.2 dX11_net_15
set_option maxHeartbeats 4000000 in
set_option maxRecDepth 100000 in
theorem kX11_mend (l : Launch) (dC : Nat → ClassId) (dI : Nat → Nat → Nat) (cI cQ : ClassId) (h0 h1 h2 h3 h4 h5 h6 h7 h8 h9 h10 h11 h12 h13 h14 h15 : Nat) (sz : Nat) : Met l yX11_mend vsX11_mend ({ frames := 1, cells := 0, slots := 0, locals := 22 }) (va_Pc [.ref h0] (zB dC dI cI cQ [(h0, .inr (11, [.ref h1, .ref h3, .int 0, .ref h4, .ref h5, .ref h6, .ref h7, .int 0, .ref h2])), (h1, .inr (7, [.ref h8, .ref h9, .ref h10, .int 0, .ref h11, .ref h12, .ref h13, .ref h14, .int 0, .int 0, .int 10, .ref h15])), (h2, .inl (cI, 7, .inl (fun _ => 0)))] sz)) (zQi dC dI (va_A [(h0, .inr (11, [.ref h1, .ref h3, .int 0, .ref h4, .ref h5, .ref h6, .ref h7, .int 0, .ref h2])), (h1, .inr (7, [.ref h8, .ref h9, .ref h10, .int 0, .ref h11, .ref h12, .ref h13, .ref h14, .int 0, .int 0, .int 10, .ref h15])), (h2, .inl (cI, 7, .inl (fun _ => 0)))] sz) (fun ad => []) (-3)) 0 0 (va_A [(h0, .inr (11, [.ref h1, .ref h3, .int 0, .ref h4, .ref h5, .ref h6, .ref h7, .int 0, .ref h2])), (h1, .inr (7, [.ref h8, .ref h9, .ref h10, .int 0, .ref h11, .ref h12, .ref h13, .ref h14, .int 0, .int 0, .int 10, .ref h15])), (h2, .inl (cI, 7, .inl (fun _ => 0)))] sz) := by
  refine Met.ofW (cc := cX11_mend) (maxL := 4) (ret := (some .int)) (by decide) rfl ?_
  intro p e s m args below meth c s₁ B hml hv
  obtain ⟨rfl, hsz, hP, hZ, hD0⟩ := hv
  obtain ⟨hK, hAO, hN⟩ := id hZ
  have hx := B.exec
  have hb := B.bytes
  have hr := B.returns
  have hts := atoms_spec (ws := vsX11_mend) B.pre
  have hown : s.vm.findClass RX11 = some m.cls := findClass_of_methodNamed B.named
  have hlocks := B.notSynchronized
  subst hsz
  have hD := hD0.self (sz := s.heap.size)
  generalize hAe : va_A [(h0, .inr (11, [.ref h1, .ref h3, .int 0, .ref h4, .ref h5, .ref h6, .ref h7, .int 0, .ref h2])), (h1, .inr (7, [.ref h8, .ref h9, .ref h10, .int 0, .ref h11, .ref h12, .ref h13, .ref h14, .int 0, .int 0, .int 10, .ref h15])), (h2, .inl (cI, 7, .inl (fun _ => 0)))] s.heap.size = A at hD ⊢
  have hA : ∀ q : Nat, s.heap.size ≤ q → A q := fun q h => by rw [← hAe]; exact Or.inr h
  have hS : va_S A s.heap s.heap [] := va_S.rf
  have hP : va_P (dC, dI) vwCl [(h0, .inr (11, [.ref h1, .ref h3, .int 0, .ref h4, .ref h5, .ref h6, .ref h7, .int 0, .ref h2])), (h1, .inr (7, [.ref h8, .ref h9, .ref h10, .int 0, .ref h11, .ref h12, .ref h13, .ref h14, .int 0, .int 0, .int 10, .ref h15])), (h2, .inl (cI, 7, .inl (fun _ => 0)))] s.heap := hP
  have hl := lv_entry ([.ref h0]) (n := 4) (Nat.le_of_ble_eq_true rfl)
  rw [lg_entry_eq]
  generalize (lg_sl ([.ref h0]) ++ List.replicate (4 - (lg_sl ([.ref h0])).length) Slot.unset).toArray = ls at hl ⊢
  have hl : lv_has ls 4 [(0, .ref h0)] := hl
  refine lv_aload_n hx hb dX11_mend_0 rfl (lv_at hl 0 rfl) ?_
  refine va_get (D := (dC, dI)) (ci := 11) (v := .ref h1) (C := RX11) (T := TX11) (N := 9) hx hb hts in_X11_mend_X11 hown hK hP 0 rfl rfl 0 (by decide) (hts (.fieldLink RX11 10 "EachOnHisCue" "play" "LEachOnHisCue$Play;") (by decide +kernel)) (fun _ h9 => h9) rfl dX11_mend_1 ?_
  refine va_get (D := (dC, dI)) (ci := 7) (v := .int 0) (C := RX7) (T := TX7) (N := 12) hx hb hts in_X11_mend_X7 hown hK hP 1 rfl rfl 9 (by decide) (hts (.fieldLink RX11 137 "EachOnHisCue$Play" "lines" "I") (by decide +kernel)) (fun _ h9 => h9) rfl dX11_mend_4 ?_
  refine lv_if_ne (tgt := 17) hx hb dX11_mend_7 (by decide) (fun hc => ?_) (fun hc => ?_)
  · exact absurd hc (by decide)
  refine lv_aload_n hx hb dX11_mend_10 rfl (lv_at hl 0 rfl) ?_
  refine lv_bipush (v := (-3)) hx hb dX11_mend_11 (by decide) ?_
  refine z_calli (wc := [(h0, .inr (11, [.ref h1, .ref h3, .int 0, .ref h4, .ref h5, .ref h6, .ref h7, .int 0, .ref h2])), (h2, .inl (cI, 7, .inl (fun _ => 0)))]) (wr := [(h1, .inr (7, [.ref h8, .ref h9, .ref h10, .int 0, .ref h11, .ref h12, .ref h13, .ref h14, .int 0, .int 0, .int 10, .ref h15]))]) (w1 := (fun _ => [(h0, .inr (11, [.ref h1, .ref h3, .int 0, .ref h4, .ref h5, .ref h6, .ref h7, .int 0, .ref h2])), (h2, .inl (cI, 7, .inl (upd (fun _ => 0) 3 1)))])) (va_runV (As := [.int (-3)]) (rest := []) ⟨hx, hb, hml, hown, hts⟩ (kX11_refuse_3 l dC dI cI cQ h0 h2 h1 h3 h4 h5 h6 h7 s.heap.size) (cwV 1 hts gv_X11_mend_X11_refuse_53 rfl rfl rfl (by decide +kernel) ⟨Nat.le_of_ble_eq_true rfl, Nat.le_of_ble_eq_true rfl⟩) ⟨z_blind, va_recv hK hP (ci := 11) (q0 := 0) rfl rfl, z_pre hZ hP hD [0, 2] rfl (by decide)⟩ rfl rfl hl.1 rfl (lv_room (Nat.le_of_ble_eq_true rfl)) dX11_mend_13 ⟨Nat.le_of_ble_eq_true rfl, Nat.le_of_ble_eq_true rfl⟩) hP hD hS hA [0, 2] [1] rfl rfl (by decide) (by decide) (fun _ H locs hP hD hS => ?_)
  have hP : va_P (dC, dI) vwCl [(h1, .inr (7, [.ref h8, .ref h9, .ref h10, .int 0, .ref h11, .ref h12, .ref h13, .ref h14, .int 0, .int 0, .int 10, .ref h15])), (h0, .inr (11, [.ref h1, .ref h3, .int 0, .ref h4, .ref h5, .ref h6, .ref h7, .int 0, .ref h2])), (h2, .inl (cI, 7, .inl (upd (fun _ => 0) 3 1)))] H := hP
  have hD : va_D A [(h1, .inr (7, [.ref h8, .ref h9, .ref h10, .int 0, .ref h11, .ref h12, .ref h13, .ref h14, .int 0, .int 0, .int 10, .ref h15])), (h0, .inr (11, [.ref h1, .ref h3, .int 0, .ref h4, .ref h5, .ref h6, .ref h7, .int 0, .ref h2])), (h2, .inl (cI, 7, .inl (upd (fun _ => 0) 3 1)))] := hD
  have hP9 := hP.sub (ws' := []) [] rfl
  have hD9 := hD.sub (ws' := []) [] (by decide) rfl
  exact W.iret (v := (-3)) hx hb hr (fun t ht hW => ⟨⟨(-3), (fun k => [].getD k 0), rfl, rfl, by rw [ht]; exact hP9, hD9⟩, hS.F ht⟩) hS.2.2 dX11_mend_16
set_option maxHeartbeats 4000000 in
set_option maxRecDepth 100000 in
theorem kX11_mendOf (l : Launch) (dC : Nat → ClassId) (dI : Nat → Nat → Nat) (cI cQ : ClassId) (h0 h1 h2 h3 h4 h5 h6 h7 h8 h9 h10 h11 h12 h13 h14 h15 : Nat) (p0 : Int32) (hp0l : -2147483648 ≤ p0.toInt) (hp0h : p0.toInt ≤ -1) (sz : Nat) : Met l yX11_mendOf vsX11_mendOf ({ frames := 1, cells := 0, slots := 0, locals := 22 }) (va_Pc [.ref h0, .int p0] (zB dC dI cI cQ [(h0, .inr (11, [.ref h1, .ref h3, .int 0, .ref h4, .ref h5, .ref h6, .ref h7, .int 0, .ref h2])), (h1, .inr (7, [.ref h8, .ref h9, .ref h10, .int 0, .ref h11, .ref h12, .ref h13, .ref h14, .int 0, .int 0, .int 10, .ref h15])), (h2, .inl (cI, 7, .inl (fun _ => 0)))] sz)) (zQi dC dI (va_A [(h0, .inr (11, [.ref h1, .ref h3, .int 0, .ref h4, .ref h5, .ref h6, .ref h7, .int 0, .ref h2])), (h1, .inr (7, [.ref h8, .ref h9, .ref h10, .int 0, .ref h11, .ref h12, .ref h13, .ref h14, .int 0, .int 0, .int 10, .ref h15])), (h2, .inl (cI, 7, .inl (fun _ => 0)))] sz) (fun ad => []) (-1)) 0 0 (va_A [(h0, .inr (11, [.ref h1, .ref h3, .int 0, .ref h4, .ref h5, .ref h6, .ref h7, .int 0, .ref h2])), (h1, .inr (7, [.ref h8, .ref h9, .ref h10, .int 0, .ref h11, .ref h12, .ref h13, .ref h14, .int 0, .int 0, .int 10, .ref h15])), (h2, .inl (cI, 7, .inl (fun _ => 0)))] sz) := by
  refine Met.ofW (cc := cX11_mendOf) (maxL := 2) (ret := (some .int)) (by decide) rfl ?_
  intro p e s m args below meth c s₁ B hml hv
  obtain ⟨rfl, hsz, hP, hZ, hD0⟩ := hv
  obtain ⟨hK, hAO, hN⟩ := id hZ
  have hx := B.exec
  have hb := B.bytes
  have hr := B.returns
  have hts := atoms_spec (ws := vsX11_mendOf) B.pre
  have hown : s.vm.findClass RX11 = some m.cls := findClass_of_methodNamed B.named
  have hlocks := B.notSynchronized
  subst hsz
  have hD := hD0.self (sz := s.heap.size)
  generalize hAe : va_A [(h0, .inr (11, [.ref h1, .ref h3, .int 0, .ref h4, .ref h5, .ref h6, .ref h7, .int 0, .ref h2])), (h1, .inr (7, [.ref h8, .ref h9, .ref h10, .int 0, .ref h11, .ref h12, .ref h13, .ref h14, .int 0, .int 0, .int 10, .ref h15])), (h2, .inl (cI, 7, .inl (fun _ => 0)))] s.heap.size = A at hD ⊢
  have hA : ∀ q : Nat, s.heap.size ≤ q → A q := fun q h => by rw [← hAe]; exact Or.inr h
  have hS : va_S A s.heap s.heap [] := va_S.rf
  have hP : va_P (dC, dI) vwCl [(h0, .inr (11, [.ref h1, .ref h3, .int 0, .ref h4, .ref h5, .ref h6, .ref h7, .int 0, .ref h2])), (h1, .inr (7, [.ref h8, .ref h9, .ref h10, .int 0, .ref h11, .ref h12, .ref h13, .ref h14, .int 0, .int 0, .int 10, .ref h15])), (h2, .inl (cI, 7, .inl (fun _ => 0)))] s.heap := hP
  have hl := lv_entry ([.ref h0, .int p0]) (n := 2) (Nat.le_of_ble_eq_true rfl)
  rw [lg_entry_eq]
  generalize (lg_sl ([.ref h0, .int p0]) ++ List.replicate (2 - (lg_sl ([.ref h0, .int p0])).length) Slot.unset).toArray = ls at hl ⊢
  have hl : lv_has ls 2 [(0, .ref h0), (1, .int p0)] := hl
  refine lv_aload_n hx hb dX11_mendOf_0 rfl (lv_at hl 0 rfl) ?_
  refine va_get (D := (dC, dI)) (ci := 11) (v := .ref h1) (C := RX11) (T := TX11) (N := 9) hx hb hts in_X11_mendOf_X11 hown hK hP 0 rfl rfl 0 (by decide) (hts (.fieldLink RX11 10 "EachOnHisCue" "play" "LEachOnHisCue$Play;") (by decide +kernel)) (fun _ h9 => h9) rfl dX11_mendOf_1 ?_
  refine lv_iload_n hx hb dX11_mendOf_4 rfl (lv_at hl 1 rfl) ?_
  refine z_calli (wc := []) (wr := [(h0, .inr (11, [.ref h1, .ref h3, .int 0, .ref h4, .ref h5, .ref h6, .ref h7, .int 0, .ref h2])), (h1, .inr (7, [.ref h8, .ref h9, .ref h10, .int 0, .ref h11, .ref h12, .ref h13, .ref h14, .int 0, .int 0, .int 10, .ref h15])), (h2, .inl (cI, 7, .inl (fun _ => 0)))]) (w1 := (fun _ => [])) (va_runV (As := [.int p0]) (rest := []) ⟨hx, hb, hml, hown, hts⟩ (kX7_hasLine l dC dI cI cQ h1 p0 hp0l hp0h s.heap.size) (cwV 1 hts gv_X11_mendOf_X7_hasLine_103 rfl rfl rfl (by decide +kernel) ⟨Nat.le_of_ble_eq_true rfl, Nat.le_of_ble_eq_true rfl⟩) ⟨z_blind, va_recv hK hP (ci := 7) (q0 := 1) rfl rfl, z_pre hZ hP hD [] rfl (by decide)⟩ rfl rfl hl.1 rfl (lv_room (Nat.le_of_ble_eq_true rfl)) dX11_mendOf_5 ⟨Nat.le_of_ble_eq_true rfl, Nat.le_of_ble_eq_true rfl⟩) hP hD hS hA [] [0, 1, 2] rfl rfl (by decide) (by decide) (fun _ H locs hP hD hS => ?_)
  have hP : va_P (dC, dI) vwCl [(h0, .inr (11, [.ref h1, .ref h3, .int 0, .ref h4, .ref h5, .ref h6, .ref h7, .int 0, .ref h2])), (h1, .inr (7, [.ref h8, .ref h9, .ref h10, .int 0, .ref h11, .ref h12, .ref h13, .ref h14, .int 0, .int 0, .int 10, .ref h15])), (h2, .inl (cI, 7, .inl (fun _ => 0)))] H := hP
  have hD : va_D A [(h0, .inr (11, [.ref h1, .ref h3, .int 0, .ref h4, .ref h5, .ref h6, .ref h7, .int 0, .ref h2])), (h1, .inr (7, [.ref h8, .ref h9, .ref h10, .int 0, .ref h11, .ref h12, .ref h13, .ref h14, .int 0, .int 0, .int 10, .ref h15])), (h2, .inl (cI, 7, .inl (fun _ => 0)))] := hD
  refine lv_if_ne (tgt := 17) hx hb dX11_mendOf_8 (by decide) (fun hc => ?_) (fun hc => ?_)
  · exact absurd hc (by decide)
  refine lv_aload_n hx hb dX11_mendOf_11 rfl (lv_at hl 0 rfl) ?_
  refine lv_iconst (v := (-1)) hx hb dX11_mendOf_12 (by decide) ?_
  refine z_calli (wc := [(h0, .inr (11, [.ref h1, .ref h3, .int 0, .ref h4, .ref h5, .ref h6, .ref h7, .int 0, .ref h2])), (h2, .inl (cI, 7, .inl (fun _ => 0)))]) (wr := [(h1, .inr (7, [.ref h8, .ref h9, .ref h10, .int 0, .ref h11, .ref h12, .ref h13, .ref h14, .int 0, .int 0, .int 10, .ref h15]))]) (w1 := (fun _ => [(h0, .inr (11, [.ref h1, .ref h3, .int 0, .ref h4, .ref h5, .ref h6, .ref h7, .int 0, .ref h2])), (h2, .inl (cI, 7, .inl (upd (fun _ => 0) 1 1)))])) (va_runV (As := [.int (-1)]) (rest := []) ⟨hx, hb, hml, hown, hts⟩ (kX11_refuse_2 l dC dI cI cQ h0 h2 h1 h3 h4 h5 h6 h7 H.size) (cwV 1 hts gv_X11_mendOf_X11_refuse_53 rfl rfl rfl (by decide +kernel) ⟨Nat.le_of_ble_eq_true rfl, Nat.le_of_ble_eq_true rfl⟩) ⟨z_blind, va_recv hK hP (ci := 11) (q0 := 0) rfl rfl, z_pre hZ hP hD [0, 2] rfl (by decide)⟩ rfl rfl hl.1 rfl (lv_room (Nat.le_of_ble_eq_true rfl)) dX11_mendOf_13 ⟨Nat.le_of_ble_eq_true rfl, Nat.le_of_ble_eq_true rfl⟩) hP hD hS hA [0, 2] [1] rfl rfl (by decide) (by decide) (fun _ H locs hP hD hS => ?_)
  have hP : va_P (dC, dI) vwCl [(h1, .inr (7, [.ref h8, .ref h9, .ref h10, .int 0, .ref h11, .ref h12, .ref h13, .ref h14, .int 0, .int 0, .int 10, .ref h15])), (h0, .inr (11, [.ref h1, .ref h3, .int 0, .ref h4, .ref h5, .ref h6, .ref h7, .int 0, .ref h2])), (h2, .inl (cI, 7, .inl (upd (fun _ => 0) 1 1)))] H := hP
  have hD : va_D A [(h1, .inr (7, [.ref h8, .ref h9, .ref h10, .int 0, .ref h11, .ref h12, .ref h13, .ref h14, .int 0, .int 0, .int 10, .ref h15])), (h0, .inr (11, [.ref h1, .ref h3, .int 0, .ref h4, .ref h5, .ref h6, .ref h7, .int 0, .ref h2])), (h2, .inl (cI, 7, .inl (upd (fun _ => 0) 1 1)))] := hD
  have hP9 := hP.sub (ws' := []) [] rfl
  have hD9 := hD.sub (ws' := []) [] (by decide) rfl
  exact W.iret (v := (-1)) hx hb hr (fun t ht hW => ⟨⟨(-1), (fun k => [].getD k 0), rfl, rfl, by rw [ht]; exact hP9, hD9⟩, hS.F ht⟩) hS.2.2 dX11_mendOf_16
set_option maxHeartbeats 4000000 in
set_option maxRecDepth 100000 in
theorem kX11_mendOf_1 (l : Launch) (dC : Nat → ClassId) (dI : Nat → Nat → Nat) (cI cQ : ClassId) (h0 h1 h2 h3 h4 h5 h6 h7 h8 h9 h10 h11 h12 h13 h14 h15 : Nat) (p0 : Int32) (hp0l : 0 ≤ p0.toInt) (hp0h : p0.toInt ≤ 2147483647) (sz : Nat) : Met l yX11_mendOf vsX11_mendOf ({ frames := 1, cells := 0, slots := 0, locals := 22 }) (va_Pc [.ref h0, .int p0] (zB dC dI cI cQ [(h0, .inr (11, [.ref h1, .ref h3, .int 0, .ref h4, .ref h5, .ref h6, .ref h7, .int 0, .ref h2])), (h1, .inr (7, [.ref h8, .ref h9, .ref h10, .int 0, .ref h11, .ref h12, .ref h13, .ref h14, .int 0, .int 0, .int 10, .ref h15])), (h2, .inl (cI, 7, .inl (fun _ => 0)))] sz)) (zQi dC dI (va_A [(h0, .inr (11, [.ref h1, .ref h3, .int 0, .ref h4, .ref h5, .ref h6, .ref h7, .int 0, .ref h2])), (h1, .inr (7, [.ref h8, .ref h9, .ref h10, .int 0, .ref h11, .ref h12, .ref h13, .ref h14, .int 0, .int 0, .int 10, .ref h15])), (h2, .inl (cI, 7, .inl (fun _ => 0)))] sz) (fun ad => []) (-1)) 0 0 (va_A [(h0, .inr (11, [.ref h1, .ref h3, .int 0, .ref h4, .ref h5, .ref h6, .ref h7, .int 0, .ref h2])), (h1, .inr (7, [.ref h8, .ref h9, .ref h10, .int 0, .ref h11, .ref h12, .ref h13, .ref h14, .int 0, .int 0, .int 10, .ref h15])), (h2, .inl (cI, 7, .inl (fun _ => 0)))] sz) := by
  refine Met.ofW (cc := cX11_mendOf) (maxL := 2) (ret := (some .int)) (by decide) rfl ?_
  intro p e s m args below meth c s₁ B hml hv
  obtain ⟨rfl, hsz, hP, hZ, hD0⟩ := hv
  obtain ⟨hK, hAO, hN⟩ := id hZ
  have hx := B.exec
  have hb := B.bytes
  have hr := B.returns
  have hts := atoms_spec (ws := vsX11_mendOf) B.pre
  have hown : s.vm.findClass RX11 = some m.cls := findClass_of_methodNamed B.named
  have hlocks := B.notSynchronized
  subst hsz
  have hD := hD0.self (sz := s.heap.size)
  generalize hAe : va_A [(h0, .inr (11, [.ref h1, .ref h3, .int 0, .ref h4, .ref h5, .ref h6, .ref h7, .int 0, .ref h2])), (h1, .inr (7, [.ref h8, .ref h9, .ref h10, .int 0, .ref h11, .ref h12, .ref h13, .ref h14, .int 0, .int 0, .int 10, .ref h15])), (h2, .inl (cI, 7, .inl (fun _ => 0)))] s.heap.size = A at hD ⊢
  have hA : ∀ q : Nat, s.heap.size ≤ q → A q := fun q h => by rw [← hAe]; exact Or.inr h
  have hS : va_S A s.heap s.heap [] := va_S.rf
  have hP : va_P (dC, dI) vwCl [(h0, .inr (11, [.ref h1, .ref h3, .int 0, .ref h4, .ref h5, .ref h6, .ref h7, .int 0, .ref h2])), (h1, .inr (7, [.ref h8, .ref h9, .ref h10, .int 0, .ref h11, .ref h12, .ref h13, .ref h14, .int 0, .int 0, .int 10, .ref h15])), (h2, .inl (cI, 7, .inl (fun _ => 0)))] s.heap := hP
  have hl := lv_entry ([.ref h0, .int p0]) (n := 2) (Nat.le_of_ble_eq_true rfl)
  rw [lg_entry_eq]
  generalize (lg_sl ([.ref h0, .int p0]) ++ List.replicate (2 - (lg_sl ([.ref h0, .int p0])).length) Slot.unset).toArray = ls at hl ⊢
  have hl : lv_has ls 2 [(0, .ref h0), (1, .int p0)] := hl
  refine lv_aload_n hx hb dX11_mendOf_0 rfl (lv_at hl 0 rfl) ?_
  refine va_get (D := (dC, dI)) (ci := 11) (v := .ref h1) (C := RX11) (T := TX11) (N := 9) hx hb hts in_X11_mendOf_X11 hown hK hP 0 rfl rfl 0 (by decide) (hts (.fieldLink RX11 10 "EachOnHisCue" "play" "LEachOnHisCue$Play;") (by decide +kernel)) (fun _ h9 => h9) rfl dX11_mendOf_1 ?_
  refine lv_iload_n hx hb dX11_mendOf_4 rfl (lv_at hl 1 rfl) ?_
  refine z_calli (wc := [(h1, .inr (7, [.ref h8, .ref h9, .ref h10, .int 0, .ref h11, .ref h12, .ref h13, .ref h14, .int 0, .int 0, .int 10, .ref h15]))]) (wr := [(h0, .inr (11, [.ref h1, .ref h3, .int 0, .ref h4, .ref h5, .ref h6, .ref h7, .int 0, .ref h2])), (h2, .inl (cI, 7, .inl (fun _ => 0)))]) (w1 := (fun _ => [(h1, .inr (7, [.ref h8, .ref h9, .ref h10, .int 0, .ref h11, .ref h12, .ref h13, .ref h14, .int 0, .int 0, .int 10, .ref h15]))])) (va_runV (As := [.int p0]) (rest := []) ⟨hx, hb, hml, hown, hts⟩ (kX7_hasLine_1 l dC dI cI cQ h1 h8 h9 h10 h11 h12 h13 h14 h15 p0 hp0l hp0h s.heap.size) (cwV 1 hts gv_X11_mendOf_X7_hasLine_103 rfl rfl rfl (by decide +kernel) ⟨Nat.le_of_ble_eq_true rfl, Nat.le_of_ble_eq_true rfl⟩) ⟨z_blind, va_recv hK hP (ci := 7) (q0 := 1) rfl rfl, z_pre hZ hP hD [1] rfl (by decide)⟩ rfl rfl hl.1 rfl (lv_room (Nat.le_of_ble_eq_true rfl)) dX11_mendOf_5 ⟨Nat.le_of_ble_eq_true rfl, Nat.le_of_ble_eq_true rfl⟩) hP hD hS hA [1] [0, 2] rfl rfl (by decide) (by decide) (fun _ H locs hP hD hS => ?_)
  have hP : va_P (dC, dI) vwCl [(h0, .inr (11, [.ref h1, .ref h3, .int 0, .ref h4, .ref h5, .ref h6, .ref h7, .int 0, .ref h2])), (h2, .inl (cI, 7, .inl (fun _ => 0))), (h1, .inr (7, [.ref h8, .ref h9, .ref h10, .int 0, .ref h11, .ref h12, .ref h13, .ref h14, .int 0, .int 0, .int 10, .ref h15]))] H := hP
  have hD : va_D A [(h0, .inr (11, [.ref h1, .ref h3, .int 0, .ref h4, .ref h5, .ref h6, .ref h7, .int 0, .ref h2])), (h2, .inl (cI, 7, .inl (fun _ => 0))), (h1, .inr (7, [.ref h8, .ref h9, .ref h10, .int 0, .ref h11, .ref h12, .ref h13, .ref h14, .int 0, .int 0, .int 10, .ref h15]))] := hD
  refine lv_if_ne (tgt := 17) hx hb dX11_mendOf_8 (by decide) (fun hc => ?_) (fun hc => ?_)
  · exact absurd hc (by decide)
  refine lv_aload_n hx hb dX11_mendOf_11 rfl (lv_at hl 0 rfl) ?_
  refine lv_iconst (v := (-1)) hx hb dX11_mendOf_12 (by decide) ?_
  refine z_calli (wc := [(h0, .inr (11, [.ref h1, .ref h3, .int 0, .ref h4, .ref h5, .ref h6, .ref h7, .int 0, .ref h2])), (h2, .inl (cI, 7, .inl (fun _ => 0)))]) (wr := [(h1, .inr (7, [.ref h8, .ref h9, .ref h10, .int 0, .ref h11, .ref h12, .ref h13, .ref h14, .int 0, .int 0, .int 10, .ref h15]))]) (w1 := (fun _ => [(h0, .inr (11, [.ref h1, .ref h3, .int 0, .ref h4, .ref h5, .ref h6, .ref h7, .int 0, .ref h2])), (h2, .inl (cI, 7, .inl (upd (fun _ => 0) 1 1)))])) (va_runV (As := [.int (-1)]) (rest := []) ⟨hx, hb, hml, hown, hts⟩ (kX11_refuse_2 l dC dI cI cQ h0 h2 h1 h3 h4 h5 h6 h7 H.size) (cwV 1 hts gv_X11_mendOf_X11_refuse_53 rfl rfl rfl (by decide +kernel) ⟨Nat.le_of_ble_eq_true rfl, Nat.le_of_ble_eq_true rfl⟩) ⟨z_blind, va_recv hK hP (ci := 11) (q0 := 0) rfl rfl, z_pre hZ hP hD [0, 1] rfl (by decide)⟩ rfl rfl hl.1 rfl (lv_room (Nat.le_of_ble_eq_true rfl)) dX11_mendOf_13 ⟨Nat.le_of_ble_eq_true rfl, Nat.le_of_ble_eq_true rfl⟩) hP hD hS hA [0, 1] [2] rfl rfl (by decide) (by decide) (fun _ H locs hP hD hS => ?_)
  have hP : va_P (dC, dI) vwCl [(h1, .inr (7, [.ref h8, .ref h9, .ref h10, .int 0, .ref h11, .ref h12, .ref h13, .ref h14, .int 0, .int 0, .int 10, .ref h15])), (h0, .inr (11, [.ref h1, .ref h3, .int 0, .ref h4, .ref h5, .ref h6, .ref h7, .int 0, .ref h2])), (h2, .inl (cI, 7, .inl (upd (fun _ => 0) 1 1)))] H := hP
  have hD : va_D A [(h1, .inr (7, [.ref h8, .ref h9, .ref h10, .int 0, .ref h11, .ref h12, .ref h13, .ref h14, .int 0, .int 0, .int 10, .ref h15])), (h0, .inr (11, [.ref h1, .ref h3, .int 0, .ref h4, .ref h5, .ref h6, .ref h7, .int 0, .ref h2])), (h2, .inl (cI, 7, .inl (upd (fun _ => 0) 1 1)))] := hD
  have hP9 := hP.sub (ws' := []) [] rfl
  have hD9 := hD.sub (ws' := []) [] (by decide) rfl
  exact W.iret (v := (-1)) hx hb hr (fun t ht hW => ⟨⟨(-1), (fun k => [].getD k 0), rfl, rfl, by rw [ht]; exact hP9, hD9⟩, hS.F ht⟩) hS.2.2 dX11_mendOf_16
set_option maxHeartbeats 4000000 in
set_option maxRecDepth 100000 in
theorem kX11_prompted (l : Launch) (dC : Nat → ClassId) (dI : Nat → Nat → Nat) (cI cQ : ClassId) (h0 h1 h2 h3 h4 h5 h6 h7 h8 h9 h10 h11 h12 h13 h14 h15 : Nat) (sz : Nat) : Met l yX11_prompted vsX11_prompted ({ frames := 1, cells := 0, slots := 0, locals := 22 }) (va_Pc [.ref h0] (zB dC dI cI cQ [(h0, .inr (11, [.ref h1, .ref h3, .int 0, .ref h4, .ref h5, .ref h6, .ref h7, .int 0, .ref h2])), (h1, .inr (7, [.ref h8, .ref h9, .ref h10, .int 0, .ref h11, .ref h12, .ref h13, .ref h14, .int 0, .int 0, .int 10, .ref h15])), (h2, .inl (cI, 7, .inl (fun _ => 0)))] sz)) (zQi dC dI (va_A [(h0, .inr (11, [.ref h1, .ref h3, .int 0, .ref h4, .ref h5, .ref h6, .ref h7, .int 0, .ref h2])), (h1, .inr (7, [.ref h8, .ref h9, .ref h10, .int 0, .ref h11, .ref h12, .ref h13, .ref h14, .int 0, .int 0, .int 10, .ref h15])), (h2, .inl (cI, 7, .inl (fun _ => 0)))] sz) (fun ad => []) (-3)) 0 0 (va_A [(h0, .inr (11, [.ref h1, .ref h3, .int 0, .ref h4, .ref h5, .ref h6, .ref h7, .int 0, .ref h2])), (h1, .inr (7, [.ref h8, .ref h9, .ref h10, .int 0, .ref h11, .ref h12, .ref h13, .ref h14, .int 0, .int 0, .int 10, .ref h15])), (h2, .inl (cI, 7, .inl (fun _ => 0)))] sz) := by
  refine Met.ofW (cc := cX11_prompted) (maxL := 1) (ret := (some .int)) (by decide) rfl ?_
  intro p e s m args below meth c s₁ B hml hv
  obtain ⟨rfl, hsz, hP, hZ, hD0⟩ := hv
  obtain ⟨hK, hAO, hN⟩ := id hZ
  have hx := B.exec
  have hb := B.bytes
  have hr := B.returns
  have hts := atoms_spec (ws := vsX11_prompted) B.pre
  have hown : s.vm.findClass RX11 = some m.cls := findClass_of_methodNamed B.named
  have hlocks := B.notSynchronized
  subst hsz
  have hD := hD0.self (sz := s.heap.size)
  generalize hAe : va_A [(h0, .inr (11, [.ref h1, .ref h3, .int 0, .ref h4, .ref h5, .ref h6, .ref h7, .int 0, .ref h2])), (h1, .inr (7, [.ref h8, .ref h9, .ref h10, .int 0, .ref h11, .ref h12, .ref h13, .ref h14, .int 0, .int 0, .int 10, .ref h15])), (h2, .inl (cI, 7, .inl (fun _ => 0)))] s.heap.size = A at hD ⊢
  have hA : ∀ q : Nat, s.heap.size ≤ q → A q := fun q h => by rw [← hAe]; exact Or.inr h
  have hS : va_S A s.heap s.heap [] := va_S.rf
  have hP : va_P (dC, dI) vwCl [(h0, .inr (11, [.ref h1, .ref h3, .int 0, .ref h4, .ref h5, .ref h6, .ref h7, .int 0, .ref h2])), (h1, .inr (7, [.ref h8, .ref h9, .ref h10, .int 0, .ref h11, .ref h12, .ref h13, .ref h14, .int 0, .int 0, .int 10, .ref h15])), (h2, .inl (cI, 7, .inl (fun _ => 0)))] s.heap := hP
  have hl := lv_entry ([.ref h0]) (n := 1) (Nat.le_of_ble_eq_true rfl)
  rw [lg_entry_eq]
  generalize (lg_sl ([.ref h0]) ++ List.replicate (1 - (lg_sl ([.ref h0])).length) Slot.unset).toArray = ls at hl ⊢
  have hl : lv_has ls 1 [(0, .ref h0)] := hl
  refine lv_aload_n hx hb dX11_prompted_0 rfl (lv_at hl 0 rfl) ?_
  refine va_get (D := (dC, dI)) (ci := 11) (v := .ref h1) (C := RX11) (T := TX11) (N := 9) hx hb hts in_X11_prompted_X11 hown hK hP 0 rfl rfl 0 (by decide) (hts (.fieldLink RX11 10 "EachOnHisCue" "play" "LEachOnHisCue$Play;") (by decide +kernel)) (fun _ h9 => h9) rfl dX11_prompted_1 ?_
  refine va_get (D := (dC, dI)) (ci := 7) (v := .int 0) (C := RX7) (T := TX7) (N := 12) hx hb hts in_X11_prompted_X7 hown hK hP 1 rfl rfl 9 (by decide) (hts (.fieldLink RX11 137 "EachOnHisCue$Play" "lines" "I") (by decide +kernel)) (fun _ h9 => h9) rfl dX11_prompted_4 ?_
  refine lv_if_ne (tgt := 17) hx hb dX11_prompted_7 (by decide) (fun hc => ?_) (fun hc => ?_)
  · exact absurd hc (by decide)
  refine lv_aload_n hx hb dX11_prompted_10 rfl (lv_at hl 0 rfl) ?_
  refine lv_bipush (v := (-3)) hx hb dX11_prompted_11 (by decide) ?_
  refine z_calli (wc := [(h0, .inr (11, [.ref h1, .ref h3, .int 0, .ref h4, .ref h5, .ref h6, .ref h7, .int 0, .ref h2])), (h2, .inl (cI, 7, .inl (fun _ => 0)))]) (wr := [(h1, .inr (7, [.ref h8, .ref h9, .ref h10, .int 0, .ref h11, .ref h12, .ref h13, .ref h14, .int 0, .int 0, .int 10, .ref h15]))]) (w1 := (fun _ => [(h0, .inr (11, [.ref h1, .ref h3, .int 0, .ref h4, .ref h5, .ref h6, .ref h7, .int 0, .ref h2])), (h2, .inl (cI, 7, .inl (upd (fun _ => 0) 3 1)))])) (va_runV (As := [.int (-3)]) (rest := []) ⟨hx, hb, hml, hown, hts⟩ (kX11_refuse_3 l dC dI cI cQ h0 h2 h1 h3 h4 h5 h6 h7 s.heap.size) (cwV 1 hts gv_X11_prompted_X11_refuse_53 rfl rfl rfl (by decide +kernel) ⟨Nat.le_of_ble_eq_true rfl, Nat.le_of_ble_eq_true rfl⟩) ⟨z_blind, va_recv hK hP (ci := 11) (q0 := 0) rfl rfl, z_pre hZ hP hD [0, 2] rfl (by decide)⟩ rfl rfl hl.1 rfl (lv_room (Nat.le_of_ble_eq_true rfl)) dX11_prompted_13 ⟨Nat.le_of_ble_eq_true rfl, Nat.le_of_ble_eq_true rfl⟩) hP hD hS hA [0, 2] [1] rfl rfl (by decide) (by decide) (fun _ H locs hP hD hS => ?_)
  have hP : va_P (dC, dI) vwCl [(h1, .inr (7, [.ref h8, .ref h9, .ref h10, .int 0, .ref h11, .ref h12, .ref h13, .ref h14, .int 0, .int 0, .int 10, .ref h15])), (h0, .inr (11, [.ref h1, .ref h3, .int 0, .ref h4, .ref h5, .ref h6, .ref h7, .int 0, .ref h2])), (h2, .inl (cI, 7, .inl (upd (fun _ => 0) 3 1)))] H := hP
  have hD : va_D A [(h1, .inr (7, [.ref h8, .ref h9, .ref h10, .int 0, .ref h11, .ref h12, .ref h13, .ref h14, .int 0, .int 0, .int 10, .ref h15])), (h0, .inr (11, [.ref h1, .ref h3, .int 0, .ref h4, .ref h5, .ref h6, .ref h7, .int 0, .ref h2])), (h2, .inl (cI, 7, .inl (upd (fun _ => 0) 3 1)))] := hD
  have hP9 := hP.sub (ws' := []) [] rfl
  have hD9 := hD.sub (ws' := []) [] (by decide) rfl
  exact W.iret (v := (-3)) hx hb hr (fun t ht hW => ⟨⟨(-3), (fun k => [].getD k 0), rfl, rfl, by rw [ht]; exact hP9, hD9⟩, hS.F ht⟩) hS.2.2 dX11_prompted_16
set_option maxHeartbeats 4000000 in
set_option maxRecDepth 100000 in
theorem kX11_home (l : Launch) (dC : Nat → ClassId) (dI : Nat → Nat → Nat) (cI cQ : ClassId) (h0 h1 h2 h3 h4 h5 h6 h7 : Nat) (p0 : Int32) (hp0l : -2147483648 ≤ p0.toInt) (hp0h : p0.toInt ≤ -1) (sz : Nat) : Met l yX11_home vsX11_home ({ frames := 1, cells := 0, slots := 0, locals := 22 }) (va_Pc [.ref h0, .int p0] (zB dC dI cI cQ [(h0, .inr (11, [.ref h2, .ref h3, .int 0, .ref h4, .ref h5, .ref h6, .ref h7, .int 0, .ref h1])), (h1, .inl (cI, 7, .inl (fun _ => 0)))] sz)) (zQl dC dI (va_A [(h0, .inr (11, [.ref h2, .ref h3, .int 0, .ref h4, .ref h5, .ref h6, .ref h7, .int 0, .ref h1])), (h1, .inl (cI, 7, .inl (fun _ => 0)))] sz) (fun ad => []) 4000000000000000002) 0 0 (va_A [(h0, .inr (11, [.ref h2, .ref h3, .int 0, .ref h4, .ref h5, .ref h6, .ref h7, .int 0, .ref h1])), (h1, .inl (cI, 7, .inl (fun _ => 0)))] sz) := by
  refine Met.ofW (cc := cX11_home) (maxL := 4) (ret := (some .long)) (by decide) rfl ?_
  intro p e s m args below meth c s₁ B hml hv
  obtain ⟨rfl, hsz, hP, hZ, hD0⟩ := hv
  obtain ⟨hK, hAO, hN⟩ := id hZ
  have hx := B.exec
  have hb := B.bytes
  have hr := B.returns
  have hts := atoms_spec (ws := vsX11_home) B.pre
  have hown : s.vm.findClass RX11 = some m.cls := findClass_of_methodNamed B.named
  have hlocks := B.notSynchronized
  subst hsz
  have hD := hD0.self (sz := s.heap.size)
  generalize hAe : va_A [(h0, .inr (11, [.ref h2, .ref h3, .int 0, .ref h4, .ref h5, .ref h6, .ref h7, .int 0, .ref h1])), (h1, .inl (cI, 7, .inl (fun _ => 0)))] s.heap.size = A at hD ⊢
  have hA : ∀ q : Nat, s.heap.size ≤ q → A q := fun q h => by rw [← hAe]; exact Or.inr h
  have hS : va_S A s.heap s.heap [] := va_S.rf
  have hP : va_P (dC, dI) vwCl [(h0, .inr (11, [.ref h2, .ref h3, .int 0, .ref h4, .ref h5, .ref h6, .ref h7, .int 0, .ref h1])), (h1, .inl (cI, 7, .inl (fun _ => 0)))] s.heap := hP
  have hl := lv_entry ([.ref h0, .int p0]) (n := 4) (Nat.le_of_ble_eq_true rfl)
  rw [lg_entry_eq]
  generalize (lg_sl ([.ref h0, .int p0]) ++ List.replicate (4 - (lg_sl ([.ref h0, .int p0])).length) Slot.unset).toArray = ls at hl ⊢
  have hl : lv_has ls 4 [(0, .ref h0), (1, .int p0)] := hl
  refine lv_iload_n hx hb dX11_home_0 rfl (lv_at hl 1 rfl) ?_
  refine lv_if_lt (tgt := 9) hx hb dX11_home_1 (by decide) (fun hc => ?_) (fun hc => ?_)
  rotate_left; exact absurd ((fa_lt _ _).mpr (by rw [show (0 : Int32).toInt = 0 from by decide]; omega)) hc
  refine lv_ldc2 (own := RX11) (v := 4000000000000000000) hx hb hown (hts (.constantLong RX11 194 (4000000000000000000)) (by decide +kernel)) dX11_home_9 ?_
  refine lv_aload_n hx hb dX11_home_12 rfl (lv_at hl 0 rfl) ?_
  refine lv_bipush (v := (-2)) hx hb dX11_home_13 (by decide) ?_
  refine z_calli (wc := [(h0, .inr (11, [.ref h2, .ref h3, .int 0, .ref h4, .ref h5, .ref h6, .ref h7, .int 0, .ref h1])), (h1, .inl (cI, 7, .inl (fun _ => 0)))]) (wr := []) (w1 := (fun _ => [(h0, .inr (11, [.ref h2, .ref h3, .int 0, .ref h4, .ref h5, .ref h6, .ref h7, .int 0, .ref h1])), (h1, .inl (cI, 7, .inl (upd (fun _ => 0) 2 1)))])) (va_runV (As := [.int (-2)]) (rest := [.long 4000000000000000000]) ⟨hx, hb, hml, hown, hts⟩ (kX11_refuse_4 l dC dI cI cQ h0 h1 h2 h3 h4 h5 h6 h7 s.heap.size) (cwV 1 hts gv_X11_home_X11_refuse_53 rfl rfl rfl (by decide +kernel) ⟨Nat.le_of_ble_eq_true rfl, Nat.le_of_ble_eq_true rfl⟩) ⟨z_blind, va_recv hK hP (ci := 11) (q0 := 0) rfl rfl, z_pre hZ hP hD [0, 1] rfl (by decide)⟩ rfl rfl hl.1 rfl (lv_room (Nat.le_of_ble_eq_true rfl)) dX11_home_15 ⟨Nat.le_of_ble_eq_true rfl, Nat.le_of_ble_eq_true rfl⟩) hP hD hS hA [0, 1] [] rfl rfl (by decide) (by decide) (fun _ H locs hP hD hS => ?_)
  have hP : va_P (dC, dI) vwCl [(h0, .inr (11, [.ref h2, .ref h3, .int 0, .ref h4, .ref h5, .ref h6, .ref h7, .int 0, .ref h1])), (h1, .inl (cI, 7, .inl (upd (fun _ => 0) 2 1)))] H := hP
  have hD : va_D A [(h0, .inr (11, [.ref h2, .ref h3, .int 0, .ref h4, .ref h5, .ref h6, .ref h7, .int 0, .ref h1])), (h1, .inl (cI, 7, .inl (upd (fun _ => 0) 2 1)))] := hD
  refine lv_i2l (v := (-2)) hx hb dX11_home_18 (by decide) ?_
  refine lv_lsub hx hb dX11_home_19 ?_
  refine lv_topl (fun y2 ey2 => ?_)
  obtain rfl : y2 = 4000000000000000002 := ey2.trans (by decide)
  have hP9 := hP.sub (ws' := []) [] rfl
  have hD9 := hD.sub (ws' := []) [] (by decide) rfl
  exact W.lret (v := 4000000000000000002) hx hb hr (fun t ht hW => ⟨⟨4000000000000000002, (fun k => [].getD k 0), rfl, rfl, by rw [ht]; exact hP9, hD9⟩, hS.F ht⟩) hS.2.2 dX11_home_20
set_option maxHeartbeats 4000000 in
set_option maxRecDepth 100000 in
theorem kX11_home_1 (l : Launch) (dC : Nat → ClassId) (dI : Nat → Nat → Nat) (cI cQ : ClassId) (h0 h1 h2 h3 h4 h5 h6 h7 h8 h9 h10 h11 h12 h13 h14 h15 : Nat) (p0 : Int32) (hp0l : 0 ≤ p0.toInt) (hp0h : p0.toInt ≤ 1) (sz : Nat) : Met l yX11_home vsX11_home ({ frames := 1, cells := 0, slots := 0, locals := 22 }) (va_Pc [.ref h0, .int p0] (zB dC dI cI cQ [(h0, .inr (11, [.ref h1, .ref h3, .int 0, .ref h4, .ref h5, .ref h6, .ref h7, .int 0, .ref h2])), (h1, .inr (7, [.ref h8, .ref h9, .ref h10, .int 0, .ref h11, .ref h12, .ref h13, .ref h14, .int 0, .int 0, .int 10, .ref h15])), (h2, .inl (cI, 7, .inl (fun _ => 0)))] sz)) (zQl dC dI (va_A [(h0, .inr (11, [.ref h1, .ref h3, .int 0, .ref h4, .ref h5, .ref h6, .ref h7, .int 0, .ref h2])), (h1, .inr (7, [.ref h8, .ref h9, .ref h10, .int 0, .ref h11, .ref h12, .ref h13, .ref h14, .int 0, .int 0, .int 10, .ref h15])), (h2, .inl (cI, 7, .inl (fun _ => 0)))] sz) (fun ad => []) 4000000000000000003) 0 0 (va_A [(h0, .inr (11, [.ref h1, .ref h3, .int 0, .ref h4, .ref h5, .ref h6, .ref h7, .int 0, .ref h2])), (h1, .inr (7, [.ref h8, .ref h9, .ref h10, .int 0, .ref h11, .ref h12, .ref h13, .ref h14, .int 0, .int 0, .int 10, .ref h15])), (h2, .inl (cI, 7, .inl (fun _ => 0)))] sz) := by
  refine Met.ofW (cc := cX11_home) (maxL := 4) (ret := (some .long)) (by decide) rfl ?_
  intro p e s m args below meth c s₁ B hml hv
  obtain ⟨rfl, hsz, hP, hZ, hD0⟩ := hv
  obtain ⟨hK, hAO, hN⟩ := id hZ
  have hx := B.exec
  have hb := B.bytes
  have hr := B.returns
  have hts := atoms_spec (ws := vsX11_home) B.pre
  have hown : s.vm.findClass RX11 = some m.cls := findClass_of_methodNamed B.named
  have hlocks := B.notSynchronized
  subst hsz
  have hD := hD0.self (sz := s.heap.size)
  generalize hAe : va_A [(h0, .inr (11, [.ref h1, .ref h3, .int 0, .ref h4, .ref h5, .ref h6, .ref h7, .int 0, .ref h2])), (h1, .inr (7, [.ref h8, .ref h9, .ref h10, .int 0, .ref h11, .ref h12, .ref h13, .ref h14, .int 0, .int 0, .int 10, .ref h15])), (h2, .inl (cI, 7, .inl (fun _ => 0)))] s.heap.size = A at hD ⊢
  have hA : ∀ q : Nat, s.heap.size ≤ q → A q := fun q h => by rw [← hAe]; exact Or.inr h
  have hS : va_S A s.heap s.heap [] := va_S.rf
  have hP : va_P (dC, dI) vwCl [(h0, .inr (11, [.ref h1, .ref h3, .int 0, .ref h4, .ref h5, .ref h6, .ref h7, .int 0, .ref h2])), (h1, .inr (7, [.ref h8, .ref h9, .ref h10, .int 0, .ref h11, .ref h12, .ref h13, .ref h14, .int 0, .int 0, .int 10, .ref h15])), (h2, .inl (cI, 7, .inl (fun _ => 0)))] s.heap := hP
  have hl := lv_entry ([.ref h0, .int p0]) (n := 4) (Nat.le_of_ble_eq_true rfl)
  rw [lg_entry_eq]
  generalize (lg_sl ([.ref h0, .int p0]) ++ List.replicate (4 - (lg_sl ([.ref h0, .int p0])).length) Slot.unset).toArray = ls at hl ⊢
  have hl : lv_has ls 4 [(0, .ref h0), (1, .int p0)] := hl
  refine lv_iload_n hx hb dX11_home_0 rfl (lv_at hl 1 rfl) ?_
  refine lv_if_lt (tgt := 9) hx hb dX11_home_1 (by decide) (fun hc => ?_) (fun hc => ?_)
  · exact absurd ((fa_lt _ _).mp hc) (by rw [show (0 : Int32).toInt = 0 from by decide]; omega)
  refine lv_iload_n hx hb dX11_home_4 rfl (lv_at hl 1 rfl) ?_
  refine lv_iconst (v := 1) hx hb dX11_home_5 (by decide) ?_
  refine lv_icmp_le (tgt := 21) hx hb dX11_home_6 (by decide) (fun hc => ?_) (fun hc => ?_)
  rotate_left; exact absurd ((fa_le _ _).mpr (by rw [show (1 : Int32).toInt = 1 from by decide]; omega)) hc
  refine lv_aload_n hx hb dX11_home_21 rfl (lv_at hl 0 rfl) ?_
  refine va_get (D := (dC, dI)) (ci := 11) (v := .ref h1) (C := RX11) (T := TX11) (N := 9) hx hb hts in_X11_home_X11 hown hK hP 0 rfl rfl 0 (by decide) (hts (.fieldLink RX11 10 "EachOnHisCue" "play" "LEachOnHisCue$Play;") (by decide +kernel)) (fun _ h9 => h9) rfl dX11_home_22 ?_
  refine va_get (D := (dC, dI)) (ci := 7) (v := .int 0) (C := RX7) (T := TX7) (N := 12) hx hb hts in_X11_home_X7 hown hK hP 1 rfl rfl 9 (by decide) (hts (.fieldLink RX11 137 "EachOnHisCue$Play" "lines" "I") (by decide +kernel)) (fun _ h9 => h9) rfl dX11_home_25 ?_
  refine lv_if_ne (tgt := 43) hx hb dX11_home_28 (by decide) (fun hc => ?_) (fun hc => ?_)
  · exact absurd hc (by decide)
  refine lv_ldc2 (own := RX11) (v := 4000000000000000000) hx hb hown (hts (.constantLong RX11 194 (4000000000000000000)) (by decide +kernel)) dX11_home_31 ?_
  refine lv_aload_n hx hb dX11_home_34 rfl (lv_at hl 0 rfl) ?_
  refine lv_bipush (v := (-3)) hx hb dX11_home_35 (by decide) ?_
  refine z_calli (wc := [(h0, .inr (11, [.ref h1, .ref h3, .int 0, .ref h4, .ref h5, .ref h6, .ref h7, .int 0, .ref h2])), (h2, .inl (cI, 7, .inl (fun _ => 0)))]) (wr := [(h1, .inr (7, [.ref h8, .ref h9, .ref h10, .int 0, .ref h11, .ref h12, .ref h13, .ref h14, .int 0, .int 0, .int 10, .ref h15]))]) (w1 := (fun _ => [(h0, .inr (11, [.ref h1, .ref h3, .int 0, .ref h4, .ref h5, .ref h6, .ref h7, .int 0, .ref h2])), (h2, .inl (cI, 7, .inl (upd (fun _ => 0) 3 1)))])) (va_runV (As := [.int (-3)]) (rest := [.long 4000000000000000000]) ⟨hx, hb, hml, hown, hts⟩ (kX11_refuse_3 l dC dI cI cQ h0 h2 h1 h3 h4 h5 h6 h7 s.heap.size) (cwV 1 hts gv_X11_home_X11_refuse_53 rfl rfl rfl (by decide +kernel) ⟨Nat.le_of_ble_eq_true rfl, Nat.le_of_ble_eq_true rfl⟩) ⟨z_blind, va_recv hK hP (ci := 11) (q0 := 0) rfl rfl, z_pre hZ hP hD [0, 2] rfl (by decide)⟩ rfl rfl hl.1 rfl (lv_room (Nat.le_of_ble_eq_true rfl)) dX11_home_37 ⟨Nat.le_of_ble_eq_true rfl, Nat.le_of_ble_eq_true rfl⟩) hP hD hS hA [0, 2] [1] rfl rfl (by decide) (by decide) (fun _ H locs hP hD hS => ?_)
  have hP : va_P (dC, dI) vwCl [(h1, .inr (7, [.ref h8, .ref h9, .ref h10, .int 0, .ref h11, .ref h12, .ref h13, .ref h14, .int 0, .int 0, .int 10, .ref h15])), (h0, .inr (11, [.ref h1, .ref h3, .int 0, .ref h4, .ref h5, .ref h6, .ref h7, .int 0, .ref h2])), (h2, .inl (cI, 7, .inl (upd (fun _ => 0) 3 1)))] H := hP
  have hD : va_D A [(h1, .inr (7, [.ref h8, .ref h9, .ref h10, .int 0, .ref h11, .ref h12, .ref h13, .ref h14, .int 0, .int 0, .int 10, .ref h15])), (h0, .inr (11, [.ref h1, .ref h3, .int 0, .ref h4, .ref h5, .ref h6, .ref h7, .int 0, .ref h2])), (h2, .inl (cI, 7, .inl (upd (fun _ => 0) 3 1)))] := hD
  refine lv_i2l (v := (-3)) hx hb dX11_home_40 (by decide) ?_
  refine lv_lsub hx hb dX11_home_41 ?_
  refine lv_topl (fun y2 ey2 => ?_)
  obtain rfl : y2 = 4000000000000000003 := ey2.trans (by decide)
  have hP9 := hP.sub (ws' := []) [] rfl
  have hD9 := hD.sub (ws' := []) [] (by decide) rfl
  exact W.lret (v := 4000000000000000003) hx hb hr (fun t ht hW => ⟨⟨4000000000000000003, (fun k => [].getD k 0), rfl, rfl, by rw [ht]; exact hP9, hD9⟩, hS.F ht⟩) hS.2.2 dX11_home_42
set_option maxHeartbeats 4000000 in
set_option maxRecDepth 100000 in
theorem kX11_home_2 (l : Launch) (dC : Nat → ClassId) (dI : Nat → Nat → Nat) (cI cQ : ClassId) (h0 h1 h2 h3 h4 h5 h6 h7 : Nat) (p0 : Int32) (hp0l : 2 ≤ p0.toInt) (hp0h : p0.toInt ≤ 2147483647) (sz : Nat) : Met l yX11_home vsX11_home ({ frames := 1, cells := 0, slots := 0, locals := 22 }) (va_Pc [.ref h0, .int p0] (zB dC dI cI cQ [(h0, .inr (11, [.ref h2, .ref h3, .int 0, .ref h4, .ref h5, .ref h6, .ref h7, .int 0, .ref h1])), (h1, .inl (cI, 7, .inl (fun _ => 0)))] sz)) (zQl dC dI (va_A [(h0, .inr (11, [.ref h2, .ref h3, .int 0, .ref h4, .ref h5, .ref h6, .ref h7, .int 0, .ref h1])), (h1, .inl (cI, 7, .inl (fun _ => 0)))] sz) (fun ad => []) 4000000000000000002) 0 0 (va_A [(h0, .inr (11, [.ref h2, .ref h3, .int 0, .ref h4, .ref h5, .ref h6, .ref h7, .int 0, .ref h1])), (h1, .inl (cI, 7, .inl (fun _ => 0)))] sz) := by
  refine Met.ofW (cc := cX11_home) (maxL := 4) (ret := (some .long)) (by decide) rfl ?_
  intro p e s m args below meth c s₁ B hml hv
  obtain ⟨rfl, hsz, hP, hZ, hD0⟩ := hv
  obtain ⟨hK, hAO, hN⟩ := id hZ
  have hx := B.exec
  have hb := B.bytes
  have hr := B.returns
  have hts := atoms_spec (ws := vsX11_home) B.pre
  have hown : s.vm.findClass RX11 = some m.cls := findClass_of_methodNamed B.named
  have hlocks := B.notSynchronized
  subst hsz
  have hD := hD0.self (sz := s.heap.size)
  generalize hAe : va_A [(h0, .inr (11, [.ref h2, .ref h3, .int 0, .ref h4, .ref h5, .ref h6, .ref h7, .int 0, .ref h1])), (h1, .inl (cI, 7, .inl (fun _ => 0)))] s.heap.size = A at hD ⊢
  have hA : ∀ q : Nat, s.heap.size ≤ q → A q := fun q h => by rw [← hAe]; exact Or.inr h
  have hS : va_S A s.heap s.heap [] := va_S.rf
  have hP : va_P (dC, dI) vwCl [(h0, .inr (11, [.ref h2, .ref h3, .int 0, .ref h4, .ref h5, .ref h6, .ref h7, .int 0, .ref h1])), (h1, .inl (cI, 7, .inl (fun _ => 0)))] s.heap := hP
  have hl := lv_entry ([.ref h0, .int p0]) (n := 4) (Nat.le_of_ble_eq_true rfl)
  rw [lg_entry_eq]
  generalize (lg_sl ([.ref h0, .int p0]) ++ List.replicate (4 - (lg_sl ([.ref h0, .int p0])).length) Slot.unset).toArray = ls at hl ⊢
  have hl : lv_has ls 4 [(0, .ref h0), (1, .int p0)] := hl
  refine lv_iload_n hx hb dX11_home_0 rfl (lv_at hl 1 rfl) ?_
  refine lv_if_lt (tgt := 9) hx hb dX11_home_1 (by decide) (fun hc => ?_) (fun hc => ?_)
  · exact absurd ((fa_lt _ _).mp hc) (by rw [show (0 : Int32).toInt = 0 from by decide]; omega)
  refine lv_iload_n hx hb dX11_home_4 rfl (lv_at hl 1 rfl) ?_
  refine lv_iconst (v := 1) hx hb dX11_home_5 (by decide) ?_
  refine lv_icmp_le (tgt := 21) hx hb dX11_home_6 (by decide) (fun hc => ?_) (fun hc => ?_)
  · exact absurd ((fa_le _ _).mp hc) (by rw [show (1 : Int32).toInt = 1 from by decide]; omega)
  refine lv_ldc2 (own := RX11) (v := 4000000000000000000) hx hb hown (hts (.constantLong RX11 194 (4000000000000000000)) (by decide +kernel)) dX11_home_9 ?_
  refine lv_aload_n hx hb dX11_home_12 rfl (lv_at hl 0 rfl) ?_
  refine lv_bipush (v := (-2)) hx hb dX11_home_13 (by decide) ?_
  refine z_calli (wc := [(h0, .inr (11, [.ref h2, .ref h3, .int 0, .ref h4, .ref h5, .ref h6, .ref h7, .int 0, .ref h1])), (h1, .inl (cI, 7, .inl (fun _ => 0)))]) (wr := []) (w1 := (fun _ => [(h0, .inr (11, [.ref h2, .ref h3, .int 0, .ref h4, .ref h5, .ref h6, .ref h7, .int 0, .ref h1])), (h1, .inl (cI, 7, .inl (upd (fun _ => 0) 2 1)))])) (va_runV (As := [.int (-2)]) (rest := [.long 4000000000000000000]) ⟨hx, hb, hml, hown, hts⟩ (kX11_refuse_4 l dC dI cI cQ h0 h1 h2 h3 h4 h5 h6 h7 s.heap.size) (cwV 1 hts gv_X11_home_X11_refuse_53 rfl rfl rfl (by decide +kernel) ⟨Nat.le_of_ble_eq_true rfl, Nat.le_of_ble_eq_true rfl⟩) ⟨z_blind, va_recv hK hP (ci := 11) (q0 := 0) rfl rfl, z_pre hZ hP hD [0, 1] rfl (by decide)⟩ rfl rfl hl.1 rfl (lv_room (Nat.le_of_ble_eq_true rfl)) dX11_home_15 ⟨Nat.le_of_ble_eq_true rfl, Nat.le_of_ble_eq_true rfl⟩) hP hD hS hA [0, 1] [] rfl rfl (by decide) (by decide) (fun _ H locs hP hD hS => ?_)
  have hP : va_P (dC, dI) vwCl [(h0, .inr (11, [.ref h2, .ref h3, .int 0, .ref h4, .ref h5, .ref h6, .ref h7, .int 0, .ref h1])), (h1, .inl (cI, 7, .inl (upd (fun _ => 0) 2 1)))] H := hP
  have hD : va_D A [(h0, .inr (11, [.ref h2, .ref h3, .int 0, .ref h4, .ref h5, .ref h6, .ref h7, .int 0, .ref h1])), (h1, .inl (cI, 7, .inl (upd (fun _ => 0) 2 1)))] := hD
  refine lv_i2l (v := (-2)) hx hb dX11_home_18 (by decide) ?_
  refine lv_lsub hx hb dX11_home_19 ?_
  refine lv_topl (fun y2 ey2 => ?_)
  obtain rfl : y2 = 4000000000000000002 := ey2.trans (by decide)
  have hP9 := hP.sub (ws' := []) [] rfl
  have hD9 := hD.sub (ws' := []) [] (by decide) rfl
  exact W.lret (v := 4000000000000000002) hx hb hr (fun t ht hW => ⟨⟨4000000000000000002, (fun k => [].getD k 0), rfl, rfl, by rw [ht]; exact hP9, hD9⟩, hS.F ht⟩) hS.2.2 dX11_home_20
set_option maxHeartbeats 4000000 in
set_option maxRecDepth 100000 in
theorem kX11_without (l : Launch) (dC : Nat → ClassId) (dI : Nat → Nat → Nat) (cI cQ : ClassId) (h0 h1 h2 h3 h4 h5 h6 h7 h8 h9 h10 h11 h12 h13 h14 h15 : Nat) (p0 : Int32) (hp0l : -2147483648 ≤ p0.toInt) (hp0h : p0.toInt ≤ -1) (sz : Nat) : Met l yX11_without vsX11_without ({ frames := 1, cells := 0, slots := 0, locals := 22 }) (va_Pc [.ref h0, .int p0] (zB dC dI cI cQ [(h0, .inr (11, [.ref h1, .ref h3, .int 0, .ref h4, .ref h5, .ref h6, .ref h7, .int 0, .ref h2])), (h1, .inr (7, [.ref h8, .ref h9, .ref h10, .int 0, .ref h11, .ref h12, .ref h13, .ref h14, .int 0, .int 0, .int 10, .ref h15])), (h2, .inl (cI, 7, .inl (fun _ => 0)))] sz)) (zQi dC dI (va_A [(h0, .inr (11, [.ref h1, .ref h3, .int 0, .ref h4, .ref h5, .ref h6, .ref h7, .int 0, .ref h2])), (h1, .inr (7, [.ref h8, .ref h9, .ref h10, .int 0, .ref h11, .ref h12, .ref h13, .ref h14, .int 0, .int 0, .int 10, .ref h15])), (h2, .inl (cI, 7, .inl (fun _ => 0)))] sz) (fun ad => []) (-1)) 0 0 (va_A [(h0, .inr (11, [.ref h1, .ref h3, .int 0, .ref h4, .ref h5, .ref h6, .ref h7, .int 0, .ref h2])), (h1, .inr (7, [.ref h8, .ref h9, .ref h10, .int 0, .ref h11, .ref h12, .ref h13, .ref h14, .int 0, .int 0, .int 10, .ref h15])), (h2, .inl (cI, 7, .inl (fun _ => 0)))] sz) := by
  refine Met.ofW (cc := cX11_without) (maxL := 2) (ret := (some .int)) (by decide) rfl ?_
  intro p e s m args below meth c s₁ B hml hv
  obtain ⟨rfl, hsz, hP, hZ, hD0⟩ := hv
  obtain ⟨hK, hAO, hN⟩ := id hZ
  have hx := B.exec
  have hb := B.bytes
  have hr := B.returns
  have hts := atoms_spec (ws := vsX11_without) B.pre
  have hown : s.vm.findClass RX11 = some m.cls := findClass_of_methodNamed B.named
  have hlocks := B.notSynchronized
  subst hsz
  have hD := hD0.self (sz := s.heap.size)
  generalize hAe : va_A [(h0, .inr (11, [.ref h1, .ref h3, .int 0, .ref h4, .ref h5, .ref h6, .ref h7, .int 0, .ref h2])), (h1, .inr (7, [.ref h8, .ref h9, .ref h10, .int 0, .ref h11, .ref h12, .ref h13, .ref h14, .int 0, .int 0, .int 10, .ref h15])), (h2, .inl (cI, 7, .inl (fun _ => 0)))] s.heap.size = A at hD ⊢
  have hA : ∀ q : Nat, s.heap.size ≤ q → A q := fun q h => by rw [← hAe]; exact Or.inr h
  have hS : va_S A s.heap s.heap [] := va_S.rf
  have hP : va_P (dC, dI) vwCl [(h0, .inr (11, [.ref h1, .ref h3, .int 0, .ref h4, .ref h5, .ref h6, .ref h7, .int 0, .ref h2])), (h1, .inr (7, [.ref h8, .ref h9, .ref h10, .int 0, .ref h11, .ref h12, .ref h13, .ref h14, .int 0, .int 0, .int 10, .ref h15])), (h2, .inl (cI, 7, .inl (fun _ => 0)))] s.heap := hP
  have hl := lv_entry ([.ref h0, .int p0]) (n := 2) (Nat.le_of_ble_eq_true rfl)
  rw [lg_entry_eq]
  generalize (lg_sl ([.ref h0, .int p0]) ++ List.replicate (2 - (lg_sl ([.ref h0, .int p0])).length) Slot.unset).toArray = ls at hl ⊢
  have hl : lv_has ls 2 [(0, .ref h0), (1, .int p0)] := hl
  refine lv_aload_n hx hb dX11_without_0 rfl (lv_at hl 0 rfl) ?_
  refine va_get (D := (dC, dI)) (ci := 11) (v := .ref h1) (C := RX11) (T := TX11) (N := 9) hx hb hts in_X11_without_X11 hown hK hP 0 rfl rfl 0 (by decide) (hts (.fieldLink RX11 10 "EachOnHisCue" "play" "LEachOnHisCue$Play;") (by decide +kernel)) (fun _ h9 => h9) rfl dX11_without_1 ?_
  refine lv_iload_n hx hb dX11_without_4 rfl (lv_at hl 1 rfl) ?_
  refine z_calli (wc := []) (wr := [(h0, .inr (11, [.ref h1, .ref h3, .int 0, .ref h4, .ref h5, .ref h6, .ref h7, .int 0, .ref h2])), (h1, .inr (7, [.ref h8, .ref h9, .ref h10, .int 0, .ref h11, .ref h12, .ref h13, .ref h14, .int 0, .int 0, .int 10, .ref h15])), (h2, .inl (cI, 7, .inl (fun _ => 0)))]) (w1 := (fun _ => [])) (va_runV (As := [.int p0]) (rest := []) ⟨hx, hb, hml, hown, hts⟩ (kX7_hasPlayer l dC dI cI cQ h1 p0 hp0l hp0h s.heap.size) (cwV 1 hts gv_X11_without_X7_hasPlayer_80 rfl rfl rfl (by decide +kernel) ⟨Nat.le_of_ble_eq_true rfl, Nat.le_of_ble_eq_true rfl⟩) ⟨z_blind, va_recv hK hP (ci := 7) (q0 := 1) rfl rfl, z_pre hZ hP hD [] rfl (by decide)⟩ rfl rfl hl.1 rfl (lv_room (Nat.le_of_ble_eq_true rfl)) dX11_without_5 ⟨Nat.le_of_ble_eq_true rfl, Nat.le_of_ble_eq_true rfl⟩) hP hD hS hA [] [0, 1, 2] rfl rfl (by decide) (by decide) (fun _ H locs hP hD hS => ?_)
  have hP : va_P (dC, dI) vwCl [(h0, .inr (11, [.ref h1, .ref h3, .int 0, .ref h4, .ref h5, .ref h6, .ref h7, .int 0, .ref h2])), (h1, .inr (7, [.ref h8, .ref h9, .ref h10, .int 0, .ref h11, .ref h12, .ref h13, .ref h14, .int 0, .int 0, .int 10, .ref h15])), (h2, .inl (cI, 7, .inl (fun _ => 0)))] H := hP
  have hD : va_D A [(h0, .inr (11, [.ref h1, .ref h3, .int 0, .ref h4, .ref h5, .ref h6, .ref h7, .int 0, .ref h2])), (h1, .inr (7, [.ref h8, .ref h9, .ref h10, .int 0, .ref h11, .ref h12, .ref h13, .ref h14, .int 0, .int 0, .int 10, .ref h15])), (h2, .inl (cI, 7, .inl (fun _ => 0)))] := hD
  refine lv_if_ne (tgt := 17) hx hb dX11_without_8 (by decide) (fun hc => ?_) (fun hc => ?_)
  · exact absurd hc (by decide)
  refine lv_aload_n hx hb dX11_without_11 rfl (lv_at hl 0 rfl) ?_
  refine lv_iconst (v := (-1)) hx hb dX11_without_12 (by decide) ?_
  refine z_calli (wc := [(h0, .inr (11, [.ref h1, .ref h3, .int 0, .ref h4, .ref h5, .ref h6, .ref h7, .int 0, .ref h2])), (h2, .inl (cI, 7, .inl (fun _ => 0)))]) (wr := [(h1, .inr (7, [.ref h8, .ref h9, .ref h10, .int 0, .ref h11, .ref h12, .ref h13, .ref h14, .int 0, .int 0, .int 10, .ref h15]))]) (w1 := (fun _ => [(h0, .inr (11, [.ref h1, .ref h3, .int 0, .ref h4, .ref h5, .ref h6, .ref h7, .int 0, .ref h2])), (h2, .inl (cI, 7, .inl (upd (fun _ => 0) 1 1)))])) (va_runV (As := [.int (-1)]) (rest := []) ⟨hx, hb, hml, hown, hts⟩ (kX11_refuse_2 l dC dI cI cQ h0 h2 h1 h3 h4 h5 h6 h7 H.size) (cwV 1 hts gv_X11_without_X11_refuse_53 rfl rfl rfl (by decide +kernel) ⟨Nat.le_of_ble_eq_true rfl, Nat.le_of_ble_eq_true rfl⟩) ⟨z_blind, va_recv hK hP (ci := 11) (q0 := 0) rfl rfl, z_pre hZ hP hD [0, 2] rfl (by decide)⟩ rfl rfl hl.1 rfl (lv_room (Nat.le_of_ble_eq_true rfl)) dX11_without_13 ⟨Nat.le_of_ble_eq_true rfl, Nat.le_of_ble_eq_true rfl⟩) hP hD hS hA [0, 2] [1] rfl rfl (by decide) (by decide) (fun _ H locs hP hD hS => ?_)
  have hP : va_P (dC, dI) vwCl [(h1, .inr (7, [.ref h8, .ref h9, .ref h10, .int 0, .ref h11, .ref h12, .ref h13, .ref h14, .int 0, .int 0, .int 10, .ref h15])), (h0, .inr (11, [.ref h1, .ref h3, .int 0, .ref h4, .ref h5, .ref h6, .ref h7, .int 0, .ref h2])), (h2, .inl (cI, 7, .inl (upd (fun _ => 0) 1 1)))] H := hP
  have hD : va_D A [(h1, .inr (7, [.ref h8, .ref h9, .ref h10, .int 0, .ref h11, .ref h12, .ref h13, .ref h14, .int 0, .int 0, .int 10, .ref h15])), (h0, .inr (11, [.ref h1, .ref h3, .int 0, .ref h4, .ref h5, .ref h6, .ref h7, .int 0, .ref h2])), (h2, .inl (cI, 7, .inl (upd (fun _ => 0) 1 1)))] := hD
  have hP9 := hP.sub (ws' := []) [] rfl
  have hD9 := hD.sub (ws' := []) [] (by decide) rfl
  exact W.iret (v := (-1)) hx hb hr (fun t ht hW => ⟨⟨(-1), (fun k => [].getD k 0), rfl, rfl, by rw [ht]; exact hP9, hD9⟩, hS.F ht⟩) hS.2.2 dX11_without_16
set_option maxHeartbeats 4000000 in
set_option maxRecDepth 100000 in
theorem kX11_without_1 (l : Launch) (dC : Nat → ClassId) (dI : Nat → Nat → Nat) (cI cQ : ClassId) (h0 h1 h2 h3 h4 h5 h6 h7 h8 h9 h10 h11 h12 h13 h14 h15 : Nat) (p0 : Int32) (hp0l : 0 ≤ p0.toInt) (hp0h : p0.toInt ≤ 2147483647) (sz : Nat) : Met l yX11_without vsX11_without ({ frames := 1, cells := 0, slots := 0, locals := 22 }) (va_Pc [.ref h0, .int p0] (zB dC dI cI cQ [(h0, .inr (11, [.ref h1, .ref h3, .int 0, .ref h4, .ref h5, .ref h6, .ref h7, .int 0, .ref h2])), (h1, .inr (7, [.ref h8, .ref h9, .ref h10, .int 0, .ref h11, .ref h12, .ref h13, .ref h14, .int 0, .int 0, .int 10, .ref h15])), (h2, .inl (cI, 7, .inl (fun _ => 0)))] sz)) (zQi dC dI (va_A [(h0, .inr (11, [.ref h1, .ref h3, .int 0, .ref h4, .ref h5, .ref h6, .ref h7, .int 0, .ref h2])), (h1, .inr (7, [.ref h8, .ref h9, .ref h10, .int 0, .ref h11, .ref h12, .ref h13, .ref h14, .int 0, .int 0, .int 10, .ref h15])), (h2, .inl (cI, 7, .inl (fun _ => 0)))] sz) (fun ad => []) (-1)) 0 0 (va_A [(h0, .inr (11, [.ref h1, .ref h3, .int 0, .ref h4, .ref h5, .ref h6, .ref h7, .int 0, .ref h2])), (h1, .inr (7, [.ref h8, .ref h9, .ref h10, .int 0, .ref h11, .ref h12, .ref h13, .ref h14, .int 0, .int 0, .int 10, .ref h15])), (h2, .inl (cI, 7, .inl (fun _ => 0)))] sz) := by
  refine Met.ofW (cc := cX11_without) (maxL := 2) (ret := (some .int)) (by decide) rfl ?_
  intro p e s m args below meth c s₁ B hml hv
  obtain ⟨rfl, hsz, hP, hZ, hD0⟩ := hv
  obtain ⟨hK, hAO, hN⟩ := id hZ
  have hx := B.exec
  have hb := B.bytes
  have hr := B.returns
  have hts := atoms_spec (ws := vsX11_without) B.pre
  have hown : s.vm.findClass RX11 = some m.cls := findClass_of_methodNamed B.named
  have hlocks := B.notSynchronized
  subst hsz
  have hD := hD0.self (sz := s.heap.size)
  generalize hAe : va_A [(h0, .inr (11, [.ref h1, .ref h3, .int 0, .ref h4, .ref h5, .ref h6, .ref h7, .int 0, .ref h2])), (h1, .inr (7, [.ref h8, .ref h9, .ref h10, .int 0, .ref h11, .ref h12, .ref h13, .ref h14, .int 0, .int 0, .int 10, .ref h15])), (h2, .inl (cI, 7, .inl (fun _ => 0)))] s.heap.size = A at hD ⊢
  have hA : ∀ q : Nat, s.heap.size ≤ q → A q := fun q h => by rw [← hAe]; exact Or.inr h
  have hS : va_S A s.heap s.heap [] := va_S.rf
  have hP : va_P (dC, dI) vwCl [(h0, .inr (11, [.ref h1, .ref h3, .int 0, .ref h4, .ref h5, .ref h6, .ref h7, .int 0, .ref h2])), (h1, .inr (7, [.ref h8, .ref h9, .ref h10, .int 0, .ref h11, .ref h12, .ref h13, .ref h14, .int 0, .int 0, .int 10, .ref h15])), (h2, .inl (cI, 7, .inl (fun _ => 0)))] s.heap := hP
  have hl := lv_entry ([.ref h0, .int p0]) (n := 2) (Nat.le_of_ble_eq_true rfl)
  rw [lg_entry_eq]
  generalize (lg_sl ([.ref h0, .int p0]) ++ List.replicate (2 - (lg_sl ([.ref h0, .int p0])).length) Slot.unset).toArray = ls at hl ⊢
  have hl : lv_has ls 2 [(0, .ref h0), (1, .int p0)] := hl
  refine lv_aload_n hx hb dX11_without_0 rfl (lv_at hl 0 rfl) ?_
  refine va_get (D := (dC, dI)) (ci := 11) (v := .ref h1) (C := RX11) (T := TX11) (N := 9) hx hb hts in_X11_without_X11 hown hK hP 0 rfl rfl 0 (by decide) (hts (.fieldLink RX11 10 "EachOnHisCue" "play" "LEachOnHisCue$Play;") (by decide +kernel)) (fun _ h9 => h9) rfl dX11_without_1 ?_
  refine lv_iload_n hx hb dX11_without_4 rfl (lv_at hl 1 rfl) ?_
  refine z_calli (wc := [(h1, .inr (7, [.ref h8, .ref h9, .ref h10, .int 0, .ref h11, .ref h12, .ref h13, .ref h14, .int 0, .int 0, .int 10, .ref h15]))]) (wr := [(h0, .inr (11, [.ref h1, .ref h3, .int 0, .ref h4, .ref h5, .ref h6, .ref h7, .int 0, .ref h2])), (h2, .inl (cI, 7, .inl (fun _ => 0)))]) (w1 := (fun _ => [(h1, .inr (7, [.ref h8, .ref h9, .ref h10, .int 0, .ref h11, .ref h12, .ref h13, .ref h14, .int 0, .int 0, .int 10, .ref h15]))])) (va_runV (As := [.int p0]) (rest := []) ⟨hx, hb, hml, hown, hts⟩ (kX7_hasPlayer_1 l dC dI cI cQ h1 h8 h9 h10 h11 h12 h13 h14 h15 p0 hp0l hp0h s.heap.size) (cwV 1 hts gv_X11_without_X7_hasPlayer_80 rfl rfl rfl (by decide +kernel) ⟨Nat.le_of_ble_eq_true rfl, Nat.le_of_ble_eq_true rfl⟩) ⟨z_blind, va_recv hK hP (ci := 7) (q0 := 1) rfl rfl, z_pre hZ hP hD [1] rfl (by decide)⟩ rfl rfl hl.1 rfl (lv_room (Nat.le_of_ble_eq_true rfl)) dX11_without_5 ⟨Nat.le_of_ble_eq_true rfl, Nat.le_of_ble_eq_true rfl⟩) hP hD hS hA [1] [0, 2] rfl rfl (by decide) (by decide) (fun _ H locs hP hD hS => ?_)
  have hP : va_P (dC, dI) vwCl [(h0, .inr (11, [.ref h1, .ref h3, .int 0, .ref h4, .ref h5, .ref h6, .ref h7, .int 0, .ref h2])), (h2, .inl (cI, 7, .inl (fun _ => 0))), (h1, .inr (7, [.ref h8, .ref h9, .ref h10, .int 0, .ref h11, .ref h12, .ref h13, .ref h14, .int 0, .int 0, .int 10, .ref h15]))] H := hP
  have hD : va_D A [(h0, .inr (11, [.ref h1, .ref h3, .int 0, .ref h4, .ref h5, .ref h6, .ref h7, .int 0, .ref h2])), (h2, .inl (cI, 7, .inl (fun _ => 0))), (h1, .inr (7, [.ref h8, .ref h9, .ref h10, .int 0, .ref h11, .ref h12, .ref h13, .ref h14, .int 0, .int 0, .int 10, .ref h15]))] := hD
  refine lv_if_ne (tgt := 17) hx hb dX11_without_8 (by decide) (fun hc => ?_) (fun hc => ?_)
  · exact absurd hc (by decide)
  refine lv_aload_n hx hb dX11_without_11 rfl (lv_at hl 0 rfl) ?_
  refine lv_iconst (v := (-1)) hx hb dX11_without_12 (by decide) ?_
  refine z_calli (wc := [(h0, .inr (11, [.ref h1, .ref h3, .int 0, .ref h4, .ref h5, .ref h6, .ref h7, .int 0, .ref h2])), (h2, .inl (cI, 7, .inl (fun _ => 0)))]) (wr := [(h1, .inr (7, [.ref h8, .ref h9, .ref h10, .int 0, .ref h11, .ref h12, .ref h13, .ref h14, .int 0, .int 0, .int 10, .ref h15]))]) (w1 := (fun _ => [(h0, .inr (11, [.ref h1, .ref h3, .int 0, .ref h4, .ref h5, .ref h6, .ref h7, .int 0, .ref h2])), (h2, .inl (cI, 7, .inl (upd (fun _ => 0) 1 1)))])) (va_runV (As := [.int (-1)]) (rest := []) ⟨hx, hb, hml, hown, hts⟩ (kX11_refuse_2 l dC dI cI cQ h0 h2 h1 h3 h4 h5 h6 h7 H.size) (cwV 1 hts gv_X11_without_X11_refuse_53 rfl rfl rfl (by decide +kernel) ⟨Nat.le_of_ble_eq_true rfl, Nat.le_of_ble_eq_true rfl⟩) ⟨z_blind, va_recv hK hP (ci := 11) (q0 := 0) rfl rfl, z_pre hZ hP hD [0, 1] rfl (by decide)⟩ rfl rfl hl.1 rfl (lv_room (Nat.le_of_ble_eq_true rfl)) dX11_without_13 ⟨Nat.le_of_ble_eq_true rfl, Nat.le_of_ble_eq_true rfl⟩) hP hD hS hA [0, 1] [2] rfl rfl (by decide) (by decide) (fun _ H locs hP hD hS => ?_)
  have hP : va_P (dC, dI) vwCl [(h1, .inr (7, [.ref h8, .ref h9, .ref h10, .int 0, .ref h11, .ref h12, .ref h13, .ref h14, .int 0, .int 0, .int 10, .ref h15])), (h0, .inr (11, [.ref h1, .ref h3, .int 0, .ref h4, .ref h5, .ref h6, .ref h7, .int 0, .ref h2])), (h2, .inl (cI, 7, .inl (upd (fun _ => 0) 1 1)))] H := hP
  have hD : va_D A [(h1, .inr (7, [.ref h8, .ref h9, .ref h10, .int 0, .ref h11, .ref h12, .ref h13, .ref h14, .int 0, .int 0, .int 10, .ref h15])), (h0, .inr (11, [.ref h1, .ref h3, .int 0, .ref h4, .ref h5, .ref h6, .ref h7, .int 0, .ref h2])), (h2, .inl (cI, 7, .inl (upd (fun _ => 0) 1 1)))] := hD
  have hP9 := hP.sub (ws' := []) [] rfl
  have hD9 := hD.sub (ws' := []) [] (by decide) rfl
  exact W.iret (v := (-1)) hx hb hr (fun t ht hW => ⟨⟨(-1), (fun k => [].getD k 0), rfl, rfl, by rw [ht]; exact hP9, hD9⟩, hS.F ht⟩) hS.2.2 dX11_without_16
set_option maxHeartbeats 4000000 in
set_option maxRecDepth 100000 in
theorem kX11_leastHarm (l : Launch) (dC : Nat → ClassId) (dI : Nat → Nat → Nat) (cI cQ : ClassId) (h0 h1 h2 h3 h4 h5 h6 h7 h8 h9 h10 h11 h12 h13 h14 h15 : Nat) (sz : Nat) : Met l yX11_leastHarm vsX11_leastHarm ({ frames := 1, cells := 0, slots := 0, locals := 22 }) (va_Pc [.ref h0] (zB dC dI cI cQ [(h0, .inr (11, [.ref h1, .ref h3, .int 0, .ref h4, .ref h5, .ref h6, .ref h7, .int 0, .ref h2])), (h1, .inr (7, [.ref h8, .ref h9, .ref h10, .int 0, .ref h11, .ref h12, .ref h13, .ref h14, .int 0, .int 0, .int 10, .ref h15])), (h2, .inl (cI, 7, .inl (fun _ => 0)))] sz)) (zQi dC dI (va_A [(h0, .inr (11, [.ref h1, .ref h3, .int 0, .ref h4, .ref h5, .ref h6, .ref h7, .int 0, .ref h2])), (h1, .inr (7, [.ref h8, .ref h9, .ref h10, .int 0, .ref h11, .ref h12, .ref h13, .ref h14, .int 0, .int 0, .int 10, .ref h15])), (h2, .inl (cI, 7, .inl (fun _ => 0)))] sz) (fun ad => []) (-3)) 0 0 (va_A [(h0, .inr (11, [.ref h1, .ref h3, .int 0, .ref h4, .ref h5, .ref h6, .ref h7, .int 0, .ref h2])), (h1, .inr (7, [.ref h8, .ref h9, .ref h10, .int 0, .ref h11, .ref h12, .ref h13, .ref h14, .int 0, .int 0, .int 10, .ref h15])), (h2, .inl (cI, 7, .inl (fun _ => 0)))] sz) := by
  refine Met.ofW (cc := cX11_leastHarm) (maxL := 5) (ret := (some .int)) (by decide) rfl ?_
  intro p e s m args below meth c s₁ B hml hv
  obtain ⟨rfl, hsz, hP, hZ, hD0⟩ := hv
  obtain ⟨hK, hAO, hN⟩ := id hZ
  have hx := B.exec
  have hb := B.bytes
  have hr := B.returns
  have hts := atoms_spec (ws := vsX11_leastHarm) B.pre
  have hown : s.vm.findClass RX11 = some m.cls := findClass_of_methodNamed B.named
  have hlocks := B.notSynchronized
  subst hsz
  have hD := hD0.self (sz := s.heap.size)
  generalize hAe : va_A [(h0, .inr (11, [.ref h1, .ref h3, .int 0, .ref h4, .ref h5, .ref h6, .ref h7, .int 0, .ref h2])), (h1, .inr (7, [.ref h8, .ref h9, .ref h10, .int 0, .ref h11, .ref h12, .ref h13, .ref h14, .int 0, .int 0, .int 10, .ref h15])), (h2, .inl (cI, 7, .inl (fun _ => 0)))] s.heap.size = A at hD ⊢
  have hA : ∀ q : Nat, s.heap.size ≤ q → A q := fun q h => by rw [← hAe]; exact Or.inr h
  have hS : va_S A s.heap s.heap [] := va_S.rf
  have hP : va_P (dC, dI) vwCl [(h0, .inr (11, [.ref h1, .ref h3, .int 0, .ref h4, .ref h5, .ref h6, .ref h7, .int 0, .ref h2])), (h1, .inr (7, [.ref h8, .ref h9, .ref h10, .int 0, .ref h11, .ref h12, .ref h13, .ref h14, .int 0, .int 0, .int 10, .ref h15])), (h2, .inl (cI, 7, .inl (fun _ => 0)))] s.heap := hP
  have hl := lv_entry ([.ref h0]) (n := 5) (Nat.le_of_ble_eq_true rfl)
  rw [lg_entry_eq]
  generalize (lg_sl ([.ref h0]) ++ List.replicate (5 - (lg_sl ([.ref h0])).length) Slot.unset).toArray = ls at hl ⊢
  have hl : lv_has ls 5 [(0, .ref h0)] := hl
  refine lv_aload_n hx hb dX11_leastHarm_0 rfl (lv_at hl 0 rfl) ?_
  refine va_get (D := (dC, dI)) (ci := 11) (v := .ref h1) (C := RX11) (T := TX11) (N := 9) hx hb hts in_X11_leastHarm_X11 hown hK hP 0 rfl rfl 0 (by decide) (hts (.fieldLink RX11 10 "EachOnHisCue" "play" "LEachOnHisCue$Play;") (by decide +kernel)) (fun _ h9 => h9) rfl dX11_leastHarm_1 ?_
  refine va_get (D := (dC, dI)) (ci := 7) (v := .int 0) (C := RX7) (T := TX7) (N := 12) hx hb hts in_X11_leastHarm_X7 hown hK hP 1 rfl rfl 9 (by decide) (hts (.fieldLink RX11 137 "EachOnHisCue$Play" "lines" "I") (by decide +kernel)) (fun _ h9 => h9) rfl dX11_leastHarm_4 ?_
  refine lv_if_ne (tgt := 17) hx hb dX11_leastHarm_7 (by decide) (fun hc => ?_) (fun hc => ?_)
  · exact absurd hc (by decide)
  refine lv_aload_n hx hb dX11_leastHarm_10 rfl (lv_at hl 0 rfl) ?_
  refine lv_bipush (v := (-3)) hx hb dX11_leastHarm_11 (by decide) ?_
  refine z_calli (wc := [(h0, .inr (11, [.ref h1, .ref h3, .int 0, .ref h4, .ref h5, .ref h6, .ref h7, .int 0, .ref h2])), (h2, .inl (cI, 7, .inl (fun _ => 0)))]) (wr := [(h1, .inr (7, [.ref h8, .ref h9, .ref h10, .int 0, .ref h11, .ref h12, .ref h13, .ref h14, .int 0, .int 0, .int 10, .ref h15]))]) (w1 := (fun _ => [(h0, .inr (11, [.ref h1, .ref h3, .int 0, .ref h4, .ref h5, .ref h6, .ref h7, .int 0, .ref h2])), (h2, .inl (cI, 7, .inl (upd (fun _ => 0) 3 1)))])) (va_runV (As := [.int (-3)]) (rest := []) ⟨hx, hb, hml, hown, hts⟩ (kX11_refuse_3 l dC dI cI cQ h0 h2 h1 h3 h4 h5 h6 h7 s.heap.size) (cwV 1 hts gv_X11_leastHarm_X11_refuse_53 rfl rfl rfl (by decide +kernel) ⟨Nat.le_of_ble_eq_true rfl, Nat.le_of_ble_eq_true rfl⟩) ⟨z_blind, va_recv hK hP (ci := 11) (q0 := 0) rfl rfl, z_pre hZ hP hD [0, 2] rfl (by decide)⟩ rfl rfl hl.1 rfl (lv_room (Nat.le_of_ble_eq_true rfl)) dX11_leastHarm_13 ⟨Nat.le_of_ble_eq_true rfl, Nat.le_of_ble_eq_true rfl⟩) hP hD hS hA [0, 2] [1] rfl rfl (by decide) (by decide) (fun _ H locs hP hD hS => ?_)
  have hP : va_P (dC, dI) vwCl [(h1, .inr (7, [.ref h8, .ref h9, .ref h10, .int 0, .ref h11, .ref h12, .ref h13, .ref h14, .int 0, .int 0, .int 10, .ref h15])), (h0, .inr (11, [.ref h1, .ref h3, .int 0, .ref h4, .ref h5, .ref h6, .ref h7, .int 0, .ref h2])), (h2, .inl (cI, 7, .inl (upd (fun _ => 0) 3 1)))] H := hP
  have hD : va_D A [(h1, .inr (7, [.ref h8, .ref h9, .ref h10, .int 0, .ref h11, .ref h12, .ref h13, .ref h14, .int 0, .int 0, .int 10, .ref h15])), (h0, .inr (11, [.ref h1, .ref h3, .int 0, .ref h4, .ref h5, .ref h6, .ref h7, .int 0, .ref h2])), (h2, .inl (cI, 7, .inl (upd (fun _ => 0) 3 1)))] := hD
  have hP9 := hP.sub (ws' := []) [] rfl
  have hD9 := hD.sub (ws' := []) [] (by decide) rfl
  exact W.iret (v := (-3)) hx hb hr (fun t ht hW => ⟨⟨(-3), (fun k => [].getD k 0), rfl, rfl, by rw [ht]; exact hP9, hD9⟩, hS.F ht⟩) hS.2.2 dX11_leastHarm_16
set_option maxHeartbeats 4000000 in
set_option maxRecDepth 100000 in
theorem kX11_joke (l : Launch) (dC : Nat → ClassId) (dI : Nat → Nat → Nat) (cI cQ : ClassId) (h0 h1 h2 h3 h4 h5 h6 h7 h8 h9 h10 h11 h12 h13 h14 h15 : Nat) (p0 : Int32) (hp0l : -2147483648 ≤ p0.toInt) (hp0h : p0.toInt ≤ -1) (p1 : Int32) (hp1l : -2147483648 ≤ p1.toInt) (hp1h : p1.toInt ≤ 2147483647) (sz : Nat) : Met l yX11_joke vsX11_joke ({ frames := 1, cells := 0, slots := 0, locals := 22 }) (va_Pc [.ref h0, .int p0, .int p1] (zB dC dI cI cQ [(h0, .inr (11, [.ref h1, .ref h3, .int 0, .ref h4, .ref h5, .ref h6, .ref h7, .int 0, .ref h2])), (h1, .inr (7, [.ref h8, .ref h9, .ref h10, .int 0, .ref h11, .ref h12, .ref h13, .ref h14, .int 0, .int 0, .int 10, .ref h15])), (h2, .inl (cI, 7, .inl (fun _ => 0)))] sz)) (zQi dC dI (va_A [(h0, .inr (11, [.ref h1, .ref h3, .int 0, .ref h4, .ref h5, .ref h6, .ref h7, .int 0, .ref h2])), (h1, .inr (7, [.ref h8, .ref h9, .ref h10, .int 0, .ref h11, .ref h12, .ref h13, .ref h14, .int 0, .int 0, .int 10, .ref h15])), (h2, .inl (cI, 7, .inl (fun _ => 0)))] sz) (fun ad => []) (-1)) 0 0 (va_A [(h0, .inr (11, [.ref h1, .ref h3, .int 0, .ref h4, .ref h5, .ref h6, .ref h7, .int 0, .ref h2])), (h1, .inr (7, [.ref h8, .ref h9, .ref h10, .int 0, .ref h11, .ref h12, .ref h13, .ref h14, .int 0, .int 0, .int 10, .ref h15])), (h2, .inl (cI, 7, .inl (fun _ => 0)))] sz) := by
  refine Met.ofW (cc := cX11_joke) (maxL := 3) (ret := (some .int)) (by decide) rfl ?_
  intro p e s m args below meth c s₁ B hml hv
  obtain ⟨rfl, hsz, hP, hZ, hD0⟩ := hv
  obtain ⟨hK, hAO, hN⟩ := id hZ
  have hx := B.exec
  have hb := B.bytes
  have hr := B.returns
  have hts := atoms_spec (ws := vsX11_joke) B.pre
  have hown : s.vm.findClass RX11 = some m.cls := findClass_of_methodNamed B.named
  have hlocks := B.notSynchronized
  subst hsz
  have hD := hD0.self (sz := s.heap.size)
  generalize hAe : va_A [(h0, .inr (11, [.ref h1, .ref h3, .int 0, .ref h4, .ref h5, .ref h6, .ref h7, .int 0, .ref h2])), (h1, .inr (7, [.ref h8, .ref h9, .ref h10, .int 0, .ref h11, .ref h12, .ref h13, .ref h14, .int 0, .int 0, .int 10, .ref h15])), (h2, .inl (cI, 7, .inl (fun _ => 0)))] s.heap.size = A at hD ⊢
  have hA : ∀ q : Nat, s.heap.size ≤ q → A q := fun q h => by rw [← hAe]; exact Or.inr h
  have hS : va_S A s.heap s.heap [] := va_S.rf
  have hP : va_P (dC, dI) vwCl [(h0, .inr (11, [.ref h1, .ref h3, .int 0, .ref h4, .ref h5, .ref h6, .ref h7, .int 0, .ref h2])), (h1, .inr (7, [.ref h8, .ref h9, .ref h10, .int 0, .ref h11, .ref h12, .ref h13, .ref h14, .int 0, .int 0, .int 10, .ref h15])), (h2, .inl (cI, 7, .inl (fun _ => 0)))] s.heap := hP
  have hl := lv_entry ([.ref h0, .int p0, .int p1]) (n := 3) (Nat.le_of_ble_eq_true rfl)
  rw [lg_entry_eq]
  generalize (lg_sl ([.ref h0, .int p0, .int p1]) ++ List.replicate (3 - (lg_sl ([.ref h0, .int p0, .int p1])).length) Slot.unset).toArray = ls at hl ⊢
  have hl : lv_has ls 3 [(0, .ref h0), (1, .int p0), (2, .int p1)] := hl
  refine lv_aload_n hx hb dX11_joke_0 rfl (lv_at hl 0 rfl) ?_
  refine va_get (D := (dC, dI)) (ci := 11) (v := .ref h1) (C := RX11) (T := TX11) (N := 9) hx hb hts in_X11_joke_X11 hown hK hP 0 rfl rfl 0 (by decide) (hts (.fieldLink RX11 10 "EachOnHisCue" "play" "LEachOnHisCue$Play;") (by decide +kernel)) (fun _ h9 => h9) rfl dX11_joke_1 ?_
  refine lv_iload_n hx hb dX11_joke_4 rfl (lv_at hl 1 rfl) ?_
  refine z_calli (wc := []) (wr := [(h0, .inr (11, [.ref h1, .ref h3, .int 0, .ref h4, .ref h5, .ref h6, .ref h7, .int 0, .ref h2])), (h1, .inr (7, [.ref h8, .ref h9, .ref h10, .int 0, .ref h11, .ref h12, .ref h13, .ref h14, .int 0, .int 0, .int 10, .ref h15])), (h2, .inl (cI, 7, .inl (fun _ => 0)))]) (w1 := (fun _ => [])) (va_runV (As := [.int p0]) (rest := []) ⟨hx, hb, hml, hown, hts⟩ (kX7_hasLine l dC dI cI cQ h1 p0 hp0l hp0h s.heap.size) (cwV 1 hts gv_X11_joke_X7_hasLine_103 rfl rfl rfl (by decide +kernel) ⟨Nat.le_of_ble_eq_true rfl, Nat.le_of_ble_eq_true rfl⟩) ⟨z_blind, va_recv hK hP (ci := 7) (q0 := 1) rfl rfl, z_pre hZ hP hD [] rfl (by decide)⟩ rfl rfl hl.1 rfl (lv_room (Nat.le_of_ble_eq_true rfl)) dX11_joke_5 ⟨Nat.le_of_ble_eq_true rfl, Nat.le_of_ble_eq_true rfl⟩) hP hD hS hA [] [0, 1, 2] rfl rfl (by decide) (by decide) (fun _ H locs hP hD hS => ?_)
  have hP : va_P (dC, dI) vwCl [(h0, .inr (11, [.ref h1, .ref h3, .int 0, .ref h4, .ref h5, .ref h6, .ref h7, .int 0, .ref h2])), (h1, .inr (7, [.ref h8, .ref h9, .ref h10, .int 0, .ref h11, .ref h12, .ref h13, .ref h14, .int 0, .int 0, .int 10, .ref h15])), (h2, .inl (cI, 7, .inl (fun _ => 0)))] H := hP
  have hD : va_D A [(h0, .inr (11, [.ref h1, .ref h3, .int 0, .ref h4, .ref h5, .ref h6, .ref h7, .int 0, .ref h2])), (h1, .inr (7, [.ref h8, .ref h9, .ref h10, .int 0, .ref h11, .ref h12, .ref h13, .ref h14, .int 0, .int 0, .int 10, .ref h15])), (h2, .inl (cI, 7, .inl (fun _ => 0)))] := hD
  refine lv_if_ne (tgt := 17) hx hb dX11_joke_8 (by decide) (fun hc => ?_) (fun hc => ?_)
  · exact absurd hc (by decide)
  refine lv_aload_n hx hb dX11_joke_11 rfl (lv_at hl 0 rfl) ?_
  refine lv_iconst (v := (-1)) hx hb dX11_joke_12 (by decide) ?_
  refine z_calli (wc := [(h0, .inr (11, [.ref h1, .ref h3, .int 0, .ref h4, .ref h5, .ref h6, .ref h7, .int 0, .ref h2])), (h2, .inl (cI, 7, .inl (fun _ => 0)))]) (wr := [(h1, .inr (7, [.ref h8, .ref h9, .ref h10, .int 0, .ref h11, .ref h12, .ref h13, .ref h14, .int 0, .int 0, .int 10, .ref h15]))]) (w1 := (fun _ => [(h0, .inr (11, [.ref h1, .ref h3, .int 0, .ref h4, .ref h5, .ref h6, .ref h7, .int 0, .ref h2])), (h2, .inl (cI, 7, .inl (upd (fun _ => 0) 1 1)))])) (va_runV (As := [.int (-1)]) (rest := []) ⟨hx, hb, hml, hown, hts⟩ (kX11_refuse_2 l dC dI cI cQ h0 h2 h1 h3 h4 h5 h6 h7 H.size) (cwV 1 hts gv_X11_joke_X11_refuse_53 rfl rfl rfl (by decide +kernel) ⟨Nat.le_of_ble_eq_true rfl, Nat.le_of_ble_eq_true rfl⟩) ⟨z_blind, va_recv hK hP (ci := 11) (q0 := 0) rfl rfl, z_pre hZ hP hD [0, 2] rfl (by decide)⟩ rfl rfl hl.1 rfl (lv_room (Nat.le_of_ble_eq_true rfl)) dX11_joke_13 ⟨Nat.le_of_ble_eq_true rfl, Nat.le_of_ble_eq_true rfl⟩) hP hD hS hA [0, 2] [1] rfl rfl (by decide) (by decide) (fun _ H locs hP hD hS => ?_)
  have hP : va_P (dC, dI) vwCl [(h1, .inr (7, [.ref h8, .ref h9, .ref h10, .int 0, .ref h11, .ref h12, .ref h13, .ref h14, .int 0, .int 0, .int 10, .ref h15])), (h0, .inr (11, [.ref h1, .ref h3, .int 0, .ref h4, .ref h5, .ref h6, .ref h7, .int 0, .ref h2])), (h2, .inl (cI, 7, .inl (upd (fun _ => 0) 1 1)))] H := hP
  have hD : va_D A [(h1, .inr (7, [.ref h8, .ref h9, .ref h10, .int 0, .ref h11, .ref h12, .ref h13, .ref h14, .int 0, .int 0, .int 10, .ref h15])), (h0, .inr (11, [.ref h1, .ref h3, .int 0, .ref h4, .ref h5, .ref h6, .ref h7, .int 0, .ref h2])), (h2, .inl (cI, 7, .inl (upd (fun _ => 0) 1 1)))] := hD
  have hP9 := hP.sub (ws' := []) [] rfl
  have hD9 := hD.sub (ws' := []) [] (by decide) rfl
  exact W.iret (v := (-1)) hx hb hr (fun t ht hW => ⟨⟨(-1), (fun k => [].getD k 0), rfl, rfl, by rw [ht]; exact hP9, hD9⟩, hS.F ht⟩) hS.2.2 dX11_joke_16
set_option maxHeartbeats 4000000 in
set_option maxRecDepth 100000 in
theorem kX11_joke_1 (l : Launch) (dC : Nat → ClassId) (dI : Nat → Nat → Nat) (cI cQ : ClassId) (h0 h1 h2 h3 h4 h5 h6 h7 h8 h9 h10 h11 h12 h13 h14 h15 : Nat) (p0 : Int32) (hp0l : 0 ≤ p0.toInt) (hp0h : p0.toInt ≤ 2147483647) (p1 : Int32) (hp1l : -2147483648 ≤ p1.toInt) (hp1h : p1.toInt ≤ 2147483647) (sz : Nat) : Met l yX11_joke vsX11_joke ({ frames := 1, cells := 0, slots := 0, locals := 22 }) (va_Pc [.ref h0, .int p0, .int p1] (zB dC dI cI cQ [(h0, .inr (11, [.ref h1, .ref h3, .int 0, .ref h4, .ref h5, .ref h6, .ref h7, .int 0, .ref h2])), (h1, .inr (7, [.ref h8, .ref h9, .ref h10, .int 0, .ref h11, .ref h12, .ref h13, .ref h14, .int 0, .int 0, .int 10, .ref h15])), (h2, .inl (cI, 7, .inl (fun _ => 0)))] sz)) (zQi dC dI (va_A [(h0, .inr (11, [.ref h1, .ref h3, .int 0, .ref h4, .ref h5, .ref h6, .ref h7, .int 0, .ref h2])), (h1, .inr (7, [.ref h8, .ref h9, .ref h10, .int 0, .ref h11, .ref h12, .ref h13, .ref h14, .int 0, .int 0, .int 10, .ref h15])), (h2, .inl (cI, 7, .inl (fun _ => 0)))] sz) (fun ad => []) (-1)) 0 0 (va_A [(h0, .inr (11, [.ref h1, .ref h3, .int 0, .ref h4, .ref h5, .ref h6, .ref h7, .int 0, .ref h2])), (h1, .inr (7, [.ref h8, .ref h9, .ref h10, .int 0, .ref h11, .ref h12, .ref h13, .ref h14, .int 0, .int 0, .int 10, .ref h15])), (h2, .inl (cI, 7, .inl (fun _ => 0)))] sz) := by
  refine Met.ofW (cc := cX11_joke) (maxL := 3) (ret := (some .int)) (by decide) rfl ?_
  intro p e s m args below meth c s₁ B hml hv
  obtain ⟨rfl, hsz, hP, hZ, hD0⟩ := hv
  obtain ⟨hK, hAO, hN⟩ := id hZ
  have hx := B.exec
  have hb := B.bytes
  have hr := B.returns
  have hts := atoms_spec (ws := vsX11_joke) B.pre
  have hown : s.vm.findClass RX11 = some m.cls := findClass_of_methodNamed B.named
  have hlocks := B.notSynchronized
  subst hsz
  have hD := hD0.self (sz := s.heap.size)
  generalize hAe : va_A [(h0, .inr (11, [.ref h1, .ref h3, .int 0, .ref h4, .ref h5, .ref h6, .ref h7, .int 0, .ref h2])), (h1, .inr (7, [.ref h8, .ref h9, .ref h10, .int 0, .ref h11, .ref h12, .ref h13, .ref h14, .int 0, .int 0, .int 10, .ref h15])), (h2, .inl (cI, 7, .inl (fun _ => 0)))] s.heap.size = A at hD ⊢
  have hA : ∀ q : Nat, s.heap.size ≤ q → A q := fun q h => by rw [← hAe]; exact Or.inr h
  have hS : va_S A s.heap s.heap [] := va_S.rf
  have hP : va_P (dC, dI) vwCl [(h0, .inr (11, [.ref h1, .ref h3, .int 0, .ref h4, .ref h5, .ref h6, .ref h7, .int 0, .ref h2])), (h1, .inr (7, [.ref h8, .ref h9, .ref h10, .int 0, .ref h11, .ref h12, .ref h13, .ref h14, .int 0, .int 0, .int 10, .ref h15])), (h2, .inl (cI, 7, .inl (fun _ => 0)))] s.heap := hP
  have hl := lv_entry ([.ref h0, .int p0, .int p1]) (n := 3) (Nat.le_of_ble_eq_true rfl)
  rw [lg_entry_eq]
  generalize (lg_sl ([.ref h0, .int p0, .int p1]) ++ List.replicate (3 - (lg_sl ([.ref h0, .int p0, .int p1])).length) Slot.unset).toArray = ls at hl ⊢
  have hl : lv_has ls 3 [(0, .ref h0), (1, .int p0), (2, .int p1)] := hl
  refine lv_aload_n hx hb dX11_joke_0 rfl (lv_at hl 0 rfl) ?_
  refine va_get (D := (dC, dI)) (ci := 11) (v := .ref h1) (C := RX11) (T := TX11) (N := 9) hx hb hts in_X11_joke_X11 hown hK hP 0 rfl rfl 0 (by decide) (hts (.fieldLink RX11 10 "EachOnHisCue" "play" "LEachOnHisCue$Play;") (by decide +kernel)) (fun _ h9 => h9) rfl dX11_joke_1 ?_
  refine lv_iload_n hx hb dX11_joke_4 rfl (lv_at hl 1 rfl) ?_
  refine z_calli (wc := [(h1, .inr (7, [.ref h8, .ref h9, .ref h10, .int 0, .ref h11, .ref h12, .ref h13, .ref h14, .int 0, .int 0, .int 10, .ref h15]))]) (wr := [(h0, .inr (11, [.ref h1, .ref h3, .int 0, .ref h4, .ref h5, .ref h6, .ref h7, .int 0, .ref h2])), (h2, .inl (cI, 7, .inl (fun _ => 0)))]) (w1 := (fun _ => [(h1, .inr (7, [.ref h8, .ref h9, .ref h10, .int 0, .ref h11, .ref h12, .ref h13, .ref h14, .int 0, .int 0, .int 10, .ref h15]))])) (va_runV (As := [.int p0]) (rest := []) ⟨hx, hb, hml, hown, hts⟩ (kX7_hasLine_1 l dC dI cI cQ h1 h8 h9 h10 h11 h12 h13 h14 h15 p0 hp0l hp0h s.heap.size) (cwV 1 hts gv_X11_joke_X7_hasLine_103 rfl rfl rfl (by decide +kernel) ⟨Nat.le_of_ble_eq_true rfl, Nat.le_of_ble_eq_true rfl⟩) ⟨z_blind, va_recv hK hP (ci := 7) (q0 := 1) rfl rfl, z_pre hZ hP hD [1] rfl (by decide)⟩ rfl rfl hl.1 rfl (lv_room (Nat.le_of_ble_eq_true rfl)) dX11_joke_5 ⟨Nat.le_of_ble_eq_true rfl, Nat.le_of_ble_eq_true rfl⟩) hP hD hS hA [1] [0, 2] rfl rfl (by decide) (by decide) (fun _ H locs hP hD hS => ?_)
  have hP : va_P (dC, dI) vwCl [(h0, .inr (11, [.ref h1, .ref h3, .int 0, .ref h4, .ref h5, .ref h6, .ref h7, .int 0, .ref h2])), (h2, .inl (cI, 7, .inl (fun _ => 0))), (h1, .inr (7, [.ref h8, .ref h9, .ref h10, .int 0, .ref h11, .ref h12, .ref h13, .ref h14, .int 0, .int 0, .int 10, .ref h15]))] H := hP
  have hD : va_D A [(h0, .inr (11, [.ref h1, .ref h3, .int 0, .ref h4, .ref h5, .ref h6, .ref h7, .int 0, .ref h2])), (h2, .inl (cI, 7, .inl (fun _ => 0))), (h1, .inr (7, [.ref h8, .ref h9, .ref h10, .int 0, .ref h11, .ref h12, .ref h13, .ref h14, .int 0, .int 0, .int 10, .ref h15]))] := hD
  refine lv_if_ne (tgt := 17) hx hb dX11_joke_8 (by decide) (fun hc => ?_) (fun hc => ?_)
  · exact absurd hc (by decide)
  refine lv_aload_n hx hb dX11_joke_11 rfl (lv_at hl 0 rfl) ?_
  refine lv_iconst (v := (-1)) hx hb dX11_joke_12 (by decide) ?_
  refine z_calli (wc := [(h0, .inr (11, [.ref h1, .ref h3, .int 0, .ref h4, .ref h5, .ref h6, .ref h7, .int 0, .ref h2])), (h2, .inl (cI, 7, .inl (fun _ => 0)))]) (wr := [(h1, .inr (7, [.ref h8, .ref h9, .ref h10, .int 0, .ref h11, .ref h12, .ref h13, .ref h14, .int 0, .int 0, .int 10, .ref h15]))]) (w1 := (fun _ => [(h0, .inr (11, [.ref h1, .ref h3, .int 0, .ref h4, .ref h5, .ref h6, .ref h7, .int 0, .ref h2])), (h2, .inl (cI, 7, .inl (upd (fun _ => 0) 1 1)))])) (va_runV (As := [.int (-1)]) (rest := []) ⟨hx, hb, hml, hown, hts⟩ (kX11_refuse_2 l dC dI cI cQ h0 h2 h1 h3 h4 h5 h6 h7 H.size) (cwV 1 hts gv_X11_joke_X11_refuse_53 rfl rfl rfl (by decide +kernel) ⟨Nat.le_of_ble_eq_true rfl, Nat.le_of_ble_eq_true rfl⟩) ⟨z_blind, va_recv hK hP (ci := 11) (q0 := 0) rfl rfl, z_pre hZ hP hD [0, 1] rfl (by decide)⟩ rfl rfl hl.1 rfl (lv_room (Nat.le_of_ble_eq_true rfl)) dX11_joke_13 ⟨Nat.le_of_ble_eq_true rfl, Nat.le_of_ble_eq_true rfl⟩) hP hD hS hA [0, 1] [2] rfl rfl (by decide) (by decide) (fun _ H locs hP hD hS => ?_)
  have hP : va_P (dC, dI) vwCl [(h1, .inr (7, [.ref h8, .ref h9, .ref h10, .int 0, .ref h11, .ref h12, .ref h13, .ref h14, .int 0, .int 0, .int 10, .ref h15])), (h0, .inr (11, [.ref h1, .ref h3, .int 0, .ref h4, .ref h5, .ref h6, .ref h7, .int 0, .ref h2])), (h2, .inl (cI, 7, .inl (upd (fun _ => 0) 1 1)))] H := hP
  have hD : va_D A [(h1, .inr (7, [.ref h8, .ref h9, .ref h10, .int 0, .ref h11, .ref h12, .ref h13, .ref h14, .int 0, .int 0, .int 10, .ref h15])), (h0, .inr (11, [.ref h1, .ref h3, .int 0, .ref h4, .ref h5, .ref h6, .ref h7, .int 0, .ref h2])), (h2, .inl (cI, 7, .inl (upd (fun _ => 0) 1 1)))] := hD
  have hP9 := hP.sub (ws' := []) [] rfl
  have hD9 := hD.sub (ws' := []) [] (by decide) rfl
  exact W.iret (v := (-1)) hx hb hr (fun t ht hW => ⟨⟨(-1), (fun k => [].getD k 0), rfl, rfl, by rw [ht]; exact hP9, hD9⟩, hS.F ht⟩) hS.2.2 dX11_joke_16
set_option maxHeartbeats 4000000 in
set_option maxRecDepth 100000 in
theorem kX11_stretched (l : Launch) (dC : Nat → ClassId) (dI : Nat → Nat → Nat) (cI cQ : ClassId) (h0 h1 h2 h3 h4 h5 h6 h7 : Nat) (p0 : Int32) (hp0l : -2147483648 ≤ p0.toInt) (hp0h : p0.toInt ≤ -1) (sz : Nat) : Met l yX11_stretched vsX11_stretched ({ frames := 1, cells := 0, slots := 0, locals := 22 }) (va_Pc [.ref h0, .int p0] (zB dC dI cI cQ [(h0, .inr (11, [.ref h2, .ref h3, .int 0, .ref h4, .ref h5, .ref h6, .ref h7, .int 0, .ref h1])), (h1, .inl (cI, 7, .inl (fun _ => 0)))] sz)) (zQi dC dI (va_A [(h0, .inr (11, [.ref h2, .ref h3, .int 0, .ref h4, .ref h5, .ref h6, .ref h7, .int 0, .ref h1])), (h1, .inl (cI, 7, .inl (fun _ => 0)))] sz) (fun ad => []) (-4)) 0 0 (va_A [(h0, .inr (11, [.ref h2, .ref h3, .int 0, .ref h4, .ref h5, .ref h6, .ref h7, .int 0, .ref h1])), (h1, .inl (cI, 7, .inl (fun _ => 0)))] sz) := by
  refine Met.ofW (cc := cX11_stretched) (maxL := 2) (ret := (some .int)) (by decide) rfl ?_
  intro p e s m args below meth c s₁ B hml hv
  obtain ⟨rfl, hsz, hP, hZ, hD0⟩ := hv
  obtain ⟨hK, hAO, hN⟩ := id hZ
  have hx := B.exec
  have hb := B.bytes
  have hr := B.returns
  have hts := atoms_spec (ws := vsX11_stretched) B.pre
  have hown : s.vm.findClass RX11 = some m.cls := findClass_of_methodNamed B.named
  have hlocks := B.notSynchronized
  subst hsz
  have hD := hD0.self (sz := s.heap.size)
  generalize hAe : va_A [(h0, .inr (11, [.ref h2, .ref h3, .int 0, .ref h4, .ref h5, .ref h6, .ref h7, .int 0, .ref h1])), (h1, .inl (cI, 7, .inl (fun _ => 0)))] s.heap.size = A at hD ⊢
  have hA : ∀ q : Nat, s.heap.size ≤ q → A q := fun q h => by rw [← hAe]; exact Or.inr h
  have hS : va_S A s.heap s.heap [] := va_S.rf
  have hP : va_P (dC, dI) vwCl [(h0, .inr (11, [.ref h2, .ref h3, .int 0, .ref h4, .ref h5, .ref h6, .ref h7, .int 0, .ref h1])), (h1, .inl (cI, 7, .inl (fun _ => 0)))] s.heap := hP
  have hl := lv_entry ([.ref h0, .int p0]) (n := 2) (Nat.le_of_ble_eq_true rfl)
  rw [lg_entry_eq]
  generalize (lg_sl ([.ref h0, .int p0]) ++ List.replicate (2 - (lg_sl ([.ref h0, .int p0])).length) Slot.unset).toArray = ls at hl ⊢
  have hl : lv_has ls 2 [(0, .ref h0), (1, .int p0)] := hl
  refine lv_iload_n hx hb dX11_stretched_0 rfl (lv_at hl 1 rfl) ?_
  refine lv_if_ge (tgt := 11) hx hb dX11_stretched_1 (by decide) (fun hc => ?_) (fun hc => ?_)
  · exact absurd ((fa_le _ _).mp hc) (by rw [show (0 : Int32).toInt = 0 from by decide]; omega)
  refine lv_aload_n hx hb dX11_stretched_4 rfl (lv_at hl 0 rfl) ?_
  refine lv_bipush (v := (-4)) hx hb dX11_stretched_5 (by decide) ?_
  refine z_calli (wc := [(h0, .inr (11, [.ref h2, .ref h3, .int 0, .ref h4, .ref h5, .ref h6, .ref h7, .int 0, .ref h1])), (h1, .inl (cI, 7, .inl (fun _ => 0)))]) (wr := []) (w1 := (fun _ => [(h0, .inr (11, [.ref h2, .ref h3, .int 0, .ref h4, .ref h5, .ref h6, .ref h7, .int 0, .ref h1])), (h1, .inl (cI, 7, .inl (upd (fun _ => 0) 4 1)))])) (va_runV (As := [.int (-4)]) (rest := []) ⟨hx, hb, hml, hown, hts⟩ (kX11_refuse l dC dI cI cQ h0 h1 h2 h3 h4 h5 h6 h7 s.heap.size) (cwV 1 hts gv_X11_stretched_X11_refuse_53 rfl rfl rfl (by decide +kernel) ⟨Nat.le_of_ble_eq_true rfl, Nat.le_of_ble_eq_true rfl⟩) ⟨z_blind, va_recv hK hP (ci := 11) (q0 := 0) rfl rfl, z_pre hZ hP hD [0, 1] rfl (by decide)⟩ rfl rfl hl.1 rfl (lv_room (Nat.le_of_ble_eq_true rfl)) dX11_stretched_7 ⟨Nat.le_of_ble_eq_true rfl, Nat.le_of_ble_eq_true rfl⟩) hP hD hS hA [0, 1] [] rfl rfl (by decide) (by decide) (fun _ H locs hP hD hS => ?_)
  have hP : va_P (dC, dI) vwCl [(h0, .inr (11, [.ref h2, .ref h3, .int 0, .ref h4, .ref h5, .ref h6, .ref h7, .int 0, .ref h1])), (h1, .inl (cI, 7, .inl (upd (fun _ => 0) 4 1)))] H := hP
  have hD : va_D A [(h0, .inr (11, [.ref h2, .ref h3, .int 0, .ref h4, .ref h5, .ref h6, .ref h7, .int 0, .ref h1])), (h1, .inl (cI, 7, .inl (upd (fun _ => 0) 4 1)))] := hD
  have hP9 := hP.sub (ws' := []) [] rfl
  have hD9 := hD.sub (ws' := []) [] (by decide) rfl
  exact W.iret (v := (-4)) hx hb hr (fun t ht hW => ⟨⟨(-4), (fun k => [].getD k 0), rfl, rfl, by rw [ht]; exact hP9, hD9⟩, hS.F ht⟩) hS.2.2 dX11_stretched_10
set_option maxHeartbeats 4000000 in
set_option maxRecDepth 100000 in
theorem kX11_stretched_1 (l : Launch) (dC : Nat → ClassId) (dI : Nat → Nat → Nat) (cI cQ : ClassId) (h0 h1 h2 h3 h4 h5 h6 h7 h8 h9 h10 h11 h12 h13 h14 h15 : Nat) (p0 : Int32) (hp0l : 0 ≤ p0.toInt) (hp0h : p0.toInt ≤ 3) (sz : Nat) : Met l yX11_stretched vsX11_stretched ({ frames := 1, cells := 0, slots := 0, locals := 22 }) (va_Pc [.ref h0, .int p0] (zB dC dI cI cQ [(h0, .inr (11, [.ref h1, .ref h3, .int 0, .ref h4, .ref h5, .ref h6, .ref h7, .int 0, .ref h2])), (h1, .inr (7, [.ref h8, .ref h9, .ref h10, .int 0, .ref h11, .ref h12, .ref h13, .ref h14, .int 0, .int 0, .int 10, .ref h15])), (h2, .inl (cI, 7, .inl (fun _ => 0)))] sz)) (zQi dC dI (va_A [(h0, .inr (11, [.ref h1, .ref h3, .int 0, .ref h4, .ref h5, .ref h6, .ref h7, .int 0, .ref h2])), (h1, .inr (7, [.ref h8, .ref h9, .ref h10, .int 0, .ref h11, .ref h12, .ref h13, .ref h14, .int 0, .int 0, .int 10, .ref h15])), (h2, .inl (cI, 7, .inl (fun _ => 0)))] sz) (fun ad => []) (-3)) 0 0 (va_A [(h0, .inr (11, [.ref h1, .ref h3, .int 0, .ref h4, .ref h5, .ref h6, .ref h7, .int 0, .ref h2])), (h1, .inr (7, [.ref h8, .ref h9, .ref h10, .int 0, .ref h11, .ref h12, .ref h13, .ref h14, .int 0, .int 0, .int 10, .ref h15])), (h2, .inl (cI, 7, .inl (fun _ => 0)))] sz) := by
  refine Met.ofW (cc := cX11_stretched) (maxL := 2) (ret := (some .int)) (by decide) rfl ?_
  intro p e s m args below meth c s₁ B hml hv
  obtain ⟨rfl, hsz, hP, hZ, hD0⟩ := hv
  obtain ⟨hK, hAO, hN⟩ := id hZ
  have hx := B.exec
  have hb := B.bytes
  have hr := B.returns
  have hts := atoms_spec (ws := vsX11_stretched) B.pre
  have hown : s.vm.findClass RX11 = some m.cls := findClass_of_methodNamed B.named
  have hlocks := B.notSynchronized
  subst hsz
  have hD := hD0.self (sz := s.heap.size)
  generalize hAe : va_A [(h0, .inr (11, [.ref h1, .ref h3, .int 0, .ref h4, .ref h5, .ref h6, .ref h7, .int 0, .ref h2])), (h1, .inr (7, [.ref h8, .ref h9, .ref h10, .int 0, .ref h11, .ref h12, .ref h13, .ref h14, .int 0, .int 0, .int 10, .ref h15])), (h2, .inl (cI, 7, .inl (fun _ => 0)))] s.heap.size = A at hD ⊢
  have hA : ∀ q : Nat, s.heap.size ≤ q → A q := fun q h => by rw [← hAe]; exact Or.inr h
  have hS : va_S A s.heap s.heap [] := va_S.rf
  have hP : va_P (dC, dI) vwCl [(h0, .inr (11, [.ref h1, .ref h3, .int 0, .ref h4, .ref h5, .ref h6, .ref h7, .int 0, .ref h2])), (h1, .inr (7, [.ref h8, .ref h9, .ref h10, .int 0, .ref h11, .ref h12, .ref h13, .ref h14, .int 0, .int 0, .int 10, .ref h15])), (h2, .inl (cI, 7, .inl (fun _ => 0)))] s.heap := hP
  have hl := lv_entry ([.ref h0, .int p0]) (n := 2) (Nat.le_of_ble_eq_true rfl)
  rw [lg_entry_eq]
  generalize (lg_sl ([.ref h0, .int p0]) ++ List.replicate (2 - (lg_sl ([.ref h0, .int p0])).length) Slot.unset).toArray = ls at hl ⊢
  have hl : lv_has ls 2 [(0, .ref h0), (1, .int p0)] := hl
  refine lv_iload_n hx hb dX11_stretched_0 rfl (lv_at hl 1 rfl) ?_
  refine lv_if_ge (tgt := 11) hx hb dX11_stretched_1 (by decide) (fun hc => ?_) (fun hc => ?_)
  rotate_left; exact absurd ((fa_le _ _).mpr (by rw [show (0 : Int32).toInt = 0 from by decide]; omega)) hc
  refine lv_iload_n hx hb dX11_stretched_11 rfl (lv_at hl 1 rfl) ?_
  refine lv_iconst (v := 3) hx hb dX11_stretched_12 (by decide) ?_
  refine lv_icmp_le (tgt := 23) hx hb dX11_stretched_13 (by decide) (fun hc => ?_) (fun hc => ?_)
  rotate_left; exact absurd ((fa_le _ _).mpr (by rw [show (3 : Int32).toInt = 3 from by decide]; omega)) hc
  refine lv_aload_n hx hb dX11_stretched_23 rfl (lv_at hl 0 rfl) ?_
  refine va_get (D := (dC, dI)) (ci := 11) (v := .ref h1) (C := RX11) (T := TX11) (N := 9) hx hb hts in_X11_stretched_X11 hown hK hP 0 rfl rfl 0 (by decide) (hts (.fieldLink RX11 10 "EachOnHisCue" "play" "LEachOnHisCue$Play;") (by decide +kernel)) (fun _ h9 => h9) rfl dX11_stretched_24 ?_
  refine va_get (D := (dC, dI)) (ci := 7) (v := .int 0) (C := RX7) (T := TX7) (N := 12) hx hb hts in_X11_stretched_X7 hown hK hP 1 rfl rfl 9 (by decide) (hts (.fieldLink RX11 137 "EachOnHisCue$Play" "lines" "I") (by decide +kernel)) (fun _ h9 => h9) rfl dX11_stretched_27 ?_
  refine lv_if_ne (tgt := 40) hx hb dX11_stretched_30 (by decide) (fun hc => ?_) (fun hc => ?_)
  · exact absurd hc (by decide)
  refine lv_aload_n hx hb dX11_stretched_33 rfl (lv_at hl 0 rfl) ?_
  refine lv_bipush (v := (-3)) hx hb dX11_stretched_34 (by decide) ?_
  refine z_calli (wc := [(h0, .inr (11, [.ref h1, .ref h3, .int 0, .ref h4, .ref h5, .ref h6, .ref h7, .int 0, .ref h2])), (h2, .inl (cI, 7, .inl (fun _ => 0)))]) (wr := [(h1, .inr (7, [.ref h8, .ref h9, .ref h10, .int 0, .ref h11, .ref h12, .ref h13, .ref h14, .int 0, .int 0, .int 10, .ref h15]))]) (w1 := (fun _ => [(h0, .inr (11, [.ref h1, .ref h3, .int 0, .ref h4, .ref h5, .ref h6, .ref h7, .int 0, .ref h2])), (h2, .inl (cI, 7, .inl (upd (fun _ => 0) 3 1)))])) (va_runV (As := [.int (-3)]) (rest := []) ⟨hx, hb, hml, hown, hts⟩ (kX11_refuse_3 l dC dI cI cQ h0 h2 h1 h3 h4 h5 h6 h7 s.heap.size) (cwV 1 hts gv_X11_stretched_X11_refuse_53 rfl rfl rfl (by decide +kernel) ⟨Nat.le_of_ble_eq_true rfl, Nat.le_of_ble_eq_true rfl⟩) ⟨z_blind, va_recv hK hP (ci := 11) (q0 := 0) rfl rfl, z_pre hZ hP hD [0, 2] rfl (by decide)⟩ rfl rfl hl.1 rfl (lv_room (Nat.le_of_ble_eq_true rfl)) dX11_stretched_36 ⟨Nat.le_of_ble_eq_true rfl, Nat.le_of_ble_eq_true rfl⟩) hP hD hS hA [0, 2] [1] rfl rfl (by decide) (by decide) (fun _ H locs hP hD hS => ?_)
  have hP : va_P (dC, dI) vwCl [(h1, .inr (7, [.ref h8, .ref h9, .ref h10, .int 0, .ref h11, .ref h12, .ref h13, .ref h14, .int 0, .int 0, .int 10, .ref h15])), (h0, .inr (11, [.ref h1, .ref h3, .int 0, .ref h4, .ref h5, .ref h6, .ref h7, .int 0, .ref h2])), (h2, .inl (cI, 7, .inl (upd (fun _ => 0) 3 1)))] H := hP
  have hD : va_D A [(h1, .inr (7, [.ref h8, .ref h9, .ref h10, .int 0, .ref h11, .ref h12, .ref h13, .ref h14, .int 0, .int 0, .int 10, .ref h15])), (h0, .inr (11, [.ref h1, .ref h3, .int 0, .ref h4, .ref h5, .ref h6, .ref h7, .int 0, .ref h2])), (h2, .inl (cI, 7, .inl (upd (fun _ => 0) 3 1)))] := hD
  have hP9 := hP.sub (ws' := []) [] rfl
  have hD9 := hD.sub (ws' := []) [] (by decide) rfl
  exact W.iret (v := (-3)) hx hb hr (fun t ht hW => ⟨⟨(-3), (fun k => [].getD k 0), rfl, rfl, by rw [ht]; exact hP9, hD9⟩, hS.F ht⟩) hS.2.2 dX11_stretched_39
set_option maxHeartbeats 4000000 in
set_option maxRecDepth 100000 in
theorem kX11_stretched_2 (l : Launch) (dC : Nat → ClassId) (dI : Nat → Nat → Nat) (cI cQ : ClassId) (h0 h1 h2 h3 h4 h5 h6 h7 : Nat) (p0 : Int32) (hp0l : 4 ≤ p0.toInt) (hp0h : p0.toInt ≤ 2147483647) (sz : Nat) : Met l yX11_stretched vsX11_stretched ({ frames := 1, cells := 0, slots := 0, locals := 22 }) (va_Pc [.ref h0, .int p0] (zB dC dI cI cQ [(h0, .inr (11, [.ref h2, .ref h3, .int 0, .ref h4, .ref h5, .ref h6, .ref h7, .int 0, .ref h1])), (h1, .inl (cI, 7, .inl (fun _ => 0)))] sz)) (zQi dC dI (va_A [(h0, .inr (11, [.ref h2, .ref h3, .int 0, .ref h4, .ref h5, .ref h6, .ref h7, .int 0, .ref h1])), (h1, .inl (cI, 7, .inl (fun _ => 0)))] sz) (fun ad => []) (-6)) 0 0 (va_A [(h0, .inr (11, [.ref h2, .ref h3, .int 0, .ref h4, .ref h5, .ref h6, .ref h7, .int 0, .ref h1])), (h1, .inl (cI, 7, .inl (fun _ => 0)))] sz) := by
  refine Met.ofW (cc := cX11_stretched) (maxL := 2) (ret := (some .int)) (by decide) rfl ?_
  intro p e s m args below meth c s₁ B hml hv
  obtain ⟨rfl, hsz, hP, hZ, hD0⟩ := hv
  obtain ⟨hK, hAO, hN⟩ := id hZ
  have hx := B.exec
  have hb := B.bytes
  have hr := B.returns
  have hts := atoms_spec (ws := vsX11_stretched) B.pre
  have hown : s.vm.findClass RX11 = some m.cls := findClass_of_methodNamed B.named
  have hlocks := B.notSynchronized
  subst hsz
  have hD := hD0.self (sz := s.heap.size)
  generalize hAe : va_A [(h0, .inr (11, [.ref h2, .ref h3, .int 0, .ref h4, .ref h5, .ref h6, .ref h7, .int 0, .ref h1])), (h1, .inl (cI, 7, .inl (fun _ => 0)))] s.heap.size = A at hD ⊢
  have hA : ∀ q : Nat, s.heap.size ≤ q → A q := fun q h => by rw [← hAe]; exact Or.inr h
  have hS : va_S A s.heap s.heap [] := va_S.rf
  have hP : va_P (dC, dI) vwCl [(h0, .inr (11, [.ref h2, .ref h3, .int 0, .ref h4, .ref h5, .ref h6, .ref h7, .int 0, .ref h1])), (h1, .inl (cI, 7, .inl (fun _ => 0)))] s.heap := hP
  have hl := lv_entry ([.ref h0, .int p0]) (n := 2) (Nat.le_of_ble_eq_true rfl)
  rw [lg_entry_eq]
  generalize (lg_sl ([.ref h0, .int p0]) ++ List.replicate (2 - (lg_sl ([.ref h0, .int p0])).length) Slot.unset).toArray = ls at hl ⊢
  have hl : lv_has ls 2 [(0, .ref h0), (1, .int p0)] := hl
  refine lv_iload_n hx hb dX11_stretched_0 rfl (lv_at hl 1 rfl) ?_
  refine lv_if_ge (tgt := 11) hx hb dX11_stretched_1 (by decide) (fun hc => ?_) (fun hc => ?_)
  rotate_left; exact absurd ((fa_le _ _).mpr (by rw [show (0 : Int32).toInt = 0 from by decide]; omega)) hc
  refine lv_iload_n hx hb dX11_stretched_11 rfl (lv_at hl 1 rfl) ?_
  refine lv_iconst (v := 3) hx hb dX11_stretched_12 (by decide) ?_
  refine lv_icmp_le (tgt := 23) hx hb dX11_stretched_13 (by decide) (fun hc => ?_) (fun hc => ?_)
  · exact absurd ((fa_le _ _).mp hc) (by rw [show (3 : Int32).toInt = 3 from by decide]; omega)
  refine lv_aload_n hx hb dX11_stretched_16 rfl (lv_at hl 0 rfl) ?_
  refine lv_bipush (v := (-6)) hx hb dX11_stretched_17 (by decide) ?_
  refine z_calli (wc := [(h0, .inr (11, [.ref h2, .ref h3, .int 0, .ref h4, .ref h5, .ref h6, .ref h7, .int 0, .ref h1])), (h1, .inl (cI, 7, .inl (fun _ => 0)))]) (wr := []) (w1 := (fun _ => [(h0, .inr (11, [.ref h2, .ref h3, .int 0, .ref h4, .ref h5, .ref h6, .ref h7, .int 0, .ref h1])), (h1, .inl (cI, 7, .inl (upd (fun _ => 0) 6 1)))])) (va_runV (As := [.int (-6)]) (rest := []) ⟨hx, hb, hml, hown, hts⟩ (kX11_refuse_1 l dC dI cI cQ h0 h1 h2 h3 h4 h5 h6 h7 s.heap.size) (cwV 1 hts gv_X11_stretched_X11_refuse_53 rfl rfl rfl (by decide +kernel) ⟨Nat.le_of_ble_eq_true rfl, Nat.le_of_ble_eq_true rfl⟩) ⟨z_blind, va_recv hK hP (ci := 11) (q0 := 0) rfl rfl, z_pre hZ hP hD [0, 1] rfl (by decide)⟩ rfl rfl hl.1 rfl (lv_room (Nat.le_of_ble_eq_true rfl)) dX11_stretched_19 ⟨Nat.le_of_ble_eq_true rfl, Nat.le_of_ble_eq_true rfl⟩) hP hD hS hA [0, 1] [] rfl rfl (by decide) (by decide) (fun _ H locs hP hD hS => ?_)
  have hP : va_P (dC, dI) vwCl [(h0, .inr (11, [.ref h2, .ref h3, .int 0, .ref h4, .ref h5, .ref h6, .ref h7, .int 0, .ref h1])), (h1, .inl (cI, 7, .inl (upd (fun _ => 0) 6 1)))] H := hP
  have hD : va_D A [(h0, .inr (11, [.ref h2, .ref h3, .int 0, .ref h4, .ref h5, .ref h6, .ref h7, .int 0, .ref h1])), (h1, .inl (cI, 7, .inl (upd (fun _ => 0) 6 1)))] := hD
  have hP9 := hP.sub (ws' := []) [] rfl
  have hD9 := hD.sub (ws' := []) [] (by decide) rfl
  exact W.iret (v := (-6)) hx hb hr (fun t ht hW => ⟨⟨(-6), (fun k => [].getD k 0), rfl, rfl, by rw [ht]; exact hP9, hD9⟩, hS.F ht⟩) hS.2.2 dX11_stretched_22
set_option maxHeartbeats 4000000 in
set_option maxRecDepth 100000 in
theorem kX11_parts (l : Launch) (dC : Nat → ClassId) (dI : Nat → Nat → Nat) (cI cQ : ClassId) (h0 h1 h2 h3 h4 h5 h6 h7 h8 h9 h10 h11 h12 h13 h14 h15 : Nat) (sz : Nat) : Met l yX11_parts vsX11_parts ({ frames := 0, cells := 0, slots := 0, locals := 0 }) (va_Pc [.ref h0] (zB dC dI cI cQ [(h0, .inr (11, [.ref h1, .ref h2, .int 0, .ref h3, .ref h4, .ref h5, .ref h6, .int 0, .ref h7])), (h1, .inr (7, [.ref h8, .ref h9, .ref h10, .int 0, .ref h11, .ref h12, .ref h13, .ref h14, .int 0, .int 0, .int 10, .ref h15]))] sz)) (zQi dC dI (va_A [(h0, .inr (11, [.ref h1, .ref h2, .int 0, .ref h3, .ref h4, .ref h5, .ref h6, .int 0, .ref h7])), (h1, .inr (7, [.ref h8, .ref h9, .ref h10, .int 0, .ref h11, .ref h12, .ref h13, .ref h14, .int 0, .int 0, .int 10, .ref h15]))] sz) (fun ad => []) 0) 0 0 (va_A [(h0, .inr (11, [.ref h1, .ref h2, .int 0, .ref h3, .ref h4, .ref h5, .ref h6, .int 0, .ref h7])), (h1, .inr (7, [.ref h8, .ref h9, .ref h10, .int 0, .ref h11, .ref h12, .ref h13, .ref h14, .int 0, .int 0, .int 10, .ref h15]))] sz) := by
  refine Met.ofW (cc := cX11_parts) (maxL := 3) (ret := (some .int)) (by decide) rfl ?_
  intro p e s m args below meth c s₁ B hml hv
  obtain ⟨rfl, hsz, hP, hZ, hD0⟩ := hv
  obtain ⟨hK, hAO, hN⟩ := id hZ
  have hx := B.exec
  have hb := B.bytes
  have hr := B.returns
  have hts := atoms_spec (ws := vsX11_parts) B.pre
  have hown : s.vm.findClass RX11 = some m.cls := findClass_of_methodNamed B.named
  have hlocks := B.notSynchronized
  subst hsz
  have hD := hD0.self (sz := s.heap.size)
  generalize hAe : va_A [(h0, .inr (11, [.ref h1, .ref h2, .int 0, .ref h3, .ref h4, .ref h5, .ref h6, .int 0, .ref h7])), (h1, .inr (7, [.ref h8, .ref h9, .ref h10, .int 0, .ref h11, .ref h12, .ref h13, .ref h14, .int 0, .int 0, .int 10, .ref h15]))] s.heap.size = A at hD ⊢
  have hA : ∀ q : Nat, s.heap.size ≤ q → A q := fun q h => by rw [← hAe]; exact Or.inr h
  have hS : va_S A s.heap s.heap [] := va_S.rf
  have hP : va_P (dC, dI) vwCl [(h0, .inr (11, [.ref h1, .ref h2, .int 0, .ref h3, .ref h4, .ref h5, .ref h6, .int 0, .ref h7])), (h1, .inr (7, [.ref h8, .ref h9, .ref h10, .int 0, .ref h11, .ref h12, .ref h13, .ref h14, .int 0, .int 0, .int 10, .ref h15]))] s.heap := hP
  have hl := lv_entry ([.ref h0]) (n := 3) (Nat.le_of_ble_eq_true rfl)
  rw [lg_entry_eq]
  generalize (lg_sl ([.ref h0]) ++ List.replicate (3 - (lg_sl ([.ref h0])).length) Slot.unset).toArray = ls at hl ⊢
  have hl : lv_has ls 3 [(0, .ref h0)] := hl
  refine lv_iconst (v := 0) hx hb dX11_parts_0 (by decide) ?_
  refine lv_istore_n (lv' := [(1, .int 0), (0, .ref h0)]) hx hb dX11_parts_1 rfl hl (by decide) rfl (fun ls hl => ?_)
  refine lv_iconst (v := 0) hx hb dX11_parts_2 (by decide) ?_
  refine lv_istore_n (lv' := [(2, .int 0), (1, .int 0), (0, .ref h0)]) hx hb dX11_parts_3 rfl hl (by decide) rfl (fun ls hl => ?_)
  refine lv_iload_n hx hb dX11_parts_4 rfl (lv_at hl 0 rfl) ?_
  refine lv_aload_n hx hb dX11_parts_5 rfl (lv_at hl 2 rfl) ?_
  refine va_get (D := (dC, dI)) (ci := 11) (v := .ref h1) (C := RX11) (T := TX11) (N := 9) hx hb hts in_X11_parts_X11 hown hK hP 0 rfl rfl 0 (by decide) (hts (.fieldLink RX11 10 "EachOnHisCue" "play" "LEachOnHisCue$Play;") (by decide +kernel)) (fun _ h9 => h9) rfl dX11_parts_6 ?_
  refine va_get (D := (dC, dI)) (ci := 7) (v := .int 0) (C := RX7) (T := TX7) (N := 12) hx hb hts in_X11_parts_X7 hown hK hP 1 rfl rfl 9 (by decide) (hts (.fieldLink RX11 137 "EachOnHisCue$Play" "lines" "I") (by decide +kernel)) (fun _ h9 => h9) rfl dX11_parts_9 ?_
  refine lv_icmp_ge (tgt := 34) hx hb dX11_parts_12 (by decide) (fun hc => ?_) (fun hc => ?_)
  rotate_left; exact absurd hc (by decide)
  refine lv_iload_n hx hb dX11_parts_34 rfl (lv_at hl 1 rfl) ?_
  have hP9 := hP.sub (ws' := []) [] rfl
  have hD9 := hD.sub (ws' := []) [] (by decide) rfl
  exact W.iret (v := 0) hx hb hr (fun t ht hW => ⟨⟨0, (fun k => [].getD k 0), rfl, rfl, by rw [ht]; exact hP9, hD9⟩, hS.F ht⟩) hS.2.2 dX11_parts_35
set_option maxHeartbeats 4000000 in
set_option maxRecDepth 100000 in
theorem kX11_books (l : Launch) (dC : Nat → ClassId) (dI : Nat → Nat → Nat) (cI cQ : ClassId) (h0 h1 h2 h3 h4 h5 h6 h7 h8 h9 h10 h11 h12 h13 h14 h15 : Nat) (sz : Nat) : Met l yX11_books vsX11_books ({ frames := 1, cells := 0, slots := 0, locals := 22 }) (va_Pc [.ref h0] (zB dC dI cI cQ [(h0, .inr (11, [.ref h1, .ref h3, .int 0, .ref h4, .ref h5, .ref h6, .ref h7, .int 0, .ref h2])), (h1, .inr (7, [.ref h8, .ref h9, .ref h10, .int 0, .ref h11, .ref h12, .ref h13, .ref h14, .int 0, .int 0, .int 10, .ref h15])), (h2, .inl (cI, 7, .inl (fun _ => 0)))] sz)) (zQi dC dI (va_A [(h0, .inr (11, [.ref h1, .ref h3, .int 0, .ref h4, .ref h5, .ref h6, .ref h7, .int 0, .ref h2])), (h1, .inr (7, [.ref h8, .ref h9, .ref h10, .int 0, .ref h11, .ref h12, .ref h13, .ref h14, .int 0, .int 0, .int 10, .ref h15])), (h2, .inl (cI, 7, .inl (fun _ => 0)))] sz) (fun ad => []) (-3)) 0 0 (va_A [(h0, .inr (11, [.ref h1, .ref h3, .int 0, .ref h4, .ref h5, .ref h6, .ref h7, .int 0, .ref h2])), (h1, .inr (7, [.ref h8, .ref h9, .ref h10, .int 0, .ref h11, .ref h12, .ref h13, .ref h14, .int 0, .int 0, .int 10, .ref h15])), (h2, .inl (cI, 7, .inl (fun _ => 0)))] sz) := by
  refine Met.ofW (cc := cX11_books) (maxL := 1) (ret := (some .int)) (by decide) rfl ?_
  intro p e s m args below meth c s₁ B hml hv
  obtain ⟨rfl, hsz, hP, hZ, hD0⟩ := hv
  obtain ⟨hK, hAO, hN⟩ := id hZ
  have hx := B.exec
  have hb := B.bytes
  have hr := B.returns
  have hts := atoms_spec (ws := vsX11_books) B.pre
  have hown : s.vm.findClass RX11 = some m.cls := findClass_of_methodNamed B.named
  have hlocks := B.notSynchronized
  subst hsz
  have hD := hD0.self (sz := s.heap.size)
  generalize hAe : va_A [(h0, .inr (11, [.ref h1, .ref h3, .int 0, .ref h4, .ref h5, .ref h6, .ref h7, .int 0, .ref h2])), (h1, .inr (7, [.ref h8, .ref h9, .ref h10, .int 0, .ref h11, .ref h12, .ref h13, .ref h14, .int 0, .int 0, .int 10, .ref h15])), (h2, .inl (cI, 7, .inl (fun _ => 0)))] s.heap.size = A at hD ⊢
  have hA : ∀ q : Nat, s.heap.size ≤ q → A q := fun q h => by rw [← hAe]; exact Or.inr h
  have hS : va_S A s.heap s.heap [] := va_S.rf
  have hP : va_P (dC, dI) vwCl [(h0, .inr (11, [.ref h1, .ref h3, .int 0, .ref h4, .ref h5, .ref h6, .ref h7, .int 0, .ref h2])), (h1, .inr (7, [.ref h8, .ref h9, .ref h10, .int 0, .ref h11, .ref h12, .ref h13, .ref h14, .int 0, .int 0, .int 10, .ref h15])), (h2, .inl (cI, 7, .inl (fun _ => 0)))] s.heap := hP
  have hl := lv_entry ([.ref h0]) (n := 1) (Nat.le_of_ble_eq_true rfl)
  rw [lg_entry_eq]
  generalize (lg_sl ([.ref h0]) ++ List.replicate (1 - (lg_sl ([.ref h0])).length) Slot.unset).toArray = ls at hl ⊢
  have hl : lv_has ls 1 [(0, .ref h0)] := hl
  refine lv_aload_n hx hb dX11_books_0 rfl (lv_at hl 0 rfl) ?_
  refine va_get (D := (dC, dI)) (ci := 11) (v := .ref h1) (C := RX11) (T := TX11) (N := 9) hx hb hts in_X11_books_X11 hown hK hP 0 rfl rfl 0 (by decide) (hts (.fieldLink RX11 10 "EachOnHisCue" "play" "LEachOnHisCue$Play;") (by decide +kernel)) (fun _ h9 => h9) rfl dX11_books_1 ?_
  refine va_get (D := (dC, dI)) (ci := 7) (v := .int 0) (C := RX7) (T := TX7) (N := 12) hx hb hts in_X11_books_X7 hown hK hP 1 rfl rfl 9 (by decide) (hts (.fieldLink RX11 137 "EachOnHisCue$Play" "lines" "I") (by decide +kernel)) (fun _ h9 => h9) rfl dX11_books_4 ?_
  refine lv_if_ne (tgt := 17) hx hb dX11_books_7 (by decide) (fun hc => ?_) (fun hc => ?_)
  · exact absurd hc (by decide)
  refine lv_aload_n hx hb dX11_books_10 rfl (lv_at hl 0 rfl) ?_
  refine lv_bipush (v := (-3)) hx hb dX11_books_11 (by decide) ?_
  refine z_calli (wc := [(h0, .inr (11, [.ref h1, .ref h3, .int 0, .ref h4, .ref h5, .ref h6, .ref h7, .int 0, .ref h2])), (h2, .inl (cI, 7, .inl (fun _ => 0)))]) (wr := [(h1, .inr (7, [.ref h8, .ref h9, .ref h10, .int 0, .ref h11, .ref h12, .ref h13, .ref h14, .int 0, .int 0, .int 10, .ref h15]))]) (w1 := (fun _ => [(h0, .inr (11, [.ref h1, .ref h3, .int 0, .ref h4, .ref h5, .ref h6, .ref h7, .int 0, .ref h2])), (h2, .inl (cI, 7, .inl (upd (fun _ => 0) 3 1)))])) (va_runV (As := [.int (-3)]) (rest := []) ⟨hx, hb, hml, hown, hts⟩ (kX11_refuse_3 l dC dI cI cQ h0 h2 h1 h3 h4 h5 h6 h7 s.heap.size) (cwV 1 hts gv_X11_books_X11_refuse_53 rfl rfl rfl (by decide +kernel) ⟨Nat.le_of_ble_eq_true rfl, Nat.le_of_ble_eq_true rfl⟩) ⟨z_blind, va_recv hK hP (ci := 11) (q0 := 0) rfl rfl, z_pre hZ hP hD [0, 2] rfl (by decide)⟩ rfl rfl hl.1 rfl (lv_room (Nat.le_of_ble_eq_true rfl)) dX11_books_13 ⟨Nat.le_of_ble_eq_true rfl, Nat.le_of_ble_eq_true rfl⟩) hP hD hS hA [0, 2] [1] rfl rfl (by decide) (by decide) (fun _ H locs hP hD hS => ?_)
  have hP : va_P (dC, dI) vwCl [(h1, .inr (7, [.ref h8, .ref h9, .ref h10, .int 0, .ref h11, .ref h12, .ref h13, .ref h14, .int 0, .int 0, .int 10, .ref h15])), (h0, .inr (11, [.ref h1, .ref h3, .int 0, .ref h4, .ref h5, .ref h6, .ref h7, .int 0, .ref h2])), (h2, .inl (cI, 7, .inl (upd (fun _ => 0) 3 1)))] H := hP
  have hD : va_D A [(h1, .inr (7, [.ref h8, .ref h9, .ref h10, .int 0, .ref h11, .ref h12, .ref h13, .ref h14, .int 0, .int 0, .int 10, .ref h15])), (h0, .inr (11, [.ref h1, .ref h3, .int 0, .ref h4, .ref h5, .ref h6, .ref h7, .int 0, .ref h2])), (h2, .inl (cI, 7, .inl (upd (fun _ => 0) 3 1)))] := hD
  have hP9 := hP.sub (ws' := []) [] rfl
  have hD9 := hD.sub (ws' := []) [] (by decide) rfl
  exact W.iret (v := (-3)) hx hb hr (fun t ht hW => ⟨⟨(-3), (fun k => [].getD k 0), rfl, rfl, by rw [ht]; exact hP9, hD9⟩, hS.F ht⟩) hS.2.2 dX11_books_16
set_option maxHeartbeats 4000000 in
set_option maxRecDepth 100000 in
theorem kX11_book (l : Launch) (dC : Nat → ClassId) (dI : Nat → Nat → Nat) (cI cQ : ClassId) (h0 h1 h2 h3 h4 h5 h6 h7 : Nat) (p0 : Int32) (hp0l : -2147483648 ≤ p0.toInt) (hp0h : p0.toInt ≤ -1) (p1 : Int32) (hp1l : -2147483648 ≤ p1.toInt) (hp1h : p1.toInt ≤ 2147483647) (sz : Nat) : Met l yX11_book vsX11_book ({ frames := 1, cells := 0, slots := 0, locals := 22 }) (va_Pc [.ref h0, .int p0, .int p1] (zB dC dI cI cQ [(h0, .inr (11, [.ref h2, .ref h3, .int 0, .ref h4, .ref h5, .ref h6, .ref h7, .int 0, .ref h1])), (h1, .inl (cI, 7, .inl (fun _ => 0)))] sz)) (zQi dC dI (va_A [(h0, .inr (11, [.ref h2, .ref h3, .int 0, .ref h4, .ref h5, .ref h6, .ref h7, .int 0, .ref h1])), (h1, .inl (cI, 7, .inl (fun _ => 0)))] sz) (fun ad => []) (-4)) 0 0 (va_A [(h0, .inr (11, [.ref h2, .ref h3, .int 0, .ref h4, .ref h5, .ref h6, .ref h7, .int 0, .ref h1])), (h1, .inl (cI, 7, .inl (fun _ => 0)))] sz) := by
  refine Met.ofW (cc := cX11_book) (maxL := 3) (ret := (some .int)) (by decide) rfl ?_
  intro p e s m args below meth c s₁ B hml hv
  obtain ⟨rfl, hsz, hP, hZ, hD0⟩ := hv
  obtain ⟨hK, hAO, hN⟩ := id hZ
  have hx := B.exec
  have hb := B.bytes
  have hr := B.returns
  have hts := atoms_spec (ws := vsX11_book) B.pre
  have hown : s.vm.findClass RX11 = some m.cls := findClass_of_methodNamed B.named
  have hlocks := B.notSynchronized
  subst hsz
  have hD := hD0.self (sz := s.heap.size)
  generalize hAe : va_A [(h0, .inr (11, [.ref h2, .ref h3, .int 0, .ref h4, .ref h5, .ref h6, .ref h7, .int 0, .ref h1])), (h1, .inl (cI, 7, .inl (fun _ => 0)))] s.heap.size = A at hD ⊢
  have hA : ∀ q : Nat, s.heap.size ≤ q → A q := fun q h => by rw [← hAe]; exact Or.inr h
  have hS : va_S A s.heap s.heap [] := va_S.rf
  have hP : va_P (dC, dI) vwCl [(h0, .inr (11, [.ref h2, .ref h3, .int 0, .ref h4, .ref h5, .ref h6, .ref h7, .int 0, .ref h1])), (h1, .inl (cI, 7, .inl (fun _ => 0)))] s.heap := hP
  have hl := lv_entry ([.ref h0, .int p0, .int p1]) (n := 3) (Nat.le_of_ble_eq_true rfl)
  rw [lg_entry_eq]
  generalize (lg_sl ([.ref h0, .int p0, .int p1]) ++ List.replicate (3 - (lg_sl ([.ref h0, .int p0, .int p1])).length) Slot.unset).toArray = ls at hl ⊢
  have hl : lv_has ls 3 [(0, .ref h0), (1, .int p0), (2, .int p1)] := hl
  refine lv_iload_n hx hb dX11_book_0 rfl (lv_at hl 1 rfl) ?_
  refine lv_if_lt (tgt := 8) hx hb dX11_book_1 (by decide) (fun hc => ?_) (fun hc => ?_)
  rotate_left; exact absurd ((fa_lt _ _).mpr (by rw [show (0 : Int32).toInt = 0 from by decide]; omega)) hc
  refine lv_aload_n hx hb dX11_book_8 rfl (lv_at hl 0 rfl) ?_
  refine lv_bipush (v := (-4)) hx hb dX11_book_9 (by decide) ?_
  refine z_calli (wc := [(h0, .inr (11, [.ref h2, .ref h3, .int 0, .ref h4, .ref h5, .ref h6, .ref h7, .int 0, .ref h1])), (h1, .inl (cI, 7, .inl (fun _ => 0)))]) (wr := []) (w1 := (fun _ => [(h0, .inr (11, [.ref h2, .ref h3, .int 0, .ref h4, .ref h5, .ref h6, .ref h7, .int 0, .ref h1])), (h1, .inl (cI, 7, .inl (upd (fun _ => 0) 4 1)))])) (va_runV (As := [.int (-4)]) (rest := []) ⟨hx, hb, hml, hown, hts⟩ (kX11_refuse l dC dI cI cQ h0 h1 h2 h3 h4 h5 h6 h7 s.heap.size) (cwV 1 hts gv_X11_book_X11_refuse_53 rfl rfl rfl (by decide +kernel) ⟨Nat.le_of_ble_eq_true rfl, Nat.le_of_ble_eq_true rfl⟩) ⟨z_blind, va_recv hK hP (ci := 11) (q0 := 0) rfl rfl, z_pre hZ hP hD [0, 1] rfl (by decide)⟩ rfl rfl hl.1 rfl (lv_room (Nat.le_of_ble_eq_true rfl)) dX11_book_11 ⟨Nat.le_of_ble_eq_true rfl, Nat.le_of_ble_eq_true rfl⟩) hP hD hS hA [0, 1] [] rfl rfl (by decide) (by decide) (fun _ H locs hP hD hS => ?_)
  have hP : va_P (dC, dI) vwCl [(h0, .inr (11, [.ref h2, .ref h3, .int 0, .ref h4, .ref h5, .ref h6, .ref h7, .int 0, .ref h1])), (h1, .inl (cI, 7, .inl (upd (fun _ => 0) 4 1)))] H := hP
  have hD : va_D A [(h0, .inr (11, [.ref h2, .ref h3, .int 0, .ref h4, .ref h5, .ref h6, .ref h7, .int 0, .ref h1])), (h1, .inl (cI, 7, .inl (upd (fun _ => 0) 4 1)))] := hD
  have hP9 := hP.sub (ws' := []) [] rfl
  have hD9 := hD.sub (ws' := []) [] (by decide) rfl
  exact W.iret (v := (-4)) hx hb hr (fun t ht hW => ⟨⟨(-4), (fun k => [].getD k 0), rfl, rfl, by rw [ht]; exact hP9, hD9⟩, hS.F ht⟩) hS.2.2 dX11_book_14
