set_option maxHeartbeats 4000000 in
set_option maxRecDepth 100000 in
theorem kX11_refuse_1 (l : Launch) (dC : Nat → ClassId) (dI : Nat → Nat → Nat) (cI cQ : ClassId) (h0 h1 h2 h3 h4 h5 h6 h7 : Nat) (sz : Nat) : Met l yX11_refuse vsX11_refuse ({ frames := 0, cells := 0, slots := 0, locals := 0 }) (va_Pc [.ref h0, .int (-6)] (zB dC dI cI cQ [(h0, .inr (11, [.ref h2, .ref h3, .int 0, .ref h4, .ref h5, .ref h6, .ref h7, .int 0, .ref h1])), (h1, .inl (cI, 7, .inl (fun _ => 0)))] sz)) (zQi dC dI (va_A [(h0, .inr (11, [.ref h2, .ref h3, .int 0, .ref h4, .ref h5, .ref h6, .ref h7, .int 0, .ref h1])), (h1, .inl (cI, 7, .inl (fun _ => 0)))] sz) (fun ad => [(h0, .inr (11, [.ref h2, .ref h3, .int 0, .ref h4, .ref h5, .ref h6, .ref h7, .int 0, .ref h1])), (h1, .inl (cI, 7, .inl (upd (fun _ => 0) 6 1)))]) (-6)) 0 0 (va_A [(h0, .inr (11, [.ref h2, .ref h3, .int 0, .ref h4, .ref h5, .ref h6, .ref h7, .int 0, .ref h1])), (h1, .inl (cI, 7, .inl (fun _ => 0)))] sz) := by
  refine Met.ofW (cc := cX11_refuse) (maxL := 3) (ret := (some .int)) (by decide) rfl ?_
  intro p e s m args below meth c s₁ B hml hv
  obtain ⟨rfl, hsz, hP, hZ, hD0⟩ := hv
  obtain ⟨hK, hAO, hN⟩ := id hZ
  have hx := B.exec
  have hb := B.bytes
  have hr := B.returns
  have hts := atoms_spec (ws := vsX11_refuse) B.pre
  have hown : s.vm.findClass RX11 = some m.cls := findClass_of_methodNamed B.named
  have hlocks := B.notSynchronized
  subst hsz
  have hD := hD0.self (sz := s.heap.size)
  generalize hAe : va_A [(h0, .inr (11, [.ref h2, .ref h3, .int 0, .ref h4, .ref h5, .ref h6, .ref h7, .int 0, .ref h1])), (h1, .inl (cI, 7, .inl (fun _ => 0)))] s.heap.size = A at hD ⊢
  have hA : ∀ q : Nat, s.heap.size ≤ q → A q := fun q h => by rw [← hAe]; exact Or.inr h
  have hS : va_S A s.heap s.heap [] := va_S.rf
  have hP : va_P (dC, dI) vwCl [(h0, .inr (11, [.ref h2, .ref h3, .int 0, .ref h4, .ref h5, .ref h6, .ref h7, .int 0, .ref h1])), (h1, .inl (cI, 7, .inl (fun _ => 0)))] s.heap := hP
  have hl := lv_entry ([.ref h0, .int (-6)]) (n := 3) (Nat.le_of_ble_eq_true rfl)
  rw [lg_entry_eq]
  generalize (lg_sl ([.ref h0, .int (-6)]) ++ List.replicate (3 - (lg_sl ([.ref h0, .int (-6)])).length) Slot.unset).toArray = ls at hl ⊢
  have hl : lv_has ls 3 [(0, .ref h0), (1, .int (-6))] := hl
  refine lv_iload_n hx hb dX11_refuse_0 rfl (lv_at hl 1 rfl) ?_
  refine lv_ineg hx hb dX11_refuse_1 ?_
  refine lv_topi (fun y1 ey1 => ?_)
  obtain rfl : y1 = 6 := ey1.trans (by decide)
  refine lv_istore_n (lv' := [(2, .int 6), (0, .ref h0), (1, .int (-6))]) hx hb dX11_refuse_2 rfl hl (by decide) rfl (fun ls hl => ?_)
  refine lv_iload_n hx hb dX11_refuse_3 rfl (lv_at hl 0 rfl) ?_
  refine lv_iconst (v := 1) hx hb dX11_refuse_4 (by decide) ?_
  refine lv_icmp_lt (tgt := 24) hx hb dX11_refuse_5 (by decide) (fun hc => ?_) (fun hc => ?_)
  · exact absurd hc (by decide)
  refine lv_iload_n hx hb dX11_refuse_8 rfl (lv_at hl 0 rfl) ?_
  refine lv_bipush (v := 6) hx hb dX11_refuse_9 (by decide) ?_
  refine lv_icmp_gt (tgt := 24) hx hb dX11_refuse_11 (by decide) (fun hc => ?_) (fun hc => ?_)
  · exact absurd hc (by decide)
  refine lv_aload_n hx hb dX11_refuse_14 rfl (lv_at hl 1 rfl) ?_
  refine va_get (D := (dC, dI)) (ci := 11) (v := .ref h1) (C := RX11) (T := TX11) (N := 9) hx hb hts in_X11_refuse_X11 hown hK hP 0 rfl rfl 8 (by decide) (hts (.fieldLink RX11 50 "EachOnHisCue" "refusals" "[I") (by decide +kernel)) (fun _ h9 => h9) rfl dX11_refuse_15 ?_
  refine lv_iload_n hx hb dX11_refuse_18 rfl (lv_at hl 0 rfl) ?_
  refine lv_dup2_11 hx hb dX11_refuse_19 rfl rfl ?_
  refine va_iald hx hb hK hP 1 0 rfl rfl (by unfold vp_in; decide) dX11_refuse_20 ?_
  refine lv_topi (fun y2 ey2 => ?_)
  obtain rfl : y2 = 0 := ey2.trans (by first | rfl | decide)
  refine lv_iconst (v := 1) hx hb dX11_refuse_21 (by decide) ?_
  refine lv_iadd hx hb dX11_refuse_22 ?_
  refine lv_topi (fun y3 ey3 => ?_)
  obtain rfl : y3 = 1 := ey3.trans (by decide)
  refine va_iast hx hb hK hP hD hS 1 0 rfl rfl (by unfold vp_in; decide) dX11_refuse_23 (fun H locs hP hD hS => ?_)
  have hP : va_P (dC, dI) vwCl [(h0, .inr (11, [.ref h2, .ref h3, .int 0, .ref h4, .ref h5, .ref h6, .ref h7, .int 0, .ref h1])), (h1, .inl (cI, 7, .inl (upd (fun _ => 0) 6 1)))] H := hP
  have hD : va_D A [(h0, .inr (11, [.ref h2, .ref h3, .int 0, .ref h4, .ref h5, .ref h6, .ref h7, .int 0, .ref h1])), (h1, .inl (cI, 7, .inl (upd (fun _ => 0) 6 1)))] := hD
  refine lv_iload_n hx hb dX11_refuse_24 rfl (lv_at hl 2 rfl) ?_
  have hP9 := hP.sub (ws' := [(h0, .inr (11, [.ref h2, .ref h3, .int 0, .ref h4, .ref h5, .ref h6, .ref h7, .int 0, .ref h1])), (h1, .inl (cI, 7, .inl (upd (fun _ => 0) 6 1)))]) [0, 1] rfl
  have hD9 := hD.sub (ws' := [(h0, .inr (11, [.ref h2, .ref h3, .int 0, .ref h4, .ref h5, .ref h6, .ref h7, .int 0, .ref h1])), (h1, .inl (cI, 7, .inl (upd (fun _ => 0) 6 1)))]) [0, 1] (by decide) rfl
  exact W.iret (v := (-6)) hx hb hr (fun t ht hW => ⟨⟨(-6), (fun k => [].getD k 0), rfl, rfl, by rw [ht]; exact hP9, hD9⟩, hS.F ht⟩) hS.2.2 dX11_refuse_25
set_option maxHeartbeats 4000000 in
set_option maxRecDepth 100000 in
theorem kX11_feed_2 (l : Launch) (dC : Nat → ClassId) (dI : Nat → Nat → Nat) (cI cQ : ClassId) (h0 h1 h2 h3 h4 h5 h6 h7 : Nat) (p0 : Int32) (hp0l : 256 ≤ p0.toInt) (hp0h : p0.toInt ≤ 2147483647) (sz : Nat) : Met l yX11_feed vsX11_feed ({ frames := 1, cells := 0, slots := 0, locals := 22 }) (va_Pc [.ref h0, .int p0] (zB dC dI cI cQ [(h0, .inr (11, [.ref h2, .ref h3, .int 0, .ref h4, .ref h5, .ref h6, .ref h7, .int 0, .ref h1])), (h1, .inl (cI, 7, .inl (fun _ => 0)))] sz)) (zQi dC dI (va_A [(h0, .inr (11, [.ref h2, .ref h3, .int 0, .ref h4, .ref h5, .ref h6, .ref h7, .int 0, .ref h1])), (h1, .inl (cI, 7, .inl (fun _ => 0)))] sz) (fun ad => []) (-6)) 0 0 (va_A [(h0, .inr (11, [.ref h2, .ref h3, .int 0, .ref h4, .ref h5, .ref h6, .ref h7, .int 0, .ref h1])), (h1, .inl (cI, 7, .inl (fun _ => 0)))] sz) := by
  refine Met.ofW (cc := cX11_feed) (maxL := 2) (ret := (some .int)) (by decide) rfl ?_
  intro p e s m args below meth c s₁ B hml hv
  obtain ⟨rfl, hsz, hP, hZ, hD0⟩ := hv
  obtain ⟨hK, hAO, hN⟩ := id hZ
  have hx := B.exec
  have hb := B.bytes
  have hr := B.returns
  have hts := atoms_spec (ws := vsX11_feed) B.pre
  have hown : s.vm.findClass RX11 = some m.cls := findClass_of_methodNamed B.named
  have hlocks := B.notSynchronized
  subst hsz
  have hD := hD0.self (sz := s.heap.size)
  generalize hAe : va_A [(h0, .inr (11, [.ref h2, .ref h3, .int 0, .ref h4, .ref h5, .ref h6, .ref h7, .int 0, .ref h1])), (h1, .inl (cI, 7, .inl (fun _ => 0)))] s.heap.size = A at hD ⊢
  have hA : ∀ q : Nat, s.heap.size ≤ q → A q := fun q h => by rw [← hAe]; exact Or.inr h
  have hS : va_S A s.heap s.heap [] := va_S.rf
  have hP : va_P (dC, dI) vwCl [(h0, .inr (11, [.ref h2, .ref h3, .int 0, .ref h4, .ref h5, .ref h6, .ref h7, .int 0, .ref h1])), (h1, .inl (cI, 7, .inl (fun _ => 0)))] s.heap := hP
  have hl := lv_entry ([.ref h0, .int p0]) (n := 2) (Nat.le_of_ble_eq_true rfl)
  rw [lg_entry_eq]
  generalize (lg_sl ([.ref h0, .int p0]) ++ List.replicate (2 - (lg_sl ([.ref h0, .int p0])).length) Slot.unset).toArray = ls at hl ⊢
  have hl : lv_has ls 2 [(0, .ref h0), (1, .int p0)] := hl
  refine lv_iload_n hx hb dX11_feed_0 rfl (lv_at hl 1 rfl) ?_
  refine lv_if_ge (tgt := 11) hx hb dX11_feed_1 (by decide) (fun hc => ?_) (fun hc => ?_)
  rotate_left; exact absurd ((fa_le _ _).mpr (by rw [show (0 : Int32).toInt = 0 from by decide]; omega)) hc
  refine lv_iload_n hx hb dX11_feed_11 rfl (lv_at hl 1 rfl) ?_
  refine lv_sipush (v := 255) hx hb dX11_feed_12 (by decide) ?_
  refine lv_icmp_gt (tgt := 30) hx hb dX11_feed_15 (by decide) (fun hc => ?_) (fun hc => ?_)
  rotate_left; exact absurd ((fa_lt _ _).mpr (by rw [show (255 : Int32).toInt = 255 from by decide]; omega)) hc
  refine lv_aload_n hx hb dX11_feed_30 rfl (lv_at hl 0 rfl) ?_
  refine lv_bipush (v := (-6)) hx hb dX11_feed_31 (by decide) ?_
  refine z_calli (wc := [(h0, .inr (11, [.ref h2, .ref h3, .int 0, .ref h4, .ref h5, .ref h6, .ref h7, .int 0, .ref h1])), (h1, .inl (cI, 7, .inl (fun _ => 0)))]) (wr := []) (w1 := (fun _ => [(h0, .inr (11, [.ref h2, .ref h3, .int 0, .ref h4, .ref h5, .ref h6, .ref h7, .int 0, .ref h1])), (h1, .inl (cI, 7, .inl (upd (fun _ => 0) 6 1)))])) (va_runV (As := [.int (-6)]) (rest := []) ⟨hx, hb, hml, hown, hts⟩ (kX11_refuse_1 l dC dI cI cQ h0 h1 h2 h3 h4 h5 h6 h7 s.heap.size) (cwV 1 hts gv_X11_feed_X11_refuse_53 rfl rfl rfl (by decide +kernel) ⟨Nat.le_of_ble_eq_true rfl, Nat.le_of_ble_eq_true rfl⟩) ⟨z_blind, va_recv hK hP (ci := 11) (q0 := 0) rfl rfl, z_pre hZ hP hD [0, 1] rfl (by decide)⟩ rfl rfl hl.1 rfl (lv_room (Nat.le_of_ble_eq_true rfl)) dX11_feed_33 ⟨Nat.le_of_ble_eq_true rfl, Nat.le_of_ble_eq_true rfl⟩) hP hD hS hA [0, 1] [] rfl rfl (by decide) (by decide) (fun _ H locs hP hD hS => ?_)
  have hP : va_P (dC, dI) vwCl [(h0, .inr (11, [.ref h2, .ref h3, .int 0, .ref h4, .ref h5, .ref h6, .ref h7, .int 0, .ref h1])), (h1, .inl (cI, 7, .inl (upd (fun _ => 0) 6 1)))] H := hP
  have hD : va_D A [(h0, .inr (11, [.ref h2, .ref h3, .int 0, .ref h4, .ref h5, .ref h6, .ref h7, .int 0, .ref h1])), (h1, .inl (cI, 7, .inl (upd (fun _ => 0) 6 1)))] := hD
  have hP9 := hP.sub (ws' := []) [] rfl
  have hD9 := hD.sub (ws' := []) [] (by decide) rfl
  exact W.iret (v := (-6)) hx hb hr (fun t ht hW => ⟨⟨(-6), (fun k => [].getD k 0), rfl, rfl, by rw [ht]; exact hP9, hD9⟩, hS.F ht⟩) hS.2.2 dX11_feed_36
set_option maxHeartbeats 4000000 in
set_option maxRecDepth 100000 in
theorem kX4_firstWrongLetter (l : Launch) (dC : Nat → ClassId) (dI : Nat → Nat → Nat) (cI cQ : ClassId) (h0 h1 : Nat) (sz : Nat) : Met l yX4_firstWrongLetter vsX4_firstWrongLetter ({ frames := 0, cells := 0, slots := 0, locals := 0 }) (va_Pc [.ref h0] (zB dC dI cI cQ [(h0, .inr (4, [.ref h1, .int 0]))] sz)) (zQi dC dI (va_A [(h0, .inr (4, [.ref h1, .int 0]))] sz) (fun ad => [(h0, .inr (4, [.ref h1, .int 0]))]) 0) 0 0 (va_A [(h0, .inr (4, [.ref h1, .int 0]))] sz) := by
  refine Met.ofW (cc := cX4_firstWrongLetter) (maxL := 4) (ret := (some .int)) (by decide) rfl ?_
  intro p e s m args below meth c s₁ B hml hv
  obtain ⟨rfl, hsz, hP, hZ, hD0⟩ := hv
  obtain ⟨hK, hAO, hN⟩ := id hZ
  have hx := B.exec
  have hb := B.bytes
  have hr := B.returns
  have hts := atoms_spec (ws := vsX4_firstWrongLetter) B.pre
  have hown : s.vm.findClass RX4 = some m.cls := findClass_of_methodNamed B.named
  have hlocks := B.notSynchronized
  subst hsz
  have hD := hD0.self (sz := s.heap.size)
  generalize hAe : va_A [(h0, .inr (4, [.ref h1, .int 0]))] s.heap.size = A at hD ⊢
  have hA : ∀ q : Nat, s.heap.size ≤ q → A q := fun q h => by rw [← hAe]; exact Or.inr h
  have hS : va_S A s.heap s.heap [] := va_S.rf
  have hP : va_P (dC, dI) vwCl [(h0, .inr (4, [.ref h1, .int 0]))] s.heap := hP
  have hl := lv_entry ([.ref h0]) (n := 4) (Nat.le_of_ble_eq_true rfl)
  rw [lg_entry_eq]
  generalize (lg_sl ([.ref h0]) ++ List.replicate (4 - (lg_sl ([.ref h0])).length) Slot.unset).toArray = ls at hl ⊢
  have hl : lv_has ls 4 [(0, .ref h0)] := hl
  refine lv_iconst (v := 0) hx hb dX4_firstWrongLetter_0 (by decide) ?_
  refine lv_istore_n (lv' := [(1, .int 0), (0, .ref h0)]) hx hb dX4_firstWrongLetter_1 rfl hl (by decide) rfl (fun ls hl => ?_)
  refine lv_iconst (v := 0) hx hb dX4_firstWrongLetter_2 (by decide) ?_
  refine lv_istore_n (lv' := [(2, .int 0), (1, .int 0), (0, .ref h0)]) hx hb dX4_firstWrongLetter_3 rfl hl (by decide) rfl (fun ls hl => ?_)
  refine lv_iconst (v := 0) hx hb dX4_firstWrongLetter_4 (by decide) ?_
  refine lv_istore_n (lv' := [(3, .int 0), (2, .int 0), (1, .int 0), (0, .ref h0)]) hx hb dX4_firstWrongLetter_5 rfl hl (by decide) rfl (fun ls hl => ?_)
  refine lv_iload_n hx hb dX4_firstWrongLetter_6 rfl (lv_at hl 0 rfl) ?_
  refine lv_aload_n hx hb dX4_firstWrongLetter_7 rfl (lv_at hl 3 rfl) ?_
  refine va_get (D := (dC, dI)) (ci := 4) (v := .int 0) (C := RX4) (T := TX4) (N := 2) hx hb hts in_X4_firstWrongLetter_X4 hown hK hP 0 rfl rfl 1 (by decide) (hts (.fieldLink RX4 15 "EachOnHisCue$Letters" "size" "I") (by decide +kernel)) (fun _ h9 => h9) rfl dX4_firstWrongLetter_8 ?_
  refine lv_icmp_ge (tgt := 50) hx hb dX4_firstWrongLetter_11 (by decide) (fun hc => ?_) (fun hc => ?_)
  rotate_left; exact absurd hc (by decide)
  refine lv_aload_n hx hb dX4_firstWrongLetter_50 rfl (lv_at hl 3 rfl) ?_
  refine va_get (D := (dC, dI)) (ci := 4) (v := .int 0) (C := RX4) (T := TX4) (N := 2) hx hb hts in_X4_firstWrongLetter_X4 hown hK hP 0 rfl rfl 1 (by decide) (hts (.fieldLink RX4 15 "EachOnHisCue$Letters" "size" "I") (by decide +kernel)) (fun _ h9 => h9) rfl dX4_firstWrongLetter_51 ?_
  refine lv_if_le (tgt := 66) hx hb dX4_firstWrongLetter_54 (by decide) (fun hc => ?_) (fun hc => ?_)
  rotate_left; exact absurd hc (by decide)
  refine lv_aload_n hx hb dX4_firstWrongLetter_66 rfl (lv_at hl 3 rfl) ?_
  refine va_get (D := (dC, dI)) (ci := 4) (v := .int 0) (C := RX4) (T := TX4) (N := 2) hx hb hts in_X4_firstWrongLetter_X4 hown hK hP 0 rfl rfl 1 (by decide) (hts (.fieldLink RX4 15 "EachOnHisCue$Letters" "size" "I") (by decide +kernel)) (fun _ h9 => h9) rfl dX4_firstWrongLetter_67 ?_
  have hP9 := hP.sub (ws' := [(h0, .inr (4, [.ref h1, .int 0]))]) [0] rfl
  have hD9 := hD.sub (ws' := [(h0, .inr (4, [.ref h1, .int 0]))]) [0] (by decide) rfl
  exact W.iret (v := 0) hx hb hr (fun t ht hW => ⟨⟨0, (fun k => [].getD k 0), rfl, rfl, by rw [ht]; exact hP9, hD9⟩, hS.F ht⟩) hS.2.2 dX4_firstWrongLetter_70
set_option maxHeartbeats 4000000 in
set_option maxRecDepth 100000 in
theorem kX4_firstFault (l : Launch) (dC : Nat → ClassId) (dI : Nat → Nat → Nat) (cI cQ : ClassId) (h0 h1 h2 : Nat) (sz : Nat) : Met l yX4_firstFault vsX4_firstFault ({ frames := 1, cells := 0, slots := 0, locals := 23 }) (va_Pc [.ref h0, .ref h1] (zB dC dI cI cQ [(h0, .inr (4, [.ref h2, .int 0]))] sz)) (zQi dC dI (va_A [(h0, .inr (4, [.ref h2, .int 0]))] sz) (fun ad => [(h0, .inr (4, [.ref h2, .int 0]))]) (-1000)) 0 0 (va_A [(h0, .inr (4, [.ref h2, .int 0]))] sz) := by
  refine Met.ofW (cc := cX4_firstFault) (maxL := 3) (ret := (some .int)) (by decide) rfl ?_
  intro p e s m args below meth c s₁ B hml hv
  obtain ⟨rfl, hsz, hP, hZ, hD0⟩ := hv
  obtain ⟨hK, hAO, hN⟩ := id hZ
  have hx := B.exec
  have hb := B.bytes
  have hr := B.returns
  have hts := atoms_spec (ws := vsX4_firstFault) B.pre
  have hown : s.vm.findClass RX4 = some m.cls := findClass_of_methodNamed B.named
  have hlocks := B.notSynchronized
  subst hsz
  have hD := hD0.self (sz := s.heap.size)
  generalize hAe : va_A [(h0, .inr (4, [.ref h2, .int 0]))] s.heap.size = A at hD ⊢
  have hA : ∀ q : Nat, s.heap.size ≤ q → A q := fun q h => by rw [← hAe]; exact Or.inr h
  have hS : va_S A s.heap s.heap [] := va_S.rf
  have hP : va_P (dC, dI) vwCl [(h0, .inr (4, [.ref h2, .int 0]))] s.heap := hP
  have hl := lv_entry ([.ref h0, .ref h1]) (n := 3) (Nat.le_of_ble_eq_true rfl)
  rw [lg_entry_eq]
  generalize (lg_sl ([.ref h0, .ref h1]) ++ List.replicate (3 - (lg_sl ([.ref h0, .ref h1])).length) Slot.unset).toArray = ls at hl ⊢
  have hl : lv_has ls 3 [(0, .ref h0), (1, .ref h1)] := hl
  refine lv_aload_n hx hb dX4_firstFault_0 rfl (lv_at hl 0 rfl) ?_
  refine z_calli (wc := [(h0, .inr (4, [.ref h2, .int 0]))]) (wr := []) (w1 := (fun _ => [(h0, .inr (4, [.ref h2, .int 0]))])) (va_runV (As := []) (rest := []) ⟨hx, hb, hml, hown, hts⟩ (kX4_firstWrongLetter l dC dI cI cQ h0 h2 s.heap.size) (cwV 0 hts gv_X4_firstFault_X4_firstWrongLetter_23 rfl rfl rfl (by decide +kernel) ⟨Nat.le_of_ble_eq_true rfl, Nat.le_of_ble_eq_true rfl⟩) ⟨z_blind, va_recv hK hP (ci := 4) (q0 := 0) rfl rfl, z_pre hZ hP hD [0] rfl (by decide)⟩ rfl rfl hl.1 rfl (lv_room (Nat.le_of_ble_eq_true rfl)) dX4_firstFault_1 ⟨Nat.le_of_ble_eq_true rfl, Nat.le_of_ble_eq_true rfl⟩) hP hD hS hA [0] [] rfl rfl (by decide) (by decide) (fun _ H locs hP hD hS => ?_)
  have hP : va_P (dC, dI) vwCl [(h0, .inr (4, [.ref h2, .int 0]))] H := hP
  have hD : va_D A [(h0, .inr (4, [.ref h2, .int 0]))] := hD
  refine lv_istore_n (lv' := [(2, .int 0), (0, .ref h0), (1, .ref h1)]) hx hb dX4_firstFault_4 rfl hl (by decide) rfl (fun ls hl => ?_)
  refine lv_iload_n hx hb dX4_firstFault_5 rfl (lv_at hl 0 rfl) ?_
  refine lv_bipush (v := (-9)) hx hb dX4_firstFault_6 (by decide) ?_
  refine lv_icmp_eq (tgt := 17) hx hb dX4_firstFault_8 (by decide) (fun hc => ?_) (fun hc => ?_)
  · exact absurd hc (by decide)
  refine lv_sipush (v := (-1000)) hx hb dX4_firstFault_11 (by decide) ?_
  refine lv_iload_n hx hb dX4_firstFault_14 rfl (lv_at hl 0 rfl) ?_
  refine lv_isub hx hb dX4_firstFault_15 ?_
  refine lv_topi (fun y2 ey2 => ?_)
  obtain rfl : y2 = (-1000) := ey2.trans (by decide)
  have hP9 := hP.sub (ws' := [(h0, .inr (4, [.ref h2, .int 0]))]) [0] rfl
  have hD9 := hD.sub (ws' := [(h0, .inr (4, [.ref h2, .int 0]))]) [0] (by decide) rfl
  exact W.iret (v := (-1000)) hx hb hr (fun t ht hW => ⟨⟨(-1000), (fun k => [].getD k 0), rfl, rfl, by rw [ht]; exact hP9, hD9⟩, hS.F ht⟩) hS.2.2 dX4_firstFault_16
set_option maxHeartbeats 4000000 in
set_option maxRecDepth 100000 in
theorem kX11_piece (l : Launch) (dC : Nat → ClassId) (dI : Nat → Nat → Nat) (cI cQ : ClassId) (h0 h1 h2 h3 h4 h5 h6 h7 h8 : Nat) (sz : Nat) : Met l yX11_piece vsX11_piece ({ frames := 2, cells := 0, slots := 0, locals := 45 }) (va_Pc [.ref h0] (zB dC dI cI cQ [(h0, .inr (11, [.ref h2, .ref h3, .int 0, .ref h4, .ref h5, .ref h1, .ref h6, .int 0, .ref h7])), (h1, .inr (4, [.ref h8, .int 0]))] sz)) (zQi dC dI (va_A [(h0, .inr (11, [.ref h2, .ref h3, .int 0, .ref h4, .ref h5, .ref h1, .ref h6, .int 0, .ref h7])), (h1, .inr (4, [.ref h8, .int 0]))] sz) (fun ad => []) (-1000)) 0 0 (va_A [(h0, .inr (11, [.ref h2, .ref h3, .int 0, .ref h4, .ref h5, .ref h1, .ref h6, .int 0, .ref h7])), (h1, .inr (4, [.ref h8, .int 0]))] sz) := by
  refine Met.ofW (cc := cX11_piece) (maxL := 2) (ret := (some .int)) (by decide) rfl ?_
  intro p e s m args below meth c s₁ B hml hv
  obtain ⟨rfl, hsz, hP, hZ, hD0⟩ := hv
  obtain ⟨hK, hAO, hN⟩ := id hZ
  have hx := B.exec
  have hb := B.bytes
  have hr := B.returns
  have hts := atoms_spec (ws := vsX11_piece) B.pre
  have hown : s.vm.findClass RX11 = some m.cls := findClass_of_methodNamed B.named
  have hlocks := B.notSynchronized
  subst hsz
  have hD := hD0.self (sz := s.heap.size)
  generalize hAe : va_A [(h0, .inr (11, [.ref h2, .ref h3, .int 0, .ref h4, .ref h5, .ref h1, .ref h6, .int 0, .ref h7])), (h1, .inr (4, [.ref h8, .int 0]))] s.heap.size = A at hD ⊢
  have hA : ∀ q : Nat, s.heap.size ≤ q → A q := fun q h => by rw [← hAe]; exact Or.inr h
  have hS : va_S A s.heap s.heap [] := va_S.rf
  have hP : va_P (dC, dI) vwCl [(h0, .inr (11, [.ref h2, .ref h3, .int 0, .ref h4, .ref h5, .ref h1, .ref h6, .int 0, .ref h7])), (h1, .inr (4, [.ref h8, .int 0]))] s.heap := hP
  have hl := lv_entry ([.ref h0]) (n := 2) (Nat.le_of_ble_eq_true rfl)
  rw [lg_entry_eq]
  generalize (lg_sl ([.ref h0]) ++ List.replicate (2 - (lg_sl ([.ref h0])).length) Slot.unset).toArray = ls at hl ⊢
  have hl : lv_has ls 2 [(0, .ref h0)] := hl
  refine lv_aload_n hx hb dX11_piece_0 rfl (lv_at hl 0 rfl) ?_
  refine va_get (D := (dC, dI)) (ci := 11) (v := .ref h1) (C := RX11) (T := TX11) (N := 9) hx hb hts in_X11_piece_X11 hown hK hP 0 rfl rfl 5 (by decide) (hts (.fieldLink RX11 38 "EachOnHisCue" "letters" "LEachOnHisCue$Letters;") (by decide +kernel)) (fun _ h9 => h9) rfl dX11_piece_1 ?_
  refine lv_aload_n hx hb dX11_piece_4 rfl (lv_at hl 0 rfl) ?_
  refine va_get (D := (dC, dI)) (ci := 11) (v := .ref h2) (C := RX11) (T := TX11) (N := 9) hx hb hts in_X11_piece_X11 hown hK hP 0 rfl rfl 0 (by decide) (hts (.fieldLink RX11 10 "EachOnHisCue" "play" "LEachOnHisCue$Play;") (by decide +kernel)) (fun _ h9 => h9) rfl dX11_piece_5 ?_
  refine z_calli (wc := [(h1, .inr (4, [.ref h8, .int 0]))]) (wr := [(h0, .inr (11, [.ref h2, .ref h3, .int 0, .ref h4, .ref h5, .ref h1, .ref h6, .int 0, .ref h7]))]) (w1 := (fun _ => [(h1, .inr (4, [.ref h8, .int 0]))])) (va_runV (As := [.ref h2]) (rest := []) ⟨hx, hb, hml, hown, hts⟩ (kX4_firstFault l dC dI cI cQ h1 h2 h8 s.heap.size) (cwV 1 hts gv_X11_piece_X4_firstFault_64 rfl rfl rfl (by decide +kernel) ⟨Nat.le_of_ble_eq_true rfl, Nat.le_of_ble_eq_true rfl⟩) ⟨z_blind, va_recv hK hP (ci := 4) (q0 := 1) rfl rfl, z_pre hZ hP hD [1] rfl (by decide)⟩ rfl rfl hl.1 rfl (lv_room (Nat.le_of_ble_eq_true rfl)) dX11_piece_8 ⟨Nat.le_of_ble_eq_true rfl, Nat.le_of_ble_eq_true rfl⟩) hP hD hS hA [1] [0] rfl rfl (by decide) (by decide) (fun _ H locs hP hD hS => ?_)
  have hP : va_P (dC, dI) vwCl [(h0, .inr (11, [.ref h2, .ref h3, .int 0, .ref h4, .ref h5, .ref h1, .ref h6, .int 0, .ref h7])), (h1, .inr (4, [.ref h8, .int 0]))] H := hP
  have hD : va_D A [(h0, .inr (11, [.ref h2, .ref h3, .int 0, .ref h4, .ref h5, .ref h1, .ref h6, .int 0, .ref h7])), (h1, .inr (4, [.ref h8, .int 0]))] := hD
  refine lv_istore_n (lv' := [(1, .int (-1000)), (0, .ref h0)]) hx hb dX11_piece_11 rfl hl (by decide) rfl (fun ls hl => ?_)
  refine lv_iload_n hx hb dX11_piece_12 rfl (lv_at hl 0 rfl) ?_
  refine lv_if_ne (tgt := 38) hx hb dX11_piece_13 (by decide) (fun hc => ?_) (fun hc => ?_)
  rotate_left; exact absurd hc (by decide)
  refine lv_aload_n hx hb dX11_piece_38 rfl (lv_at hl 1 rfl) ?_
  refine va_get (D := (dC, dI)) (ci := 11) (v := .ref h1) (C := RX11) (T := TX11) (N := 9) hx hb hts in_X11_piece_X11 hown hK hP 0 rfl rfl 5 (by decide) (hts (.fieldLink RX11 38 "EachOnHisCue" "letters" "LEachOnHisCue$Letters;") (by decide +kernel)) (fun _ h9 => h9) rfl dX11_piece_39 ?_
  refine lv_iconst (v := 0) hx hb dX11_piece_42 (by decide) ?_
  refine va_put (D := (dC, dI)) (ci := 4) (v := .int 0) (ty := .int) (C := RX4) (T := TX4) (N := 2) hx hb hts in_X11_piece_X4 tyX4 tyX4_ok nmX4 hown hK hP hD hS 1 rfl rfl 1 (by decide) (hts (.fieldLink RX11 57 "EachOnHisCue$Letters" "size" "I") (by decide +kernel)) (fun _ h9 => h9) rfl (by decide +kernel) rfl rfl (Nat.le_of_ble_eq_true rfl) dX11_piece_43 (fun H locs hP hD hS => ?_)
  have hP : va_P (dC, dI) vwCl [(h0, .inr (11, [.ref h2, .ref h3, .int 0, .ref h4, .ref h5, .ref h1, .ref h6, .int 0, .ref h7])), (h1, .inr (4, [.ref h8, .int 0]))] H := hP
  have hD : va_D A [(h0, .inr (11, [.ref h2, .ref h3, .int 0, .ref h4, .ref h5, .ref h1, .ref h6, .int 0, .ref h7])), (h1, .inr (4, [.ref h8, .int 0]))] := hD
  refine lv_iload_n hx hb dX11_piece_46 rfl (lv_at hl 0 rfl) ?_
  have hP9 := hP.sub (ws' := []) [] rfl
  have hD9 := hD.sub (ws' := []) [] (by decide) rfl
  exact W.iret (v := (-1000)) hx hb hr (fun t ht hW => ⟨⟨(-1000), (fun k => [].getD k 0), rfl, rfl, by rw [ht]; exact hP9, hD9⟩, hS.F ht⟩) hS.2.2 dX11_piece_47
set_option maxHeartbeats 4000000 in
set_option maxRecDepth 100000 in
theorem kX7_hasPlayer (l : Launch) (dC : Nat → ClassId) (dI : Nat → Nat → Nat) (cI cQ : ClassId) (h0 : Nat) (p0 : Int32) (hp0l : -2147483648 ≤ p0.toInt) (hp0h : p0.toInt ≤ -1) (sz : Nat) : Met l yX7_hasPlayer vsX7_hasPlayer ({ frames := 0, cells := 0, slots := 0, locals := 0 }) (va_Pc [.ref h0, .int p0] (zB dC dI cI cQ [] sz)) (zQi dC dI (va_A [] sz) (fun ad => []) 0) 0 0 (va_A [] sz) := by
  refine Met.ofW (cc := cX7_hasPlayer) (maxL := 2) (ret := (some .boolean)) (by decide) rfl ?_
  intro p e s m args below meth c s₁ B hml hv
  obtain ⟨rfl, hsz, hP, hZ, hD0⟩ := hv
  obtain ⟨hK, hAO, hN⟩ := id hZ
  have hx := B.exec
  have hb := B.bytes
  have hr := B.returns
  have hts := atoms_spec (ws := vsX7_hasPlayer) B.pre
  have hown : s.vm.findClass RX7 = some m.cls := findClass_of_methodNamed B.named
  have hlocks := B.notSynchronized
  subst hsz
  have hD := hD0.self (sz := s.heap.size)
  generalize hAe : va_A [] s.heap.size = A at hD ⊢
  have hA : ∀ q : Nat, s.heap.size ≤ q → A q := fun q h => by rw [← hAe]; exact Or.inr h
  have hS : va_S A s.heap s.heap [] := va_S.rf
  have hP : va_P (dC, dI) vwCl [] s.heap := hP
  have hl := lv_entry ([.ref h0, .int p0]) (n := 2) (Nat.le_of_ble_eq_true rfl)
  rw [lg_entry_eq]
  generalize (lg_sl ([.ref h0, .int p0]) ++ List.replicate (2 - (lg_sl ([.ref h0, .int p0])).length) Slot.unset).toArray = ls at hl ⊢
  have hl : lv_has ls 2 [(0, .ref h0), (1, .int p0)] := hl
  refine lv_iload_n hx hb dX7_hasPlayer_0 rfl (lv_at hl 1 rfl) ?_
  refine lv_if_lt (tgt := 16) hx hb dX7_hasPlayer_1 (by decide) (fun hc => ?_) (fun hc => ?_)
  rotate_left; exact absurd ((fa_lt _ _).mpr (by rw [show (0 : Int32).toInt = 0 from by decide]; omega)) hc
  refine lv_iconst (v := 0) hx hb dX7_hasPlayer_16 (by decide) ?_
  have hP9 := hP.sub (ws' := []) [] rfl
  have hD9 := hD.sub (ws' := []) [] (by decide) rfl
  exact W.zret (v := 0) hx hb hr rfl (fun t ht hW => ⟨⟨0, (fun k => [].getD k 0), rfl, rfl, by rw [ht]; exact hP9, hD9⟩, hS.F ht⟩) hS.2.2 dX7_hasPlayer_17
set_option maxHeartbeats 4000000 in
set_option maxRecDepth 100000 in
theorem kX11_refuse_2 (l : Launch) (dC : Nat → ClassId) (dI : Nat → Nat → Nat) (cI cQ : ClassId) (h0 h1 h2 h3 h4 h5 h6 h7 : Nat) (sz : Nat) : Met l yX11_refuse vsX11_refuse ({ frames := 0, cells := 0, slots := 0, locals := 0 }) (va_Pc [.ref h0, .int (-1)] (zB dC dI cI cQ [(h0, .inr (11, [.ref h2, .ref h3, .int 0, .ref h4, .ref h5, .ref h6, .ref h7, .int 0, .ref h1])), (h1, .inl (cI, 7, .inl (fun _ => 0)))] sz)) (zQi dC dI (va_A [(h0, .inr (11, [.ref h2, .ref h3, .int 0, .ref h4, .ref h5, .ref h6, .ref h7, .int 0, .ref h1])), (h1, .inl (cI, 7, .inl (fun _ => 0)))] sz) (fun ad => [(h0, .inr (11, [.ref h2, .ref h3, .int 0, .ref h4, .ref h5, .ref h6, .ref h7, .int 0, .ref h1])), (h1, .inl (cI, 7, .inl (upd (fun _ => 0) 1 1)))]) (-1)) 0 0 (va_A [(h0, .inr (11, [.ref h2, .ref h3, .int 0, .ref h4, .ref h5, .ref h6, .ref h7, .int 0, .ref h1])), (h1, .inl (cI, 7, .inl (fun _ => 0)))] sz) := by
  refine Met.ofW (cc := cX11_refuse) (maxL := 3) (ret := (some .int)) (by decide) rfl ?_
  intro p e s m args below meth c s₁ B hml hv
  obtain ⟨rfl, hsz, hP, hZ, hD0⟩ := hv
  obtain ⟨hK, hAO, hN⟩ := id hZ
  have hx := B.exec
  have hb := B.bytes
  have hr := B.returns
  have hts := atoms_spec (ws := vsX11_refuse) B.pre
  have hown : s.vm.findClass RX11 = some m.cls := findClass_of_methodNamed B.named
  have hlocks := B.notSynchronized
  subst hsz
  have hD := hD0.self (sz := s.heap.size)
  generalize hAe : va_A [(h0, .inr (11, [.ref h2, .ref h3, .int 0, .ref h4, .ref h5, .ref h6, .ref h7, .int 0, .ref h1])), (h1, .inl (cI, 7, .inl (fun _ => 0)))] s.heap.size = A at hD ⊢
  have hA : ∀ q : Nat, s.heap.size ≤ q → A q := fun q h => by rw [← hAe]; exact Or.inr h
  have hS : va_S A s.heap s.heap [] := va_S.rf
  have hP : va_P (dC, dI) vwCl [(h0, .inr (11, [.ref h2, .ref h3, .int 0, .ref h4, .ref h5, .ref h6, .ref h7, .int 0, .ref h1])), (h1, .inl (cI, 7, .inl (fun _ => 0)))] s.heap := hP
  have hl := lv_entry ([.ref h0, .int (-1)]) (n := 3) (Nat.le_of_ble_eq_true rfl)
  rw [lg_entry_eq]
  generalize (lg_sl ([.ref h0, .int (-1)]) ++ List.replicate (3 - (lg_sl ([.ref h0, .int (-1)])).length) Slot.unset).toArray = ls at hl ⊢
  have hl : lv_has ls 3 [(0, .ref h0), (1, .int (-1))] := hl
  refine lv_iload_n hx hb dX11_refuse_0 rfl (lv_at hl 1 rfl) ?_
  refine lv_ineg hx hb dX11_refuse_1 ?_
  refine lv_topi (fun y1 ey1 => ?_)
  obtain rfl : y1 = 1 := ey1.trans (by decide)
  refine lv_istore_n (lv' := [(2, .int 1), (0, .ref h0), (1, .int (-1))]) hx hb dX11_refuse_2 rfl hl (by decide) rfl (fun ls hl => ?_)
  refine lv_iload_n hx hb dX11_refuse_3 rfl (lv_at hl 0 rfl) ?_
  refine lv_iconst (v := 1) hx hb dX11_refuse_4 (by decide) ?_
  refine lv_icmp_lt (tgt := 24) hx hb dX11_refuse_5 (by decide) (fun hc => ?_) (fun hc => ?_)
  · exact absurd hc (by decide)
  refine lv_iload_n hx hb dX11_refuse_8 rfl (lv_at hl 0 rfl) ?_
  refine lv_bipush (v := 6) hx hb dX11_refuse_9 (by decide) ?_
  refine lv_icmp_gt (tgt := 24) hx hb dX11_refuse_11 (by decide) (fun hc => ?_) (fun hc => ?_)
  · exact absurd hc (by decide)
  refine lv_aload_n hx hb dX11_refuse_14 rfl (lv_at hl 1 rfl) ?_
  refine va_get (D := (dC, dI)) (ci := 11) (v := .ref h1) (C := RX11) (T := TX11) (N := 9) hx hb hts in_X11_refuse_X11 hown hK hP 0 rfl rfl 8 (by decide) (hts (.fieldLink RX11 50 "EachOnHisCue" "refusals" "[I") (by decide +kernel)) (fun _ h9 => h9) rfl dX11_refuse_15 ?_
  refine lv_iload_n hx hb dX11_refuse_18 rfl (lv_at hl 0 rfl) ?_
  refine lv_dup2_11 hx hb dX11_refuse_19 rfl rfl ?_
  refine va_iald hx hb hK hP 1 0 rfl rfl (by unfold vp_in; decide) dX11_refuse_20 ?_
  refine lv_topi (fun y2 ey2 => ?_)
  obtain rfl : y2 = 0 := ey2.trans (by first | rfl | decide)
  refine lv_iconst (v := 1) hx hb dX11_refuse_21 (by decide) ?_
  refine lv_iadd hx hb dX11_refuse_22 ?_
  refine lv_topi (fun y3 ey3 => ?_)
  obtain rfl : y3 = 1 := ey3.trans (by decide)
  refine va_iast hx hb hK hP hD hS 1 0 rfl rfl (by unfold vp_in; decide) dX11_refuse_23 (fun H locs hP hD hS => ?_)
  have hP : va_P (dC, dI) vwCl [(h0, .inr (11, [.ref h2, .ref h3, .int 0, .ref h4, .ref h5, .ref h6, .ref h7, .int 0, .ref h1])), (h1, .inl (cI, 7, .inl (upd (fun _ => 0) 1 1)))] H := hP
  have hD : va_D A [(h0, .inr (11, [.ref h2, .ref h3, .int 0, .ref h4, .ref h5, .ref h6, .ref h7, .int 0, .ref h1])), (h1, .inl (cI, 7, .inl (upd (fun _ => 0) 1 1)))] := hD
  refine lv_iload_n hx hb dX11_refuse_24 rfl (lv_at hl 2 rfl) ?_
  have hP9 := hP.sub (ws' := [(h0, .inr (11, [.ref h2, .ref h3, .int 0, .ref h4, .ref h5, .ref h6, .ref h7, .int 0, .ref h1])), (h1, .inl (cI, 7, .inl (upd (fun _ => 0) 1 1)))]) [0, 1] rfl
  have hD9 := hD.sub (ws' := [(h0, .inr (11, [.ref h2, .ref h3, .int 0, .ref h4, .ref h5, .ref h6, .ref h7, .int 0, .ref h1])), (h1, .inl (cI, 7, .inl (upd (fun _ => 0) 1 1)))]) [0, 1] (by decide) rfl
  exact W.iret (v := (-1)) hx hb hr (fun t ht hW => ⟨⟨(-1), (fun k => [].getD k 0), rfl, rfl, by rw [ht]; exact hP9, hD9⟩, hS.F ht⟩) hS.2.2 dX11_refuse_25
set_option maxHeartbeats 4000000 in
set_option maxRecDepth 100000 in
theorem kX11_player (l : Launch) (dC : Nat → ClassId) (dI : Nat → Nat → Nat) (cI cQ : ClassId) (h0 h1 h2 h3 h4 h5 h6 h7 h8 h9 h10 h11 h12 h13 h14 h15 : Nat) (p0 : Int32) (hp0l : -2147483648 ≤ p0.toInt) (hp0h : p0.toInt ≤ -1) (p1 : Int32) (hp1l : -2147483648 ≤ p1.toInt) (hp1h : p1.toInt ≤ 2147483647) (sz : Nat) : Met l yX11_player vsX11_player ({ frames := 1, cells := 0, slots := 0, locals := 22 }) (va_Pc [.ref h0, .int p0, .int p1] (zB dC dI cI cQ [(h0, .inr (11, [.ref h1, .ref h3, .int 0, .ref h4, .ref h5, .ref h6, .ref h7, .int 0, .ref h2])), (h1, .inr (7, [.ref h8, .ref h9, .ref h10, .int 0, .ref h11, .ref h12, .ref h13, .ref h14, .int 0, .int 0, .int 10, .ref h15])), (h2, .inl (cI, 7, .inl (fun _ => 0)))] sz)) (zQi dC dI (va_A [(h0, .inr (11, [.ref h1, .ref h3, .int 0, .ref h4, .ref h5, .ref h6, .ref h7, .int 0, .ref h2])), (h1, .inr (7, [.ref h8, .ref h9, .ref h10, .int 0, .ref h11, .ref h12, .ref h13, .ref h14, .int 0, .int 0, .int 10, .ref h15])), (h2, .inl (cI, 7, .inl (fun _ => 0)))] sz) (fun ad => []) (-1)) 0 0 (va_A [(h0, .inr (11, [.ref h1, .ref h3, .int 0, .ref h4, .ref h5, .ref h6, .ref h7, .int 0, .ref h2])), (h1, .inr (7, [.ref h8, .ref h9, .ref h10, .int 0, .ref h11, .ref h12, .ref h13, .ref h14, .int 0, .int 0, .int 10, .ref h15])), (h2, .inl (cI, 7, .inl (fun _ => 0)))] sz) := by
  refine Met.ofW (cc := cX11_player) (maxL := 3) (ret := (some .int)) (by decide) rfl ?_
  intro p e s m args below meth c s₁ B hml hv
  obtain ⟨rfl, hsz, hP, hZ, hD0⟩ := hv
  obtain ⟨hK, hAO, hN⟩ := id hZ
  have hx := B.exec
  have hb := B.bytes
  have hr := B.returns
  have hts := atoms_spec (ws := vsX11_player) B.pre
  have hown : s.vm.findClass RX11 = some m.cls := findClass_of_methodNamed B.named
  have hlocks := B.notSynchronized
  subst hsz
  have hD := hD0.self (sz := s.heap.size)
  generalize hAe : va_A [(h0, .inr (11, [.ref h1, .ref h3, .int 0, .ref h4, .ref h5, .ref h6, .ref h7, .int 0, .ref h2])), (h1, .inr (7, [.ref h8, .ref h9, .ref h10, .int 0, .ref h11, .ref h12, .ref h13, .ref h14, .int 0, .int 0, .int 10, .ref h15])), (h2, .inl (cI, 7, .inl (fun _ => 0)))] s.heap.size = A at hD ⊢
  have hA : ∀ q : Nat, s.heap.size ≤ q → A q := fun q h => by rw [← hAe]; exact Or.inr h
  have hS : va_S A s.heap s.heap [] := va_S.rf
  have hP : va_P (dC, dI) vwCl [(h0, .inr (11, [.ref h1, .ref h3, .int 0, .ref h4, .ref h5, .ref h6, .ref h7, .int 0, .ref h2])), (h1, .inr (7, [.ref h8, .ref h9, .ref h10, .int 0, .ref h11, .ref h12, .ref h13, .ref h14, .int 0, .int 0, .int 10, .ref h15])), (h2, .inl (cI, 7, .inl (fun _ => 0)))] s.heap := hP
  have hl := lv_entry ([.ref h0, .int p0, .int p1]) (n := 3) (Nat.le_of_ble_eq_true rfl)
  rw [lg_entry_eq]
  generalize (lg_sl ([.ref h0, .int p0, .int p1]) ++ List.replicate (3 - (lg_sl ([.ref h0, .int p0, .int p1])).length) Slot.unset).toArray = ls at hl ⊢
  have hl : lv_has ls 3 [(0, .ref h0), (1, .int p0), (2, .int p1)] := hl
  refine lv_aload_n hx hb dX11_player_0 rfl (lv_at hl 0 rfl) ?_
  refine va_get (D := (dC, dI)) (ci := 11) (v := .ref h1) (C := RX11) (T := TX11) (N := 9) hx hb hts in_X11_player_X11 hown hK hP 0 rfl rfl 0 (by decide) (hts (.fieldLink RX11 10 "EachOnHisCue" "play" "LEachOnHisCue$Play;") (by decide +kernel)) (fun _ h9 => h9) rfl dX11_player_1 ?_
  refine lv_iload_n hx hb dX11_player_4 rfl (lv_at hl 1 rfl) ?_
  refine z_calli (wc := []) (wr := [(h0, .inr (11, [.ref h1, .ref h3, .int 0, .ref h4, .ref h5, .ref h6, .ref h7, .int 0, .ref h2])), (h1, .inr (7, [.ref h8, .ref h9, .ref h10, .int 0, .ref h11, .ref h12, .ref h13, .ref h14, .int 0, .int 0, .int 10, .ref h15])), (h2, .inl (cI, 7, .inl (fun _ => 0)))]) (w1 := (fun _ => [])) (va_runV (As := [.int p0]) (rest := []) ⟨hx, hb, hml, hown, hts⟩ (kX7_hasPlayer l dC dI cI cQ h1 p0 hp0l hp0h s.heap.size) (cwV 1 hts gv_X11_player_X7_hasPlayer_80 rfl rfl rfl (by decide +kernel) ⟨Nat.le_of_ble_eq_true rfl, Nat.le_of_ble_eq_true rfl⟩) ⟨z_blind, va_recv hK hP (ci := 7) (q0 := 1) rfl rfl, z_pre hZ hP hD [] rfl (by decide)⟩ rfl rfl hl.1 rfl (lv_room (Nat.le_of_ble_eq_true rfl)) dX11_player_5 ⟨Nat.le_of_ble_eq_true rfl, Nat.le_of_ble_eq_true rfl⟩) hP hD hS hA [] [0, 1, 2] rfl rfl (by decide) (by decide) (fun _ H locs hP hD hS => ?_)
  have hP : va_P (dC, dI) vwCl [(h0, .inr (11, [.ref h1, .ref h3, .int 0, .ref h4, .ref h5, .ref h6, .ref h7, .int 0, .ref h2])), (h1, .inr (7, [.ref h8, .ref h9, .ref h10, .int 0, .ref h11, .ref h12, .ref h13, .ref h14, .int 0, .int 0, .int 10, .ref h15])), (h2, .inl (cI, 7, .inl (fun _ => 0)))] H := hP
  have hD : va_D A [(h0, .inr (11, [.ref h1, .ref h3, .int 0, .ref h4, .ref h5, .ref h6, .ref h7, .int 0, .ref h2])), (h1, .inr (7, [.ref h8, .ref h9, .ref h10, .int 0, .ref h11, .ref h12, .ref h13, .ref h14, .int 0, .int 0, .int 10, .ref h15])), (h2, .inl (cI, 7, .inl (fun _ => 0)))] := hD
  refine lv_if_ne (tgt := 17) hx hb dX11_player_8 (by decide) (fun hc => ?_) (fun hc => ?_)
  · exact absurd hc (by decide)
  refine lv_aload_n hx hb dX11_player_11 rfl (lv_at hl 0 rfl) ?_
  refine lv_iconst (v := (-1)) hx hb dX11_player_12 (by decide) ?_
  refine z_calli (wc := [(h0, .inr (11, [.ref h1, .ref h3, .int 0, .ref h4, .ref h5, .ref h6, .ref h7, .int 0, .ref h2])), (h2, .inl (cI, 7, .inl (fun _ => 0)))]) (wr := [(h1, .inr (7, [.ref h8, .ref h9, .ref h10, .int 0, .ref h11, .ref h12, .ref h13, .ref h14, .int 0, .int 0, .int 10, .ref h15]))]) (w1 := (fun _ => [(h0, .inr (11, [.ref h1, .ref h3, .int 0, .ref h4, .ref h5, .ref h6, .ref h7, .int 0, .ref h2])), (h2, .inl (cI, 7, .inl (upd (fun _ => 0) 1 1)))])) (va_runV (As := [.int (-1)]) (rest := []) ⟨hx, hb, hml, hown, hts⟩ (kX11_refuse_2 l dC dI cI cQ h0 h2 h1 h3 h4 h5 h6 h7 H.size) (cwV 1 hts gv_X11_player_X11_refuse_53 rfl rfl rfl (by decide +kernel) ⟨Nat.le_of_ble_eq_true rfl, Nat.le_of_ble_eq_true rfl⟩) ⟨z_blind, va_recv hK hP (ci := 11) (q0 := 0) rfl rfl, z_pre hZ hP hD [0, 2] rfl (by decide)⟩ rfl rfl hl.1 rfl (lv_room (Nat.le_of_ble_eq_true rfl)) dX11_player_13 ⟨Nat.le_of_ble_eq_true rfl, Nat.le_of_ble_eq_true rfl⟩) hP hD hS hA [0, 2] [1] rfl rfl (by decide) (by decide) (fun _ H locs hP hD hS => ?_)
  have hP : va_P (dC, dI) vwCl [(h1, .inr (7, [.ref h8, .ref h9, .ref h10, .int 0, .ref h11, .ref h12, .ref h13, .ref h14, .int 0, .int 0, .int 10, .ref h15])), (h0, .inr (11, [.ref h1, .ref h3, .int 0, .ref h4, .ref h5, .ref h6, .ref h7, .int 0, .ref h2])), (h2, .inl (cI, 7, .inl (upd (fun _ => 0) 1 1)))] H := hP
  have hD : va_D A [(h1, .inr (7, [.ref h8, .ref h9, .ref h10, .int 0, .ref h11, .ref h12, .ref h13, .ref h14, .int 0, .int 0, .int 10, .ref h15])), (h0, .inr (11, [.ref h1, .ref h3, .int 0, .ref h4, .ref h5, .ref h6, .ref h7, .int 0, .ref h2])), (h2, .inl (cI, 7, .inl (upd (fun _ => 0) 1 1)))] := hD
  have hP9 := hP.sub (ws' := []) [] rfl
  have hD9 := hD.sub (ws' := []) [] (by decide) rfl
  exact W.iret (v := (-1)) hx hb hr (fun t ht hW => ⟨⟨(-1), (fun k => [].getD k 0), rfl, rfl, by rw [ht]; exact hP9, hD9⟩, hS.F ht⟩) hS.2.2 dX11_player_16
set_option maxHeartbeats 4000000 in
set_option maxRecDepth 100000 in
theorem kX7_hasPlayer_1 (l : Launch) (dC : Nat → ClassId) (dI : Nat → Nat → Nat) (cI cQ : ClassId) (h0 h1 h2 h3 h4 h5 h6 h7 h8 : Nat) (p0 : Int32) (hp0l : 0 ≤ p0.toInt) (hp0h : p0.toInt ≤ 2147483647) (sz : Nat) : Met l yX7_hasPlayer vsX7_hasPlayer ({ frames := 0, cells := 0, slots := 0, locals := 0 }) (va_Pc [.ref h0, .int p0] (zB dC dI cI cQ [(h0, .inr (7, [.ref h1, .ref h2, .ref h3, .int 0, .ref h4, .ref h5, .ref h6, .ref h7, .int 0, .int 0, .int 10, .ref h8]))] sz)) (zQi dC dI (va_A [(h0, .inr (7, [.ref h1, .ref h2, .ref h3, .int 0, .ref h4, .ref h5, .ref h6, .ref h7, .int 0, .int 0, .int 10, .ref h8]))] sz) (fun ad => [(h0, .inr (7, [.ref h1, .ref h2, .ref h3, .int 0, .ref h4, .ref h5, .ref h6, .ref h7, .int 0, .int 0, .int 10, .ref h8]))]) 0) 0 0 (va_A [(h0, .inr (7, [.ref h1, .ref h2, .ref h3, .int 0, .ref h4, .ref h5, .ref h6, .ref h7, .int 0, .int 0, .int 10, .ref h8]))] sz) := by
  refine Met.ofW (cc := cX7_hasPlayer) (maxL := 2) (ret := (some .boolean)) (by decide) rfl ?_
  intro p e s m args below meth c s₁ B hml hv
  obtain ⟨rfl, hsz, hP, hZ, hD0⟩ := hv
  obtain ⟨hK, hAO, hN⟩ := id hZ
  have hx := B.exec
  have hb := B.bytes
  have hr := B.returns
  have hts := atoms_spec (ws := vsX7_hasPlayer) B.pre
  have hown : s.vm.findClass RX7 = some m.cls := findClass_of_methodNamed B.named
  have hlocks := B.notSynchronized
  subst hsz
  have hD := hD0.self (sz := s.heap.size)
  generalize hAe : va_A [(h0, .inr (7, [.ref h1, .ref h2, .ref h3, .int 0, .ref h4, .ref h5, .ref h6, .ref h7, .int 0, .int 0, .int 10, .ref h8]))] s.heap.size = A at hD ⊢
  have hA : ∀ q : Nat, s.heap.size ≤ q → A q := fun q h => by rw [← hAe]; exact Or.inr h
  have hS : va_S A s.heap s.heap [] := va_S.rf
  have hP : va_P (dC, dI) vwCl [(h0, .inr (7, [.ref h1, .ref h2, .ref h3, .int 0, .ref h4, .ref h5, .ref h6, .ref h7, .int 0, .int 0, .int 10, .ref h8]))] s.heap := hP
  have hl := lv_entry ([.ref h0, .int p0]) (n := 2) (Nat.le_of_ble_eq_true rfl)
  rw [lg_entry_eq]
  generalize (lg_sl ([.ref h0, .int p0]) ++ List.replicate (2 - (lg_sl ([.ref h0, .int p0])).length) Slot.unset).toArray = ls at hl ⊢
  have hl : lv_has ls 2 [(0, .ref h0), (1, .int p0)] := hl
  refine lv_iload_n hx hb dX7_hasPlayer_0 rfl (lv_at hl 1 rfl) ?_
  refine lv_if_lt (tgt := 16) hx hb dX7_hasPlayer_1 (by decide) (fun hc => ?_) (fun hc => ?_)
  · exact absurd ((fa_lt _ _).mp hc) (by rw [show (0 : Int32).toInt = 0 from by decide]; omega)
  refine lv_iload_n hx hb dX7_hasPlayer_4 rfl (lv_at hl 1 rfl) ?_
  refine lv_aload_n hx hb dX7_hasPlayer_5 rfl (lv_at hl 0 rfl) ?_
  refine va_get (D := (dC, dI)) (ci := 7) (v := .int 0) (C := RX7) (T := TX7) (N := 12) hx hb hts in_X7_hasPlayer_X7 hown hK hP 0 rfl rfl 3 (by decide) (hts (.fieldLink RX7 24 "EachOnHisCue$Play" "players" "I") (by decide +kernel)) (fun _ h9 => h9) rfl dX7_hasPlayer_6 ?_
  refine lv_icmp_ge (tgt := 16) hx hb dX7_hasPlayer_9 (by decide) (fun hc => ?_) (fun hc => ?_)
  rotate_left; exact absurd ((fa_le _ _).mpr (by rw [show (0 : Int32).toInt = 0 from by decide]; omega)) hc
  refine lv_iconst (v := 0) hx hb dX7_hasPlayer_16 (by decide) ?_
  have hP9 := hP.sub (ws' := [(h0, .inr (7, [.ref h1, .ref h2, .ref h3, .int 0, .ref h4, .ref h5, .ref h6, .ref h7, .int 0, .int 0, .int 10, .ref h8]))]) [0] rfl
  have hD9 := hD.sub (ws' := [(h0, .inr (7, [.ref h1, .ref h2, .ref h3, .int 0, .ref h4, .ref h5, .ref h6, .ref h7, .int 0, .int 0, .int 10, .ref h8]))]) [0] (by decide) rfl
  exact W.zret (v := 0) hx hb hr rfl (fun t ht hW => ⟨⟨0, (fun k => [].getD k 0), rfl, rfl, by rw [ht]; exact hP9, hD9⟩, hS.F ht⟩) hS.2.2 dX7_hasPlayer_17
set_option maxHeartbeats 4000000 in
set_option maxRecDepth 100000 in
theorem kX11_player_1 (l : Launch) (dC : Nat → ClassId) (dI : Nat → Nat → Nat) (cI cQ : ClassId) (h0 h1 h2 h3 h4 h5 h6 h7 h8 h9 h10 h11 h12 h13 h14 h15 : Nat) (p0 : Int32) (hp0l : 0 ≤ p0.toInt) (hp0h : p0.toInt ≤ 2147483647) (p1 : Int32) (hp1l : -2147483648 ≤ p1.toInt) (hp1h : p1.toInt ≤ 2147483647) (sz : Nat) : Met l yX11_player vsX11_player ({ frames := 1, cells := 0, slots := 0, locals := 22 }) (va_Pc [.ref h0, .int p0, .int p1] (zB dC dI cI cQ [(h0, .inr (11, [.ref h1, .ref h3, .int 0, .ref h4, .ref h5, .ref h6, .ref h7, .int 0, .ref h2])), (h1, .inr (7, [.ref h8, .ref h9, .ref h10, .int 0, .ref h11, .ref h12, .ref h13, .ref h14, .int 0, .int 0, .int 10, .ref h15])), (h2, .inl (cI, 7, .inl (fun _ => 0)))] sz)) (zQi dC dI (va_A [(h0, .inr (11, [.ref h1, .ref h3, .int 0, .ref h4, .ref h5, .ref h6, .ref h7, .int 0, .ref h2])), (h1, .inr (7, [.ref h8, .ref h9, .ref h10, .int 0, .ref h11, .ref h12, .ref h13, .ref h14, .int 0, .int 0, .int 10, .ref h15])), (h2, .inl (cI, 7, .inl (fun _ => 0)))] sz) (fun ad => []) (-1)) 0 0 (va_A [(h0, .inr (11, [.ref h1, .ref h3, .int 0, .ref h4, .ref h5, .ref h6, .ref h7, .int 0, .ref h2])), (h1, .inr (7, [.ref h8, .ref h9, .ref h10, .int 0, .ref h11, .ref h12, .ref h13, .ref h14, .int 0, .int 0, .int 10, .ref h15])), (h2, .inl (cI, 7, .inl (fun _ => 0)))] sz) := by
  refine Met.ofW (cc := cX11_player) (maxL := 3) (ret := (some .int)) (by decide) rfl ?_
  intro p e s m args below meth c s₁ B hml hv
  obtain ⟨rfl, hsz, hP, hZ, hD0⟩ := hv
  obtain ⟨hK, hAO, hN⟩ := id hZ
  have hx := B.exec
  have hb := B.bytes
  have hr := B.returns
  have hts := atoms_spec (ws := vsX11_player) B.pre
  have hown : s.vm.findClass RX11 = some m.cls := findClass_of_methodNamed B.named
  have hlocks := B.notSynchronized
  subst hsz
  have hD := hD0.self (sz := s.heap.size)
  generalize hAe : va_A [(h0, .inr (11, [.ref h1, .ref h3, .int 0, .ref h4, .ref h5, .ref h6, .ref h7, .int 0, .ref h2])), (h1, .inr (7, [.ref h8, .ref h9, .ref h10, .int 0, .ref h11, .ref h12, .ref h13, .ref h14, .int 0, .int 0, .int 10, .ref h15])), (h2, .inl (cI, 7, .inl (fun _ => 0)))] s.heap.size = A at hD ⊢
  have hA : ∀ q : Nat, s.heap.size ≤ q → A q := fun q h => by rw [← hAe]; exact Or.inr h
  have hS : va_S A s.heap s.heap [] := va_S.rf
  have hP : va_P (dC, dI) vwCl [(h0, .inr (11, [.ref h1, .ref h3, .int 0, .ref h4, .ref h5, .ref h6, .ref h7, .int 0, .ref h2])), (h1, .inr (7, [.ref h8, .ref h9, .ref h10, .int 0, .ref h11, .ref h12, .ref h13, .ref h14, .int 0, .int 0, .int 10, .ref h15])), (h2, .inl (cI, 7, .inl (fun _ => 0)))] s.heap := hP
  have hl := lv_entry ([.ref h0, .int p0, .int p1]) (n := 3) (Nat.le_of_ble_eq_true rfl)
  rw [lg_entry_eq]
  generalize (lg_sl ([.ref h0, .int p0, .int p1]) ++ List.replicate (3 - (lg_sl ([.ref h0, .int p0, .int p1])).length) Slot.unset).toArray = ls at hl ⊢
  have hl : lv_has ls 3 [(0, .ref h0), (1, .int p0), (2, .int p1)] := hl
  refine lv_aload_n hx hb dX11_player_0 rfl (lv_at hl 0 rfl) ?_
  refine va_get (D := (dC, dI)) (ci := 11) (v := .ref h1) (C := RX11) (T := TX11) (N := 9) hx hb hts in_X11_player_X11 hown hK hP 0 rfl rfl 0 (by decide) (hts (.fieldLink RX11 10 "EachOnHisCue" "play" "LEachOnHisCue$Play;") (by decide +kernel)) (fun _ h9 => h9) rfl dX11_player_1 ?_
  refine lv_iload_n hx hb dX11_player_4 rfl (lv_at hl 1 rfl) ?_
  refine z_calli (wc := [(h1, .inr (7, [.ref h8, .ref h9, .ref h10, .int 0, .ref h11, .ref h12, .ref h13, .ref h14, .int 0, .int 0, .int 10, .ref h15]))]) (wr := [(h0, .inr (11, [.ref h1, .ref h3, .int 0, .ref h4, .ref h5, .ref h6, .ref h7, .int 0, .ref h2])), (h2, .inl (cI, 7, .inl (fun _ => 0)))]) (w1 := (fun _ => [(h1, .inr (7, [.ref h8, .ref h9, .ref h10, .int 0, .ref h11, .ref h12, .ref h13, .ref h14, .int 0, .int 0, .int 10, .ref h15]))])) (va_runV (As := [.int p0]) (rest := []) ⟨hx, hb, hml, hown, hts⟩ (kX7_hasPlayer_1 l dC dI cI cQ h1 h8 h9 h10 h11 h12 h13 h14 h15 p0 hp0l hp0h s.heap.size) (cwV 1 hts gv_X11_player_X7_hasPlayer_80 rfl rfl rfl (by decide +kernel) ⟨Nat.le_of_ble_eq_true rfl, Nat.le_of_ble_eq_true rfl⟩) ⟨z_blind, va_recv hK hP (ci := 7) (q0 := 1) rfl rfl, z_pre hZ hP hD [1] rfl (by decide)⟩ rfl rfl hl.1 rfl (lv_room (Nat.le_of_ble_eq_true rfl)) dX11_player_5 ⟨Nat.le_of_ble_eq_true rfl, Nat.le_of_ble_eq_true rfl⟩) hP hD hS hA [1] [0, 2] rfl rfl (by decide) (by decide) (fun _ H locs hP hD hS => ?_)
  have hP : va_P (dC, dI) vwCl [(h0, .inr (11, [.ref h1, .ref h3, .int 0, .ref h4, .ref h5, .ref h6, .ref h7, .int 0, .ref h2])), (h2, .inl (cI, 7, .inl (fun _ => 0))), (h1, .inr (7, [.ref h8, .ref h9, .ref h10, .int 0, .ref h11, .ref h12, .ref h13, .ref h14, .int 0, .int 0, .int 10, .ref h15]))] H := hP
  have hD : va_D A [(h0, .inr (11, [.ref h1, .ref h3, .int 0, .ref h4, .ref h5, .ref h6, .ref h7, .int 0, .ref h2])), (h2, .inl (cI, 7, .inl (fun _ => 0))), (h1, .inr (7, [.ref h8, .ref h9, .ref h10, .int 0, .ref h11, .ref h12, .ref h13, .ref h14, .int 0, .int 0, .int 10, .ref h15]))] := hD
  refine lv_if_ne (tgt := 17) hx hb dX11_player_8 (by decide) (fun hc => ?_) (fun hc => ?_)
  · exact absurd hc (by decide)
  refine lv_aload_n hx hb dX11_player_11 rfl (lv_at hl 0 rfl) ?_
  refine lv_iconst (v := (-1)) hx hb dX11_player_12 (by decide) ?_
  refine z_calli (wc := [(h0, .inr (11, [.ref h1, .ref h3, .int 0, .ref h4, .ref h5, .ref h6, .ref h7, .int 0, .ref h2])), (h2, .inl (cI, 7, .inl (fun _ => 0)))]) (wr := [(h1, .inr (7, [.ref h8, .ref h9, .ref h10, .int 0, .ref h11, .ref h12, .ref h13, .ref h14, .int 0, .int 0, .int 10, .ref h15]))]) (w1 := (fun _ => [(h0, .inr (11, [.ref h1, .ref h3, .int 0, .ref h4, .ref h5, .ref h6, .ref h7, .int 0, .ref h2])), (h2, .inl (cI, 7, .inl (upd (fun _ => 0) 1 1)))])) (va_runV (As := [.int (-1)]) (rest := []) ⟨hx, hb, hml, hown, hts⟩ (kX11_refuse_2 l dC dI cI cQ h0 h2 h1 h3 h4 h5 h6 h7 H.size) (cwV 1 hts gv_X11_player_X11_refuse_53 rfl rfl rfl (by decide +kernel) ⟨Nat.le_of_ble_eq_true rfl, Nat.le_of_ble_eq_true rfl⟩) ⟨z_blind, va_recv hK hP (ci := 11) (q0 := 0) rfl rfl, z_pre hZ hP hD [0, 1] rfl (by decide)⟩ rfl rfl hl.1 rfl (lv_room (Nat.le_of_ble_eq_true rfl)) dX11_player_13 ⟨Nat.le_of_ble_eq_true rfl, Nat.le_of_ble_eq_true rfl⟩) hP hD hS hA [0, 1] [2] rfl rfl (by decide) (by decide) (fun _ H locs hP hD hS => ?_)
  have hP : va_P (dC, dI) vwCl [(h1, .inr (7, [.ref h8, .ref h9, .ref h10, .int 0, .ref h11, .ref h12, .ref h13, .ref h14, .int 0, .int 0, .int 10, .ref h15])), (h0, .inr (11, [.ref h1, .ref h3, .int 0, .ref h4, .ref h5, .ref h6, .ref h7, .int 0, .ref h2])), (h2, .inl (cI, 7, .inl (upd (fun _ => 0) 1 1)))] H := hP
  have hD : va_D A [(h1, .inr (7, [.ref h8, .ref h9, .ref h10, .int 0, .ref h11, .ref h12, .ref h13, .ref h14, .int 0, .int 0, .int 10, .ref h15])), (h0, .inr (11, [.ref h1, .ref h3, .int 0, .ref h4, .ref h5, .ref h6, .ref h7, .int 0, .ref h2])), (h2, .inl (cI, 7, .inl (upd (fun _ => 0) 1 1)))] := hD
  have hP9 := hP.sub (ws' := []) [] rfl
  have hD9 := hD.sub (ws' := []) [] (by decide) rfl
  exact W.iret (v := (-1)) hx hb hr (fun t ht hW => ⟨⟨(-1), (fun k => [].getD k 0), rfl, rfl, by rw [ht]; exact hP9, hD9⟩, hS.F ht⟩) hS.2.2 dX11_player_16
set_option maxHeartbeats 4000000 in
set_option maxRecDepth 100000 in
theorem kX7_hasLine (l : Launch) (dC : Nat → ClassId) (dI : Nat → Nat → Nat) (cI cQ : ClassId) (h0 : Nat) (p0 : Int32) (hp0l : -2147483648 ≤ p0.toInt) (hp0h : p0.toInt ≤ -1) (sz : Nat) : Met l yX7_hasLine vsX7_hasLine ({ frames := 0, cells := 0, slots := 0, locals := 0 }) (va_Pc [.ref h0, .int p0] (zB dC dI cI cQ [] sz)) (zQi dC dI (va_A [] sz) (fun ad => []) 0) 0 0 (va_A [] sz) := by
  refine Met.ofW (cc := cX7_hasLine) (maxL := 2) (ret := (some .boolean)) (by decide) rfl ?_
  intro p e s m args below meth c s₁ B hml hv
  obtain ⟨rfl, hsz, hP, hZ, hD0⟩ := hv
  obtain ⟨hK, hAO, hN⟩ := id hZ
  have hx := B.exec
  have hb := B.bytes
  have hr := B.returns
  have hts := atoms_spec (ws := vsX7_hasLine) B.pre
  have hown : s.vm.findClass RX7 = some m.cls := findClass_of_methodNamed B.named
  have hlocks := B.notSynchronized
  subst hsz
  have hD := hD0.self (sz := s.heap.size)
  generalize hAe : va_A [] s.heap.size = A at hD ⊢
  have hA : ∀ q : Nat, s.heap.size ≤ q → A q := fun q h => by rw [← hAe]; exact Or.inr h
  have hS : va_S A s.heap s.heap [] := va_S.rf
  have hP : va_P (dC, dI) vwCl [] s.heap := hP
  have hl := lv_entry ([.ref h0, .int p0]) (n := 2) (Nat.le_of_ble_eq_true rfl)
  rw [lg_entry_eq]
  generalize (lg_sl ([.ref h0, .int p0]) ++ List.replicate (2 - (lg_sl ([.ref h0, .int p0])).length) Slot.unset).toArray = ls at hl ⊢
  have hl : lv_has ls 2 [(0, .ref h0), (1, .int p0)] := hl
  refine lv_iload_n hx hb dX7_hasLine_0 rfl (lv_at hl 1 rfl) ?_
  refine lv_if_lt (tgt := 16) hx hb dX7_hasLine_1 (by decide) (fun hc => ?_) (fun hc => ?_)
  rotate_left; exact absurd ((fa_lt _ _).mpr (by rw [show (0 : Int32).toInt = 0 from by decide]; omega)) hc
  refine lv_iconst (v := 0) hx hb dX7_hasLine_16 (by decide) ?_
  have hP9 := hP.sub (ws' := []) [] rfl
  have hD9 := hD.sub (ws' := []) [] (by decide) rfl
  exact W.zret (v := 0) hx hb hr rfl (fun t ht hW => ⟨⟨0, (fun k => [].getD k 0), rfl, rfl, by rw [ht]; exact hP9, hD9⟩, hS.F ht⟩) hS.2.2 dX7_hasLine_17
set_option maxHeartbeats 4000000 in
set_option maxRecDepth 100000 in
theorem kX11_line (l : Launch) (dC : Nat → ClassId) (dI : Nat → Nat → Nat) (cI cQ : ClassId) (h0 h1 h2 h3 h4 h5 h6 h7 h8 h9 h10 h11 h12 h13 h14 h15 : Nat) (p0 : Int32) (hp0l : -2147483648 ≤ p0.toInt) (hp0h : p0.toInt ≤ -1) (p1 : Int32) (hp1l : -2147483648 ≤ p1.toInt) (hp1h : p1.toInt ≤ 2147483647) (sz : Nat) : Met l yX11_line vsX11_line ({ frames := 1, cells := 0, slots := 0, locals := 22 }) (va_Pc [.ref h0, .int p0, .int p1] (zB dC dI cI cQ [(h0, .inr (11, [.ref h1, .ref h3, .int 0, .ref h4, .ref h5, .ref h6, .ref h7, .int 0, .ref h2])), (h1, .inr (7, [.ref h8, .ref h9, .ref h10, .int 0, .ref h11, .ref h12, .ref h13, .ref h14, .int 0, .int 0, .int 10, .ref h15])), (h2, .inl (cI, 7, .inl (fun _ => 0)))] sz)) (zQi dC dI (va_A [(h0, .inr (11, [.ref h1, .ref h3, .int 0, .ref h4, .ref h5, .ref h6, .ref h7, .int 0, .ref h2])), (h1, .inr (7, [.ref h8, .ref h9, .ref h10, .int 0, .ref h11, .ref h12, .ref h13, .ref h14, .int 0, .int 0, .int 10, .ref h15])), (h2, .inl (cI, 7, .inl (fun _ => 0)))] sz) (fun ad => []) (-1)) 0 0 (va_A [(h0, .inr (11, [.ref h1, .ref h3, .int 0, .ref h4, .ref h5, .ref h6, .ref h7, .int 0, .ref h2])), (h1, .inr (7, [.ref h8, .ref h9, .ref h10, .int 0, .ref h11, .ref h12, .ref h13, .ref h14, .int 0, .int 0, .int 10, .ref h15])), (h2, .inl (cI, 7, .inl (fun _ => 0)))] sz) := by
  refine Met.ofW (cc := cX11_line) (maxL := 3) (ret := (some .int)) (by decide) rfl ?_
  intro p e s m args below meth c s₁ B hml hv
  obtain ⟨rfl, hsz, hP, hZ, hD0⟩ := hv
  obtain ⟨hK, hAO, hN⟩ := id hZ
  have hx := B.exec
  have hb := B.bytes
  have hr := B.returns
  have hts := atoms_spec (ws := vsX11_line) B.pre
  have hown : s.vm.findClass RX11 = some m.cls := findClass_of_methodNamed B.named
  have hlocks := B.notSynchronized
  subst hsz
  have hD := hD0.self (sz := s.heap.size)
  generalize hAe : va_A [(h0, .inr (11, [.ref h1, .ref h3, .int 0, .ref h4, .ref h5, .ref h6, .ref h7, .int 0, .ref h2])), (h1, .inr (7, [.ref h8, .ref h9, .ref h10, .int 0, .ref h11, .ref h12, .ref h13, .ref h14, .int 0, .int 0, .int 10, .ref h15])), (h2, .inl (cI, 7, .inl (fun _ => 0)))] s.heap.size = A at hD ⊢
  have hA : ∀ q : Nat, s.heap.size ≤ q → A q := fun q h => by rw [← hAe]; exact Or.inr h
  have hS : va_S A s.heap s.heap [] := va_S.rf
  have hP : va_P (dC, dI) vwCl [(h0, .inr (11, [.ref h1, .ref h3, .int 0, .ref h4, .ref h5, .ref h6, .ref h7, .int 0, .ref h2])), (h1, .inr (7, [.ref h8, .ref h9, .ref h10, .int 0, .ref h11, .ref h12, .ref h13, .ref h14, .int 0, .int 0, .int 10, .ref h15])), (h2, .inl (cI, 7, .inl (fun _ => 0)))] s.heap := hP
  have hl := lv_entry ([.ref h0, .int p0, .int p1]) (n := 3) (Nat.le_of_ble_eq_true rfl)
  rw [lg_entry_eq]
  generalize (lg_sl ([.ref h0, .int p0, .int p1]) ++ List.replicate (3 - (lg_sl ([.ref h0, .int p0, .int p1])).length) Slot.unset).toArray = ls at hl ⊢
  have hl : lv_has ls 3 [(0, .ref h0), (1, .int p0), (2, .int p1)] := hl
  refine lv_aload_n hx hb dX11_line_0 rfl (lv_at hl 0 rfl) ?_
  refine va_get (D := (dC, dI)) (ci := 11) (v := .ref h1) (C := RX11) (T := TX11) (N := 9) hx hb hts in_X11_line_X11 hown hK hP 0 rfl rfl 0 (by decide) (hts (.fieldLink RX11 10 "EachOnHisCue" "play" "LEachOnHisCue$Play;") (by decide +kernel)) (fun _ h9 => h9) rfl dX11_line_1 ?_
  refine lv_iload_n hx hb dX11_line_4 rfl (lv_at hl 1 rfl) ?_
  refine z_calli (wc := []) (wr := [(h0, .inr (11, [.ref h1, .ref h3, .int 0, .ref h4, .ref h5, .ref h6, .ref h7, .int 0, .ref h2])), (h1, .inr (7, [.ref h8, .ref h9, .ref h10, .int 0, .ref h11, .ref h12, .ref h13, .ref h14, .int 0, .int 0, .int 10, .ref h15])), (h2, .inl (cI, 7, .inl (fun _ => 0)))]) (w1 := (fun _ => [])) (va_runV (As := [.int p0]) (rest := []) ⟨hx, hb, hml, hown, hts⟩ (kX7_hasLine l dC dI cI cQ h1 p0 hp0l hp0h s.heap.size) (cwV 1 hts gv_X11_line_X7_hasLine_103 rfl rfl rfl (by decide +kernel) ⟨Nat.le_of_ble_eq_true rfl, Nat.le_of_ble_eq_true rfl⟩) ⟨z_blind, va_recv hK hP (ci := 7) (q0 := 1) rfl rfl, z_pre hZ hP hD [] rfl (by decide)⟩ rfl rfl hl.1 rfl (lv_room (Nat.le_of_ble_eq_true rfl)) dX11_line_5 ⟨Nat.le_of_ble_eq_true rfl, Nat.le_of_ble_eq_true rfl⟩) hP hD hS hA [] [0, 1, 2] rfl rfl (by decide) (by decide) (fun _ H locs hP hD hS => ?_)
  have hP : va_P (dC, dI) vwCl [(h0, .inr (11, [.ref h1, .ref h3, .int 0, .ref h4, .ref h5, .ref h6, .ref h7, .int 0, .ref h2])), (h1, .inr (7, [.ref h8, .ref h9, .ref h10, .int 0, .ref h11, .ref h12, .ref h13, .ref h14, .int 0, .int 0, .int 10, .ref h15])), (h2, .inl (cI, 7, .inl (fun _ => 0)))] H := hP
  have hD : va_D A [(h0, .inr (11, [.ref h1, .ref h3, .int 0, .ref h4, .ref h5, .ref h6, .ref h7, .int 0, .ref h2])), (h1, .inr (7, [.ref h8, .ref h9, .ref h10, .int 0, .ref h11, .ref h12, .ref h13, .ref h14, .int 0, .int 0, .int 10, .ref h15])), (h2, .inl (cI, 7, .inl (fun _ => 0)))] := hD
  refine lv_if_ne (tgt := 17) hx hb dX11_line_8 (by decide) (fun hc => ?_) (fun hc => ?_)
  · exact absurd hc (by decide)
  refine lv_aload_n hx hb dX11_line_11 rfl (lv_at hl 0 rfl) ?_
  refine lv_iconst (v := (-1)) hx hb dX11_line_12 (by decide) ?_
  refine z_calli (wc := [(h0, .inr (11, [.ref h1, .ref h3, .int 0, .ref h4, .ref h5, .ref h6, .ref h7, .int 0, .ref h2])), (h2, .inl (cI, 7, .inl (fun _ => 0)))]) (wr := [(h1, .inr (7, [.ref h8, .ref h9, .ref h10, .int 0, .ref h11, .ref h12, .ref h13, .ref h14, .int 0, .int 0, .int 10, .ref h15]))]) (w1 := (fun _ => [(h0, .inr (11, [.ref h1, .ref h3, .int 0, .ref h4, .ref h5, .ref h6, .ref h7, .int 0, .ref h2])), (h2, .inl (cI, 7, .inl (upd (fun _ => 0) 1 1)))])) (va_runV (As := [.int (-1)]) (rest := []) ⟨hx, hb, hml, hown, hts⟩ (kX11_refuse_2 l dC dI cI cQ h0 h2 h1 h3 h4 h5 h6 h7 H.size) (cwV 1 hts gv_X11_line_X11_refuse_53 rfl rfl rfl (by decide +kernel) ⟨Nat.le_of_ble_eq_true rfl, Nat.le_of_ble_eq_true rfl⟩) ⟨z_blind, va_recv hK hP (ci := 11) (q0 := 0) rfl rfl, z_pre hZ hP hD [0, 2] rfl (by decide)⟩ rfl rfl hl.1 rfl (lv_room (Nat.le_of_ble_eq_true rfl)) dX11_line_13 ⟨Nat.le_of_ble_eq_true rfl, Nat.le_of_ble_eq_true rfl⟩) hP hD hS hA [0, 2] [1] rfl rfl (by decide) (by decide) (fun _ H locs hP hD hS => ?_)
  have hP : va_P (dC, dI) vwCl [(h1, .inr (7, [.ref h8, .ref h9, .ref h10, .int 0, .ref h11, .ref h12, .ref h13, .ref h14, .int 0, .int 0, .int 10, .ref h15])), (h0, .inr (11, [.ref h1, .ref h3, .int 0, .ref h4, .ref h5, .ref h6, .ref h7, .int 0, .ref h2])), (h2, .inl (cI, 7, .inl (upd (fun _ => 0) 1 1)))] H := hP
  have hD : va_D A [(h1, .inr (7, [.ref h8, .ref h9, .ref h10, .int 0, .ref h11, .ref h12, .ref h13, .ref h14, .int 0, .int 0, .int 10, .ref h15])), (h0, .inr (11, [.ref h1, .ref h3, .int 0, .ref h4, .ref h5, .ref h6, .ref h7, .int 0, .ref h2])), (h2, .inl (cI, 7, .inl (upd (fun _ => 0) 1 1)))] := hD
  have hP9 := hP.sub (ws' := []) [] rfl
  have hD9 := hD.sub (ws' := []) [] (by decide) rfl
  exact W.iret (v := (-1)) hx hb hr (fun t ht hW => ⟨⟨(-1), (fun k => [].getD k 0), rfl, rfl, by rw [ht]; exact hP9, hD9⟩, hS.F ht⟩) hS.2.2 dX11_line_16
set_option maxHeartbeats 4000000 in
set_option maxRecDepth 100000 in
theorem kX7_hasLine_1 (l : Launch) (dC : Nat → ClassId) (dI : Nat → Nat → Nat) (cI cQ : ClassId) (h0 h1 h2 h3 h4 h5 h6 h7 h8 : Nat) (p0 : Int32) (hp0l : 0 ≤ p0.toInt) (hp0h : p0.toInt ≤ 2147483647) (sz : Nat) : Met l yX7_hasLine vsX7_hasLine ({ frames := 0, cells := 0, slots := 0, locals := 0 }) (va_Pc [.ref h0, .int p0] (zB dC dI cI cQ [(h0, .inr (7, [.ref h1, .ref h2, .ref h3, .int 0, .ref h4, .ref h5, .ref h6, .ref h7, .int 0, .int 0, .int 10, .ref h8]))] sz)) (zQi dC dI (va_A [(h0, .inr (7, [.ref h1, .ref h2, .ref h3, .int 0, .ref h4, .ref h5, .ref h6, .ref h7, .int 0, .int 0, .int 10, .ref h8]))] sz) (fun ad => [(h0, .inr (7, [.ref h1, .ref h2, .ref h3, .int 0, .ref h4, .ref h5, .ref h6, .ref h7, .int 0, .int 0, .int 10, .ref h8]))]) 0) 0 0 (va_A [(h0, .inr (7, [.ref h1, .ref h2, .ref h3, .int 0, .ref h4, .ref h5, .ref h6, .ref h7, .int 0, .int 0, .int 10, .ref h8]))] sz) := by
  refine Met.ofW (cc := cX7_hasLine) (maxL := 2) (ret := (some .boolean)) (by decide) rfl ?_
  intro p e s m args below meth c s₁ B hml hv
  obtain ⟨rfl, hsz, hP, hZ, hD0⟩ := hv
  obtain ⟨hK, hAO, hN⟩ := id hZ
  have hx := B.exec
  have hb := B.bytes
  have hr := B.returns
  have hts := atoms_spec (ws := vsX7_hasLine) B.pre
  have hown : s.vm.findClass RX7 = some m.cls := findClass_of_methodNamed B.named
  have hlocks := B.notSynchronized
  subst hsz
  have hD := hD0.self (sz := s.heap.size)
  generalize hAe : va_A [(h0, .inr (7, [.ref h1, .ref h2, .ref h3, .int 0, .ref h4, .ref h5, .ref h6, .ref h7, .int 0, .int 0, .int 10, .ref h8]))] s.heap.size = A at hD ⊢
  have hA : ∀ q : Nat, s.heap.size ≤ q → A q := fun q h => by rw [← hAe]; exact Or.inr h
  have hS : va_S A s.heap s.heap [] := va_S.rf
  have hP : va_P (dC, dI) vwCl [(h0, .inr (7, [.ref h1, .ref h2, .ref h3, .int 0, .ref h4, .ref h5, .ref h6, .ref h7, .int 0, .int 0, .int 10, .ref h8]))] s.heap := hP
  have hl := lv_entry ([.ref h0, .int p0]) (n := 2) (Nat.le_of_ble_eq_true rfl)
  rw [lg_entry_eq]
  generalize (lg_sl ([.ref h0, .int p0]) ++ List.replicate (2 - (lg_sl ([.ref h0, .int p0])).length) Slot.unset).toArray = ls at hl ⊢
  have hl : lv_has ls 2 [(0, .ref h0), (1, .int p0)] := hl
  refine lv_iload_n hx hb dX7_hasLine_0 rfl (lv_at hl 1 rfl) ?_
  refine lv_if_lt (tgt := 16) hx hb dX7_hasLine_1 (by decide) (fun hc => ?_) (fun hc => ?_)
  · exact absurd ((fa_lt _ _).mp hc) (by rw [show (0 : Int32).toInt = 0 from by decide]; omega)
  refine lv_iload_n hx hb dX7_hasLine_4 rfl (lv_at hl 1 rfl) ?_
  refine lv_aload_n hx hb dX7_hasLine_5 rfl (lv_at hl 0 rfl) ?_
  refine va_get (D := (dC, dI)) (ci := 7) (v := .int 0) (C := RX7) (T := TX7) (N := 12) hx hb hts in_X7_hasLine_X7 hown hK hP 0 rfl rfl 9 (by decide) (hts (.fieldLink RX7 43 "EachOnHisCue$Play" "lines" "I") (by decide +kernel)) (fun _ h9 => h9) rfl dX7_hasLine_6 ?_
  refine lv_icmp_ge (tgt := 16) hx hb dX7_hasLine_9 (by decide) (fun hc => ?_) (fun hc => ?_)
  rotate_left; exact absurd ((fa_le _ _).mpr (by rw [show (0 : Int32).toInt = 0 from by decide]; omega)) hc
  refine lv_iconst (v := 0) hx hb dX7_hasLine_16 (by decide) ?_
  have hP9 := hP.sub (ws' := [(h0, .inr (7, [.ref h1, .ref h2, .ref h3, .int 0, .ref h4, .ref h5, .ref h6, .ref h7, .int 0, .int 0, .int 10, .ref h8]))]) [0] rfl
  have hD9 := hD.sub (ws' := [(h0, .inr (7, [.ref h1, .ref h2, .ref h3, .int 0, .ref h4, .ref h5, .ref h6, .ref h7, .int 0, .int 0, .int 10, .ref h8]))]) [0] (by decide) rfl
  exact W.zret (v := 0) hx hb hr rfl (fun t ht hW => ⟨⟨0, (fun k => [].getD k 0), rfl, rfl, by rw [ht]; exact hP9, hD9⟩, hS.F ht⟩) hS.2.2 dX7_hasLine_17
set_option maxHeartbeats 4000000 in
set_option maxRecDepth 100000 in
theorem kX11_line_1 (l : Launch) (dC : Nat → ClassId) (dI : Nat → Nat → Nat) (cI cQ : ClassId) (h0 h1 h2 h3 h4 h5 h6 h7 h8 h9 h10 h11 h12 h13 h14 h15 : Nat) (p0 : Int32) (hp0l : 0 ≤ p0.toInt) (hp0h : p0.toInt ≤ 2147483647) (p1 : Int32) (hp1l : -2147483648 ≤ p1.toInt) (hp1h : p1.toInt ≤ 2147483647) (sz : Nat) : Met l yX11_line vsX11_line ({ frames := 1, cells := 0, slots := 0, locals := 22 }) (va_Pc [.ref h0, .int p0, .int p1] (zB dC dI cI cQ [(h0, .inr (11, [.ref h1, .ref h3, .int 0, .ref h4, .ref h5, .ref h6, .ref h7, .int 0, .ref h2])), (h1, .inr (7, [.ref h8, .ref h9, .ref h10, .int 0, .ref h11, .ref h12, .ref h13, .ref h14, .int 0, .int 0, .int 10, .ref h15])), (h2, .inl (cI, 7, .inl (fun _ => 0)))] sz)) (zQi dC dI (va_A [(h0, .inr (11, [.ref h1, .ref h3, .int 0, .ref h4, .ref h5, .ref h6, .ref h7, .int 0, .ref h2])), (h1, .inr (7, [.ref h8, .ref h9, .ref h10, .int 0, .ref h11, .ref h12, .ref h13, .ref h14, .int 0, .int 0, .int 10, .ref h15])), (h2, .inl (cI, 7, .inl (fun _ => 0)))] sz) (fun ad => []) (-1)) 0 0 (va_A [(h0, .inr (11, [.ref h1, .ref h3, .int 0, .ref h4, .ref h5, .ref h6, .ref h7, .int 0, .ref h2])), (h1, .inr (7, [.ref h8, .ref h9, .ref h10, .int 0, .ref h11, .ref h12, .ref h13, .ref h14, .int 0, .int 0, .int 10, .ref h15])), (h2, .inl (cI, 7, .inl (fun _ => 0)))] sz) := by
  refine Met.ofW (cc := cX11_line) (maxL := 3) (ret := (some .int)) (by decide) rfl ?_
  intro p e s m args below meth c s₁ B hml hv
  obtain ⟨rfl, hsz, hP, hZ, hD0⟩ := hv
  obtain ⟨hK, hAO, hN⟩ := id hZ
  have hx := B.exec
  have hb := B.bytes
  have hr := B.returns
  have hts := atoms_spec (ws := vsX11_line) B.pre
  have hown : s.vm.findClass RX11 = some m.cls := findClass_of_methodNamed B.named
  have hlocks := B.notSynchronized
  subst hsz
  have hD := hD0.self (sz := s.heap.size)
  generalize hAe : va_A [(h0, .inr (11, [.ref h1, .ref h3, .int 0, .ref h4, .ref h5, .ref h6, .ref h7, .int 0, .ref h2])), (h1, .inr (7, [.ref h8, .ref h9, .ref h10, .int 0, .ref h11, .ref h12, .ref h13, .ref h14, .int 0, .int 0, .int 10, .ref h15])), (h2, .inl (cI, 7, .inl (fun _ => 0)))] s.heap.size = A at hD ⊢
  have hA : ∀ q : Nat, s.heap.size ≤ q → A q := fun q h => by rw [← hAe]; exact Or.inr h
  have hS : va_S A s.heap s.heap [] := va_S.rf
  have hP : va_P (dC, dI) vwCl [(h0, .inr (11, [.ref h1, .ref h3, .int 0, .ref h4, .ref h5, .ref h6, .ref h7, .int 0, .ref h2])), (h1, .inr (7, [.ref h8, .ref h9, .ref h10, .int 0, .ref h11, .ref h12, .ref h13, .ref h14, .int 0, .int 0, .int 10, .ref h15])), (h2, .inl (cI, 7, .inl (fun _ => 0)))] s.heap := hP
  have hl := lv_entry ([.ref h0, .int p0, .int p1]) (n := 3) (Nat.le_of_ble_eq_true rfl)
  rw [lg_entry_eq]
  generalize (lg_sl ([.ref h0, .int p0, .int p1]) ++ List.replicate (3 - (lg_sl ([.ref h0, .int p0, .int p1])).length) Slot.unset).toArray = ls at hl ⊢
  have hl : lv_has ls 3 [(0, .ref h0), (1, .int p0), (2, .int p1)] := hl
  refine lv_aload_n hx hb dX11_line_0 rfl (lv_at hl 0 rfl) ?_
  refine va_get (D := (dC, dI)) (ci := 11) (v := .ref h1) (C := RX11) (T := TX11) (N := 9) hx hb hts in_X11_line_X11 hown hK hP 0 rfl rfl 0 (by decide) (hts (.fieldLink RX11 10 "EachOnHisCue" "play" "LEachOnHisCue$Play;") (by decide +kernel)) (fun _ h9 => h9) rfl dX11_line_1 ?_
  refine lv_iload_n hx hb dX11_line_4 rfl (lv_at hl 1 rfl) ?_
  refine z_calli (wc := [(h1, .inr (7, [.ref h8, .ref h9, .ref h10, .int 0, .ref h11, .ref h12, .ref h13, .ref h14, .int 0, .int 0, .int 10, .ref h15]))]) (wr := [(h0, .inr (11, [.ref h1, .ref h3, .int 0, .ref h4, .ref h5, .ref h6, .ref h7, .int 0, .ref h2])), (h2, .inl (cI, 7, .inl (fun _ => 0)))]) (w1 := (fun _ => [(h1, .inr (7, [.ref h8, .ref h9, .ref h10, .int 0, .ref h11, .ref h12, .ref h13, .ref h14, .int 0, .int 0, .int 10, .ref h15]))])) (va_runV (As := [.int p0]) (rest := []) ⟨hx, hb, hml, hown, hts⟩ (kX7_hasLine_1 l dC dI cI cQ h1 h8 h9 h10 h11 h12 h13 h14 h15 p0 hp0l hp0h s.heap.size) (cwV 1 hts gv_X11_line_X7_hasLine_103 rfl rfl rfl (by decide +kernel) ⟨Nat.le_of_ble_eq_true rfl, Nat.le_of_ble_eq_true rfl⟩) ⟨z_blind, va_recv hK hP (ci := 7) (q0 := 1) rfl rfl, z_pre hZ hP hD [1] rfl (by decide)⟩ rfl rfl hl.1 rfl (lv_room (Nat.le_of_ble_eq_true rfl)) dX11_line_5 ⟨Nat.le_of_ble_eq_true rfl, Nat.le_of_ble_eq_true rfl⟩) hP hD hS hA [1] [0, 2] rfl rfl (by decide) (by decide) (fun _ H locs hP hD hS => ?_)
  have hP : va_P (dC, dI) vwCl [(h0, .inr (11, [.ref h1, .ref h3, .int 0, .ref h4, .ref h5, .ref h6, .ref h7, .int 0, .ref h2])), (h2, .inl (cI, 7, .inl (fun _ => 0))), (h1, .inr (7, [.ref h8, .ref h9, .ref h10, .int 0, .ref h11, .ref h12, .ref h13, .ref h14, .int 0, .int 0, .int 10, .ref h15]))] H := hP
  have hD : va_D A [(h0, .inr (11, [.ref h1, .ref h3, .int 0, .ref h4, .ref h5, .ref h6, .ref h7, .int 0, .ref h2])), (h2, .inl (cI, 7, .inl (fun _ => 0))), (h1, .inr (7, [.ref h8, .ref h9, .ref h10, .int 0, .ref h11, .ref h12, .ref h13, .ref h14, .int 0, .int 0, .int 10, .ref h15]))] := hD
  refine lv_if_ne (tgt := 17) hx hb dX11_line_8 (by decide) (fun hc => ?_) (fun hc => ?_)
  · exact absurd hc (by decide)
  refine lv_aload_n hx hb dX11_line_11 rfl (lv_at hl 0 rfl) ?_
  refine lv_iconst (v := (-1)) hx hb dX11_line_12 (by decide) ?_
  refine z_calli (wc := [(h0, .inr (11, [.ref h1, .ref h3, .int 0, .ref h4, .ref h5, .ref h6, .ref h7, .int 0, .ref h2])), (h2, .inl (cI, 7, .inl (fun _ => 0)))]) (wr := [(h1, .inr (7, [.ref h8, .ref h9, .ref h10, .int 0, .ref h11, .ref h12, .ref h13, .ref h14, .int 0, .int 0, .int 10, .ref h15]))]) (w1 := (fun _ => [(h0, .inr (11, [.ref h1, .ref h3, .int 0, .ref h4, .ref h5, .ref h6, .ref h7, .int 0, .ref h2])), (h2, .inl (cI, 7, .inl (upd (fun _ => 0) 1 1)))])) (va_runV (As := [.int (-1)]) (rest := []) ⟨hx, hb, hml, hown, hts⟩ (kX11_refuse_2 l dC dI cI cQ h0 h2 h1 h3 h4 h5 h6 h7 H.size) (cwV 1 hts gv_X11_line_X11_refuse_53 rfl rfl rfl (by decide +kernel) ⟨Nat.le_of_ble_eq_true rfl, Nat.le_of_ble_eq_true rfl⟩) ⟨z_blind, va_recv hK hP (ci := 11) (q0 := 0) rfl rfl, z_pre hZ hP hD [0, 1] rfl (by decide)⟩ rfl rfl hl.1 rfl (lv_room (Nat.le_of_ble_eq_true rfl)) dX11_line_13 ⟨Nat.le_of_ble_eq_true rfl, Nat.le_of_ble_eq_true rfl⟩) hP hD hS hA [0, 1] [2] rfl rfl (by decide) (by decide) (fun _ H locs hP hD hS => ?_)
  have hP : va_P (dC, dI) vwCl [(h1, .inr (7, [.ref h8, .ref h9, .ref h10, .int 0, .ref h11, .ref h12, .ref h13, .ref h14, .int 0, .int 0, .int 10, .ref h15])), (h0, .inr (11, [.ref h1, .ref h3, .int 0, .ref h4, .ref h5, .ref h6, .ref h7, .int 0, .ref h2])), (h2, .inl (cI, 7, .inl (upd (fun _ => 0) 1 1)))] H := hP
  have hD : va_D A [(h1, .inr (7, [.ref h8, .ref h9, .ref h10, .int 0, .ref h11, .ref h12, .ref h13, .ref h14, .int 0, .int 0, .int 10, .ref h15])), (h0, .inr (11, [.ref h1, .ref h3, .int 0, .ref h4, .ref h5, .ref h6, .ref h7, .int 0, .ref h2])), (h2, .inl (cI, 7, .inl (upd (fun _ => 0) 1 1)))] := hD
  have hP9 := hP.sub (ws' := []) [] rfl
  have hD9 := hD.sub (ws' := []) [] (by decide) rfl
  exact W.iret (v := (-1)) hx hb hr (fun t ht hW => ⟨⟨(-1), (fun k => [].getD k 0), rfl, rfl, by rw [ht]; exact hP9, hD9⟩, hS.F ht⟩) hS.2.2 dX11_line_16
set_option maxHeartbeats 4000000 in
set_option maxRecDepth 100000 in
theorem kX11_cue (l : Launch) (dC : Nat → ClassId) (dI : Nat → Nat → Nat) (cI cQ : ClassId) (h0 h1 h2 h3 h4 h5 h6 h7 h8 h9 h10 h11 h12 h13 h14 h15 : Nat) (p0 : Int32) (hp0l : -2147483648 ≤ p0.toInt) (hp0h : p0.toInt ≤ -1) (p1 : Int32) (hp1l : -2147483648 ≤ p1.toInt) (hp1h : p1.toInt ≤ 2147483647) (sz : Nat) : Met l yX11_cue vsX11_cue ({ frames := 1, cells := 0, slots := 0, locals := 22 }) (va_Pc [.ref h0, .int p0, .int p1] (zB dC dI cI cQ [(h0, .inr (11, [.ref h1, .ref h3, .int 0, .ref h4, .ref h5, .ref h6, .ref h7, .int 0, .ref h2])), (h1, .inr (7, [.ref h8, .ref h9, .ref h10, .int 0, .ref h11, .ref h12, .ref h13, .ref h14, .int 0, .int 0, .int 10, .ref h15])), (h2, .inl (cI, 7, .inl (fun _ => 0)))] sz)) (zQi dC dI (va_A [(h0, .inr (11, [.ref h1, .ref h3, .int 0, .ref h4, .ref h5, .ref h6, .ref h7, .int 0, .ref h2])), (h1, .inr (7, [.ref h8, .ref h9, .ref h10, .int 0, .ref h11, .ref h12, .ref h13, .ref h14, .int 0, .int 0, .int 10, .ref h15])), (h2, .inl (cI, 7, .inl (fun _ => 0)))] sz) (fun ad => []) (-1)) 0 0 (va_A [(h0, .inr (11, [.ref h1, .ref h3, .int 0, .ref h4, .ref h5, .ref h6, .ref h7, .int 0, .ref h2])), (h1, .inr (7, [.ref h8, .ref h9, .ref h10, .int 0, .ref h11, .ref h12, .ref h13, .ref h14, .int 0, .int 0, .int 10, .ref h15])), (h2, .inl (cI, 7, .inl (fun _ => 0)))] sz) := by
  refine Met.ofW (cc := cX11_cue) (maxL := 4) (ret := (some .int)) (by decide) rfl ?_
  intro p e s m args below meth c s₁ B hml hv
  obtain ⟨rfl, hsz, hP, hZ, hD0⟩ := hv
  obtain ⟨hK, hAO, hN⟩ := id hZ
  have hx := B.exec
  have hb := B.bytes
  have hr := B.returns
  have hts := atoms_spec (ws := vsX11_cue) B.pre
  have hown : s.vm.findClass RX11 = some m.cls := findClass_of_methodNamed B.named
  have hlocks := B.notSynchronized
  subst hsz
  have hD := hD0.self (sz := s.heap.size)
  generalize hAe : va_A [(h0, .inr (11, [.ref h1, .ref h3, .int 0, .ref h4, .ref h5, .ref h6, .ref h7, .int 0, .ref h2])), (h1, .inr (7, [.ref h8, .ref h9, .ref h10, .int 0, .ref h11, .ref h12, .ref h13, .ref h14, .int 0, .int 0, .int 10, .ref h15])), (h2, .inl (cI, 7, .inl (fun _ => 0)))] s.heap.size = A at hD ⊢
  have hA : ∀ q : Nat, s.heap.size ≤ q → A q := fun q h => by rw [← hAe]; exact Or.inr h
  have hS : va_S A s.heap s.heap [] := va_S.rf
  have hP : va_P (dC, dI) vwCl [(h0, .inr (11, [.ref h1, .ref h3, .int 0, .ref h4, .ref h5, .ref h6, .ref h7, .int 0, .ref h2])), (h1, .inr (7, [.ref h8, .ref h9, .ref h10, .int 0, .ref h11, .ref h12, .ref h13, .ref h14, .int 0, .int 0, .int 10, .ref h15])), (h2, .inl (cI, 7, .inl (fun _ => 0)))] s.heap := hP
  have hl := lv_entry ([.ref h0, .int p0, .int p1]) (n := 4) (Nat.le_of_ble_eq_true rfl)
  rw [lg_entry_eq]
  generalize (lg_sl ([.ref h0, .int p0, .int p1]) ++ List.replicate (4 - (lg_sl ([.ref h0, .int p0, .int p1])).length) Slot.unset).toArray = ls at hl ⊢
  have hl : lv_has ls 4 [(0, .ref h0), (1, .int p0), (2, .int p1)] := hl
  refine lv_aload_n hx hb dX11_cue_0 rfl (lv_at hl 0 rfl) ?_
  refine va_get (D := (dC, dI)) (ci := 11) (v := .ref h1) (C := RX11) (T := TX11) (N := 9) hx hb hts in_X11_cue_X11 hown hK hP 0 rfl rfl 0 (by decide) (hts (.fieldLink RX11 10 "EachOnHisCue" "play" "LEachOnHisCue$Play;") (by decide +kernel)) (fun _ h9 => h9) rfl dX11_cue_1 ?_
  refine lv_iload_n hx hb dX11_cue_4 rfl (lv_at hl 1 rfl) ?_
  refine z_calli (wc := []) (wr := [(h0, .inr (11, [.ref h1, .ref h3, .int 0, .ref h4, .ref h5, .ref h6, .ref h7, .int 0, .ref h2])), (h1, .inr (7, [.ref h8, .ref h9, .ref h10, .int 0, .ref h11, .ref h12, .ref h13, .ref h14, .int 0, .int 0, .int 10, .ref h15])), (h2, .inl (cI, 7, .inl (fun _ => 0)))]) (w1 := (fun _ => [])) (va_runV (As := [.int p0]) (rest := []) ⟨hx, hb, hml, hown, hts⟩ (kX7_hasLine l dC dI cI cQ h1 p0 hp0l hp0h s.heap.size) (cwV 1 hts gv_X11_cue_X7_hasLine_103 rfl rfl rfl (by decide +kernel) ⟨Nat.le_of_ble_eq_true rfl, Nat.le_of_ble_eq_true rfl⟩) ⟨z_blind, va_recv hK hP (ci := 7) (q0 := 1) rfl rfl, z_pre hZ hP hD [] rfl (by decide)⟩ rfl rfl hl.1 rfl (lv_room (Nat.le_of_ble_eq_true rfl)) dX11_cue_5 ⟨Nat.le_of_ble_eq_true rfl, Nat.le_of_ble_eq_true rfl⟩) hP hD hS hA [] [0, 1, 2] rfl rfl (by decide) (by decide) (fun _ H locs hP hD hS => ?_)
  have hP : va_P (dC, dI) vwCl [(h0, .inr (11, [.ref h1, .ref h3, .int 0, .ref h4, .ref h5, .ref h6, .ref h7, .int 0, .ref h2])), (h1, .inr (7, [.ref h8, .ref h9, .ref h10, .int 0, .ref h11, .ref h12, .ref h13, .ref h14, .int 0, .int 0, .int 10, .ref h15])), (h2, .inl (cI, 7, .inl (fun _ => 0)))] H := hP
  have hD : va_D A [(h0, .inr (11, [.ref h1, .ref h3, .int 0, .ref h4, .ref h5, .ref h6, .ref h7, .int 0, .ref h2])), (h1, .inr (7, [.ref h8, .ref h9, .ref h10, .int 0, .ref h11, .ref h12, .ref h13, .ref h14, .int 0, .int 0, .int 10, .ref h15])), (h2, .inl (cI, 7, .inl (fun _ => 0)))] := hD
  refine lv_if_ne (tgt := 17) hx hb dX11_cue_8 (by decide) (fun hc => ?_) (fun hc => ?_)
  · exact absurd hc (by decide)
  refine lv_aload_n hx hb dX11_cue_11 rfl (lv_at hl 0 rfl) ?_
  refine lv_iconst (v := (-1)) hx hb dX11_cue_12 (by decide) ?_
  refine z_calli (wc := [(h0, .inr (11, [.ref h1, .ref h3, .int 0, .ref h4, .ref h5, .ref h6, .ref h7, .int 0, .ref h2])), (h2, .inl (cI, 7, .inl (fun _ => 0)))]) (wr := [(h1, .inr (7, [.ref h8, .ref h9, .ref h10, .int 0, .ref h11, .ref h12, .ref h13, .ref h14, .int 0, .int 0, .int 10, .ref h15]))]) (w1 := (fun _ => [(h0, .inr (11, [.ref h1, .ref h3, .int 0, .ref h4, .ref h5, .ref h6, .ref h7, .int 0, .ref h2])), (h2, .inl (cI, 7, .inl (upd (fun _ => 0) 1 1)))])) (va_runV (As := [.int (-1)]) (rest := []) ⟨hx, hb, hml, hown, hts⟩ (kX11_refuse_2 l dC dI cI cQ h0 h2 h1 h3 h4 h5 h6 h7 H.size) (cwV 1 hts gv_X11_cue_X11_refuse_53 rfl rfl rfl (by decide +kernel) ⟨Nat.le_of_ble_eq_true rfl, Nat.le_of_ble_eq_true rfl⟩) ⟨z_blind, va_recv hK hP (ci := 11) (q0 := 0) rfl rfl, z_pre hZ hP hD [0, 2] rfl (by decide)⟩ rfl rfl hl.1 rfl (lv_room (Nat.le_of_ble_eq_true rfl)) dX11_cue_13 ⟨Nat.le_of_ble_eq_true rfl, Nat.le_of_ble_eq_true rfl⟩) hP hD hS hA [0, 2] [1] rfl rfl (by decide) (by decide) (fun _ H locs hP hD hS => ?_)
  have hP : va_P (dC, dI) vwCl [(h1, .inr (7, [.ref h8, .ref h9, .ref h10, .int 0, .ref h11, .ref h12, .ref h13, .ref h14, .int 0, .int 0, .int 10, .ref h15])), (h0, .inr (11, [.ref h1, .ref h3, .int 0, .ref h4, .ref h5, .ref h6, .ref h7, .int 0, .ref h2])), (h2, .inl (cI, 7, .inl (upd (fun _ => 0) 1 1)))] H := hP
  have hD : va_D A [(h1, .inr (7, [.ref h8, .ref h9, .ref h10, .int 0, .ref h11, .ref h12, .ref h13, .ref h14, .int 0, .int 0, .int 10, .ref h15])), (h0, .inr (11, [.ref h1, .ref h3, .int 0, .ref h4, .ref h5, .ref h6, .ref h7, .int 0, .ref h2])), (h2, .inl (cI, 7, .inl (upd (fun _ => 0) 1 1)))] := hD
  have hP9 := hP.sub (ws' := []) [] rfl
  have hD9 := hD.sub (ws' := []) [] (by decide) rfl
  exact W.iret (v := (-1)) hx hb hr (fun t ht hW => ⟨⟨(-1), (fun k => [].getD k 0), rfl, rfl, by rw [ht]; exact hP9, hD9⟩, hS.F ht⟩) hS.2.2 dX11_cue_16
set_option maxHeartbeats 4000000 in
set_option maxRecDepth 100000 in
theorem kX11_cue_1 (l : Launch) (dC : Nat → ClassId) (dI : Nat → Nat → Nat) (cI cQ : ClassId) (h0 h1 h2 h3 h4 h5 h6 h7 h8 h9 h10 h11 h12 h13 h14 h15 : Nat) (p0 : Int32) (hp0l : 0 ≤ p0.toInt) (hp0h : p0.toInt ≤ 2147483647) (p1 : Int32) (hp1l : -2147483648 ≤ p1.toInt) (hp1h : p1.toInt ≤ 2147483647) (sz : Nat) : Met l yX11_cue vsX11_cue ({ frames := 1, cells := 0, slots := 0, locals := 22 }) (va_Pc [.ref h0, .int p0, .int p1] (zB dC dI cI cQ [(h0, .inr (11, [.ref h1, .ref h3, .int 0, .ref h4, .ref h5, .ref h6, .ref h7, .int 0, .ref h2])), (h1, .inr (7, [.ref h8, .ref h9, .ref h10, .int 0, .ref h11, .ref h12, .ref h13, .ref h14, .int 0, .int 0, .int 10, .ref h15])), (h2, .inl (cI, 7, .inl (fun _ => 0)))] sz)) (zQi dC dI (va_A [(h0, .inr (11, [.ref h1, .ref h3, .int 0, .ref h4, .ref h5, .ref h6, .ref h7, .int 0, .ref h2])), (h1, .inr (7, [.ref h8, .ref h9, .ref h10, .int 0, .ref h11, .ref h12, .ref h13, .ref h14, .int 0, .int 0, .int 10, .ref h15])), (h2, .inl (cI, 7, .inl (fun _ => 0)))] sz) (fun ad => []) (-1)) 0 0 (va_A [(h0, .inr (11, [.ref h1, .ref h3, .int 0, .ref h4, .ref h5, .ref h6, .ref h7, .int 0, .ref h2])), (h1, .inr (7, [.ref h8, .ref h9, .ref h10, .int 0, .ref h11, .ref h12, .ref h13, .ref h14, .int 0, .int 0, .int 10, .ref h15])), (h2, .inl (cI, 7, .inl (fun _ => 0)))] sz) := by
  refine Met.ofW (cc := cX11_cue) (maxL := 4) (ret := (some .int)) (by decide) rfl ?_
  intro p e s m args below meth c s₁ B hml hv
  obtain ⟨rfl, hsz, hP, hZ, hD0⟩ := hv
  obtain ⟨hK, hAO, hN⟩ := id hZ
  have hx := B.exec
  have hb := B.bytes
  have hr := B.returns
  have hts := atoms_spec (ws := vsX11_cue) B.pre
  have hown : s.vm.findClass RX11 = some m.cls := findClass_of_methodNamed B.named
  have hlocks := B.notSynchronized
  subst hsz
  have hD := hD0.self (sz := s.heap.size)
  generalize hAe : va_A [(h0, .inr (11, [.ref h1, .ref h3, .int 0, .ref h4, .ref h5, .ref h6, .ref h7, .int 0, .ref h2])), (h1, .inr (7, [.ref h8, .ref h9, .ref h10, .int 0, .ref h11, .ref h12, .ref h13, .ref h14, .int 0, .int 0, .int 10, .ref h15])), (h2, .inl (cI, 7, .inl (fun _ => 0)))] s.heap.size = A at hD ⊢
  have hA : ∀ q : Nat, s.heap.size ≤ q → A q := fun q h => by rw [← hAe]; exact Or.inr h
  have hS : va_S A s.heap s.heap [] := va_S.rf
  have hP : va_P (dC, dI) vwCl [(h0, .inr (11, [.ref h1, .ref h3, .int 0, .ref h4, .ref h5, .ref h6, .ref h7, .int 0, .ref h2])), (h1, .inr (7, [.ref h8, .ref h9, .ref h10, .int 0, .ref h11, .ref h12, .ref h13, .ref h14, .int 0, .int 0, .int 10, .ref h15])), (h2, .inl (cI, 7, .inl (fun _ => 0)))] s.heap := hP
  have hl := lv_entry ([.ref h0, .int p0, .int p1]) (n := 4) (Nat.le_of_ble_eq_true rfl)
  rw [lg_entry_eq]
  generalize (lg_sl ([.ref h0, .int p0, .int p1]) ++ List.replicate (4 - (lg_sl ([.ref h0, .int p0, .int p1])).length) Slot.unset).toArray = ls at hl ⊢
  have hl : lv_has ls 4 [(0, .ref h0), (1, .int p0), (2, .int p1)] := hl
  refine lv_aload_n hx hb dX11_cue_0 rfl (lv_at hl 0 rfl) ?_
  refine va_get (D := (dC, dI)) (ci := 11) (v := .ref h1) (C := RX11) (T := TX11) (N := 9) hx hb hts in_X11_cue_X11 hown hK hP 0 rfl rfl 0 (by decide) (hts (.fieldLink RX11 10 "EachOnHisCue" "play" "LEachOnHisCue$Play;") (by decide +kernel)) (fun _ h9 => h9) rfl dX11_cue_1 ?_
  refine lv_iload_n hx hb dX11_cue_4 rfl (lv_at hl 1 rfl) ?_
  refine z_calli (wc := [(h1, .inr (7, [.ref h8, .ref h9, .ref h10, .int 0, .ref h11, .ref h12, .ref h13, .ref h14, .int 0, .int 0, .int 10, .ref h15]))]) (wr := [(h0, .inr (11, [.ref h1, .ref h3, .int 0, .ref h4, .ref h5, .ref h6, .ref h7, .int 0, .ref h2])), (h2, .inl (cI, 7, .inl (fun _ => 0)))]) (w1 := (fun _ => [(h1, .inr (7, [.ref h8, .ref h9, .ref h10, .int 0, .ref h11, .ref h12, .ref h13, .ref h14, .int 0, .int 0, .int 10, .ref h15]))])) (va_runV (As := [.int p0]) (rest := []) ⟨hx, hb, hml, hown, hts⟩ (kX7_hasLine_1 l dC dI cI cQ h1 h8 h9 h10 h11 h12 h13 h14 h15 p0 hp0l hp0h s.heap.size) (cwV 1 hts gv_X11_cue_X7_hasLine_103 rfl rfl rfl (by decide +kernel) ⟨Nat.le_of_ble_eq_true rfl, Nat.le_of_ble_eq_true rfl⟩) ⟨z_blind, va_recv hK hP (ci := 7) (q0 := 1) rfl rfl, z_pre hZ hP hD [1] rfl (by decide)⟩ rfl rfl hl.1 rfl (lv_room (Nat.le_of_ble_eq_true rfl)) dX11_cue_5 ⟨Nat.le_of_ble_eq_true rfl, Nat.le_of_ble_eq_true rfl⟩) hP hD hS hA [1] [0, 2] rfl rfl (by decide) (by decide) (fun _ H locs hP hD hS => ?_)
  have hP : va_P (dC, dI) vwCl [(h0, .inr (11, [.ref h1, .ref h3, .int 0, .ref h4, .ref h5, .ref h6, .ref h7, .int 0, .ref h2])), (h2, .inl (cI, 7, .inl (fun _ => 0))), (h1, .inr (7, [.ref h8, .ref h9, .ref h10, .int 0, .ref h11, .ref h12, .ref h13, .ref h14, .int 0, .int 0, .int 10, .ref h15]))] H := hP
  have hD : va_D A [(h0, .inr (11, [.ref h1, .ref h3, .int 0, .ref h4, .ref h5, .ref h6, .ref h7, .int 0, .ref h2])), (h2, .inl (cI, 7, .inl (fun _ => 0))), (h1, .inr (7, [.ref h8, .ref h9, .ref h10, .int 0, .ref h11, .ref h12, .ref h13, .ref h14, .int 0, .int 0, .int 10, .ref h15]))] := hD
  refine lv_if_ne (tgt := 17) hx hb dX11_cue_8 (by decide) (fun hc => ?_) (fun hc => ?_)
  · exact absurd hc (by decide)
  refine lv_aload_n hx hb dX11_cue_11 rfl (lv_at hl 0 rfl) ?_
  refine lv_iconst (v := (-1)) hx hb dX11_cue_12 (by decide) ?_
  refine z_calli (wc := [(h0, .inr (11, [.ref h1, .ref h3, .int 0, .ref h4, .ref h5, .ref h6, .ref h7, .int 0, .ref h2])), (h2, .inl (cI, 7, .inl (fun _ => 0)))]) (wr := [(h1, .inr (7, [.ref h8, .ref h9, .ref h10, .int 0, .ref h11, .ref h12, .ref h13, .ref h14, .int 0, .int 0, .int 10, .ref h15]))]) (w1 := (fun _ => [(h0, .inr (11, [.ref h1, .ref h3, .int 0, .ref h4, .ref h5, .ref h6, .ref h7, .int 0, .ref h2])), (h2, .inl (cI, 7, .inl (upd (fun _ => 0) 1 1)))])) (va_runV (As := [.int (-1)]) (rest := []) ⟨hx, hb, hml, hown, hts⟩ (kX11_refuse_2 l dC dI cI cQ h0 h2 h1 h3 h4 h5 h6 h7 H.size) (cwV 1 hts gv_X11_cue_X11_refuse_53 rfl rfl rfl (by decide +kernel) ⟨Nat.le_of_ble_eq_true rfl, Nat.le_of_ble_eq_true rfl⟩) ⟨z_blind, va_recv hK hP (ci := 11) (q0 := 0) rfl rfl, z_pre hZ hP hD [0, 1] rfl (by decide)⟩ rfl rfl hl.1 rfl (lv_room (Nat.le_of_ble_eq_true rfl)) dX11_cue_13 ⟨Nat.le_of_ble_eq_true rfl, Nat.le_of_ble_eq_true rfl⟩) hP hD hS hA [0, 1] [2] rfl rfl (by decide) (by decide) (fun _ H locs hP hD hS => ?_)
  have hP : va_P (dC, dI) vwCl [(h1, .inr (7, [.ref h8, .ref h9, .ref h10, .int 0, .ref h11, .ref h12, .ref h13, .ref h14, .int 0, .int 0, .int 10, .ref h15])), (h0, .inr (11, [.ref h1, .ref h3, .int 0, .ref h4, .ref h5, .ref h6, .ref h7, .int 0, .ref h2])), (h2, .inl (cI, 7, .inl (upd (fun _ => 0) 1 1)))] H := hP
  have hD : va_D A [(h1, .inr (7, [.ref h8, .ref h9, .ref h10, .int 0, .ref h11, .ref h12, .ref h13, .ref h14, .int 0, .int 0, .int 10, .ref h15])), (h0, .inr (11, [.ref h1, .ref h3, .int 0, .ref h4, .ref h5, .ref h6, .ref h7, .int 0, .ref h2])), (h2, .inl (cI, 7, .inl (upd (fun _ => 0) 1 1)))] := hD
  have hP9 := hP.sub (ws' := []) [] rfl
  have hD9 := hD.sub (ws' := []) [] (by decide) rfl
  exact W.iret (v := (-1)) hx hb hr (fun t ht hW => ⟨⟨(-1), (fun k => [].getD k 0), rfl, rfl, by rw [ht]; exact hP9, hD9⟩, hS.F ht⟩) hS.2.2 dX11_cue_16
set_option maxHeartbeats 4000000 in
set_option maxRecDepth 100000 in
theorem kX11_speed (l : Launch) (dC : Nat → ClassId) (dI : Nat → Nat → Nat) (cI cQ : ClassId) (h0 h1 h2 h3 h4 h5 h6 h7 h8 h9 h10 h11 h12 h13 h14 h15 : Nat) (p0 : Int32) (hp0l : -2147483648 ≤ p0.toInt) (hp0h : p0.toInt ≤ -1) (p1 : Int32) (hp1l : -2147483648 ≤ p1.toInt) (hp1h : p1.toInt ≤ 2147483647) (sz : Nat) : Met l yX11_speed vsX11_speed ({ frames := 1, cells := 0, slots := 0, locals := 22 }) (va_Pc [.ref h0, .int p0, .int p1] (zB dC dI cI cQ [(h0, .inr (11, [.ref h1, .ref h3, .int 0, .ref h4, .ref h5, .ref h6, .ref h7, .int 0, .ref h2])), (h1, .inr (7, [.ref h8, .ref h9, .ref h10, .int 0, .ref h11, .ref h12, .ref h13, .ref h14, .int 0, .int 0, .int 10, .ref h15])), (h2, .inl (cI, 7, .inl (fun _ => 0)))] sz)) (zQi dC dI (va_A [(h0, .inr (11, [.ref h1, .ref h3, .int 0, .ref h4, .ref h5, .ref h6, .ref h7, .int 0, .ref h2])), (h1, .inr (7, [.ref h8, .ref h9, .ref h10, .int 0, .ref h11, .ref h12, .ref h13, .ref h14, .int 0, .int 0, .int 10, .ref h15])), (h2, .inl (cI, 7, .inl (fun _ => 0)))] sz) (fun ad => []) (-1)) 0 0 (va_A [(h0, .inr (11, [.ref h1, .ref h3, .int 0, .ref h4, .ref h5, .ref h6, .ref h7, .int 0, .ref h2])), (h1, .inr (7, [.ref h8, .ref h9, .ref h10, .int 0, .ref h11, .ref h12, .ref h13, .ref h14, .int 0, .int 0, .int 10, .ref h15])), (h2, .inl (cI, 7, .inl (fun _ => 0)))] sz) := by
  refine Met.ofW (cc := cX11_speed) (maxL := 4) (ret := (some .int)) (by decide) rfl ?_
  intro p e s m args below meth c s₁ B hml hv
  obtain ⟨rfl, hsz, hP, hZ, hD0⟩ := hv
  obtain ⟨hK, hAO, hN⟩ := id hZ
  have hx := B.exec
  have hb := B.bytes
  have hr := B.returns
  have hts := atoms_spec (ws := vsX11_speed) B.pre
  have hown : s.vm.findClass RX11 = some m.cls := findClass_of_methodNamed B.named
  have hlocks := B.notSynchronized
  subst hsz
  have hD := hD0.self (sz := s.heap.size)
  generalize hAe : va_A [(h0, .inr (11, [.ref h1, .ref h3, .int 0, .ref h4, .ref h5, .ref h6, .ref h7, .int 0, .ref h2])), (h1, .inr (7, [.ref h8, .ref h9, .ref h10, .int 0, .ref h11, .ref h12, .ref h13, .ref h14, .int 0, .int 0, .int 10, .ref h15])), (h2, .inl (cI, 7, .inl (fun _ => 0)))] s.heap.size = A at hD ⊢
  have hA : ∀ q : Nat, s.heap.size ≤ q → A q := fun q h => by rw [← hAe]; exact Or.inr h
  have hS : va_S A s.heap s.heap [] := va_S.rf
  have hP : va_P (dC, dI) vwCl [(h0, .inr (11, [.ref h1, .ref h3, .int 0, .ref h4, .ref h5, .ref h6, .ref h7, .int 0, .ref h2])), (h1, .inr (7, [.ref h8, .ref h9, .ref h10, .int 0, .ref h11, .ref h12, .ref h13, .ref h14, .int 0, .int 0, .int 10, .ref h15])), (h2, .inl (cI, 7, .inl (fun _ => 0)))] s.heap := hP
  have hl := lv_entry ([.ref h0, .int p0, .int p1]) (n := 4) (Nat.le_of_ble_eq_true rfl)
  rw [lg_entry_eq]
  generalize (lg_sl ([.ref h0, .int p0, .int p1]) ++ List.replicate (4 - (lg_sl ([.ref h0, .int p0, .int p1])).length) Slot.unset).toArray = ls at hl ⊢
  have hl : lv_has ls 4 [(0, .ref h0), (1, .int p0), (2, .int p1)] := hl
  refine lv_aload_n hx hb dX11_speed_0 rfl (lv_at hl 0 rfl) ?_
  refine va_get (D := (dC, dI)) (ci := 11) (v := .ref h1) (C := RX11) (T := TX11) (N := 9) hx hb hts in_X11_speed_X11 hown hK hP 0 rfl rfl 0 (by decide) (hts (.fieldLink RX11 10 "EachOnHisCue" "play" "LEachOnHisCue$Play;") (by decide +kernel)) (fun _ h9 => h9) rfl dX11_speed_1 ?_
  refine lv_iload_n hx hb dX11_speed_4 rfl (lv_at hl 1 rfl) ?_
  refine z_calli (wc := []) (wr := [(h0, .inr (11, [.ref h1, .ref h3, .int 0, .ref h4, .ref h5, .ref h6, .ref h7, .int 0, .ref h2])), (h1, .inr (7, [.ref h8, .ref h9, .ref h10, .int 0, .ref h11, .ref h12, .ref h13, .ref h14, .int 0, .int 0, .int 10, .ref h15])), (h2, .inl (cI, 7, .inl (fun _ => 0)))]) (w1 := (fun _ => [])) (va_runV (As := [.int p0]) (rest := []) ⟨hx, hb, hml, hown, hts⟩ (kX7_hasPlayer l dC dI cI cQ h1 p0 hp0l hp0h s.heap.size) (cwV 1 hts gv_X11_speed_X7_hasPlayer_80 rfl rfl rfl (by decide +kernel) ⟨Nat.le_of_ble_eq_true rfl, Nat.le_of_ble_eq_true rfl⟩) ⟨z_blind, va_recv hK hP (ci := 7) (q0 := 1) rfl rfl, z_pre hZ hP hD [] rfl (by decide)⟩ rfl rfl hl.1 rfl (lv_room (Nat.le_of_ble_eq_true rfl)) dX11_speed_5 ⟨Nat.le_of_ble_eq_true rfl, Nat.le_of_ble_eq_true rfl⟩) hP hD hS hA [] [0, 1, 2] rfl rfl (by decide) (by decide) (fun _ H locs hP hD hS => ?_)
  have hP : va_P (dC, dI) vwCl [(h0, .inr (11, [.ref h1, .ref h3, .int 0, .ref h4, .ref h5, .ref h6, .ref h7, .int 0, .ref h2])), (h1, .inr (7, [.ref h8, .ref h9, .ref h10, .int 0, .ref h11, .ref h12, .ref h13, .ref h14, .int 0, .int 0, .int 10, .ref h15])), (h2, .inl (cI, 7, .inl (fun _ => 0)))] H := hP
  have hD : va_D A [(h0, .inr (11, [.ref h1, .ref h3, .int 0, .ref h4, .ref h5, .ref h6, .ref h7, .int 0, .ref h2])), (h1, .inr (7, [.ref h8, .ref h9, .ref h10, .int 0, .ref h11, .ref h12, .ref h13, .ref h14, .int 0, .int 0, .int 10, .ref h15])), (h2, .inl (cI, 7, .inl (fun _ => 0)))] := hD
  refine lv_if_ne (tgt := 17) hx hb dX11_speed_8 (by decide) (fun hc => ?_) (fun hc => ?_)
  · exact absurd hc (by decide)
  refine lv_aload_n hx hb dX11_speed_11 rfl (lv_at hl 0 rfl) ?_
  refine lv_iconst (v := (-1)) hx hb dX11_speed_12 (by decide) ?_
  refine z_calli (wc := [(h0, .inr (11, [.ref h1, .ref h3, .int 0, .ref h4, .ref h5, .ref h6, .ref h7, .int 0, .ref h2])), (h2, .inl (cI, 7, .inl (fun _ => 0)))]) (wr := [(h1, .inr (7, [.ref h8, .ref h9, .ref h10, .int 0, .ref h11, .ref h12, .ref h13, .ref h14, .int 0, .int 0, .int 10, .ref h15]))]) (w1 := (fun _ => [(h0, .inr (11, [.ref h1, .ref h3, .int 0, .ref h4, .ref h5, .ref h6, .ref h7, .int 0, .ref h2])), (h2, .inl (cI, 7, .inl (upd (fun _ => 0) 1 1)))])) (va_runV (As := [.int (-1)]) (rest := []) ⟨hx, hb, hml, hown, hts⟩ (kX11_refuse_2 l dC dI cI cQ h0 h2 h1 h3 h4 h5 h6 h7 H.size) (cwV 1 hts gv_X11_speed_X11_refuse_53 rfl rfl rfl (by decide +kernel) ⟨Nat.le_of_ble_eq_true rfl, Nat.le_of_ble_eq_true rfl⟩) ⟨z_blind, va_recv hK hP (ci := 11) (q0 := 0) rfl rfl, z_pre hZ hP hD [0, 2] rfl (by decide)⟩ rfl rfl hl.1 rfl (lv_room (Nat.le_of_ble_eq_true rfl)) dX11_speed_13 ⟨Nat.le_of_ble_eq_true rfl, Nat.le_of_ble_eq_true rfl⟩) hP hD hS hA [0, 2] [1] rfl rfl (by decide) (by decide) (fun _ H locs hP hD hS => ?_)
  have hP : va_P (dC, dI) vwCl [(h1, .inr (7, [.ref h8, .ref h9, .ref h10, .int 0, .ref h11, .ref h12, .ref h13, .ref h14, .int 0, .int 0, .int 10, .ref h15])), (h0, .inr (11, [.ref h1, .ref h3, .int 0, .ref h4, .ref h5, .ref h6, .ref h7, .int 0, .ref h2])), (h2, .inl (cI, 7, .inl (upd (fun _ => 0) 1 1)))] H := hP
  have hD : va_D A [(h1, .inr (7, [.ref h8, .ref h9, .ref h10, .int 0, .ref h11, .ref h12, .ref h13, .ref h14, .int 0, .int 0, .int 10, .ref h15])), (h0, .inr (11, [.ref h1, .ref h3, .int 0, .ref h4, .ref h5, .ref h6, .ref h7, .int 0, .ref h2])), (h2, .inl (cI, 7, .inl (upd (fun _ => 0) 1 1)))] := hD
  have hP9 := hP.sub (ws' := []) [] rfl
  have hD9 := hD.sub (ws' := []) [] (by decide) rfl
  exact W.iret (v := (-1)) hx hb hr (fun t ht hW => ⟨⟨(-1), (fun k => [].getD k 0), rfl, rfl, by rw [ht]; exact hP9, hD9⟩, hS.F ht⟩) hS.2.2 dX11_speed_16
set_option maxHeartbeats 4000000 in
set_option maxRecDepth 100000 in
theorem kX11_speed_1 (l : Launch) (dC : Nat → ClassId) (dI : Nat → Nat → Nat) (cI cQ : ClassId) (h0 h1 h2 h3 h4 h5 h6 h7 h8 h9 h10 h11 h12 h13 h14 h15 : Nat) (p0 : Int32) (hp0l : 0 ≤ p0.toInt) (hp0h : p0.toInt ≤ 2147483647) (p1 : Int32) (hp1l : -2147483648 ≤ p1.toInt) (hp1h : p1.toInt ≤ 2147483647) (sz : Nat) : Met l yX11_speed vsX11_speed ({ frames := 1, cells := 0, slots := 0, locals := 22 }) (va_Pc [.ref h0, .int p0, .int p1] (zB dC dI cI cQ [(h0, .inr (11, [.ref h1, .ref h3, .int 0, .ref h4, .ref h5, .ref h6, .ref h7, .int 0, .ref h2])), (h1, .inr (7, [.ref h8, .ref h9, .ref h10, .int 0, .ref h11, .ref h12, .ref h13, .ref h14, .int 0, .int 0, .int 10, .ref h15])), (h2, .inl (cI, 7, .inl (fun _ => 0)))] sz)) (zQi dC dI (va_A [(h0, .inr (11, [.ref h1, .ref h3, .int 0, .ref h4, .ref h5, .ref h6, .ref h7, .int 0, .ref h2])), (h1, .inr (7, [.ref h8, .ref h9, .ref h10, .int 0, .ref h11, .ref h12, .ref h13, .ref h14, .int 0, .int 0, .int 10, .ref h15])), (h2, .inl (cI, 7, .inl (fun _ => 0)))] sz) (fun ad => []) (-1)) 0 0 (va_A [(h0, .inr (11, [.ref h1, .ref h3, .int 0, .ref h4, .ref h5, .ref h6, .ref h7, .int 0, .ref h2])), (h1, .inr (7, [.ref h8, .ref h9, .ref h10, .int 0, .ref h11, .ref h12, .ref h13, .ref h14, .int 0, .int 0, .int 10, .ref h15])), (h2, .inl (cI, 7, .inl (fun _ => 0)))] sz) := by
  refine Met.ofW (cc := cX11_speed) (maxL := 4) (ret := (some .int)) (by decide) rfl ?_
  intro p e s m args below meth c s₁ B hml hv
  obtain ⟨rfl, hsz, hP, hZ, hD0⟩ := hv
  obtain ⟨hK, hAO, hN⟩ := id hZ
  have hx := B.exec
  have hb := B.bytes
  have hr := B.returns
  have hts := atoms_spec (ws := vsX11_speed) B.pre
  have hown : s.vm.findClass RX11 = some m.cls := findClass_of_methodNamed B.named
  have hlocks := B.notSynchronized
  subst hsz
  have hD := hD0.self (sz := s.heap.size)
  generalize hAe : va_A [(h0, .inr (11, [.ref h1, .ref h3, .int 0, .ref h4, .ref h5, .ref h6, .ref h7, .int 0, .ref h2])), (h1, .inr (7, [.ref h8, .ref h9, .ref h10, .int 0, .ref h11, .ref h12, .ref h13, .ref h14, .int 0, .int 0, .int 10, .ref h15])), (h2, .inl (cI, 7, .inl (fun _ => 0)))] s.heap.size = A at hD ⊢
  have hA : ∀ q : Nat, s.heap.size ≤ q → A q := fun q h => by rw [← hAe]; exact Or.inr h
  have hS : va_S A s.heap s.heap [] := va_S.rf
  have hP : va_P (dC, dI) vwCl [(h0, .inr (11, [.ref h1, .ref h3, .int 0, .ref h4, .ref h5, .ref h6, .ref h7, .int 0, .ref h2])), (h1, .inr (7, [.ref h8, .ref h9, .ref h10, .int 0, .ref h11, .ref h12, .ref h13, .ref h14, .int 0, .int 0, .int 10, .ref h15])), (h2, .inl (cI, 7, .inl (fun _ => 0)))] s.heap := hP
  have hl := lv_entry ([.ref h0, .int p0, .int p1]) (n := 4) (Nat.le_of_ble_eq_true rfl)
  rw [lg_entry_eq]
  generalize (lg_sl ([.ref h0, .int p0, .int p1]) ++ List.replicate (4 - (lg_sl ([.ref h0, .int p0, .int p1])).length) Slot.unset).toArray = ls at hl ⊢
  have hl : lv_has ls 4 [(0, .ref h0), (1, .int p0), (2, .int p1)] := hl
  refine lv_aload_n hx hb dX11_speed_0 rfl (lv_at hl 0 rfl) ?_
  refine va_get (D := (dC, dI)) (ci := 11) (v := .ref h1) (C := RX11) (T := TX11) (N := 9) hx hb hts in_X11_speed_X11 hown hK hP 0 rfl rfl 0 (by decide) (hts (.fieldLink RX11 10 "EachOnHisCue" "play" "LEachOnHisCue$Play;") (by decide +kernel)) (fun _ h9 => h9) rfl dX11_speed_1 ?_
  refine lv_iload_n hx hb dX11_speed_4 rfl (lv_at hl 1 rfl) ?_
  refine z_calli (wc := [(h1, .inr (7, [.ref h8, .ref h9, .ref h10, .int 0, .ref h11, .ref h12, .ref h13, .ref h14, .int 0, .int 0, .int 10, .ref h15]))]) (wr := [(h0, .inr (11, [.ref h1, .ref h3, .int 0, .ref h4, .ref h5, .ref h6, .ref h7, .int 0, .ref h2])), (h2, .inl (cI, 7, .inl (fun _ => 0)))]) (w1 := (fun _ => [(h1, .inr (7, [.ref h8, .ref h9, .ref h10, .int 0, .ref h11, .ref h12, .ref h13, .ref h14, .int 0, .int 0, .int 10, .ref h15]))])) (va_runV (As := [.int p0]) (rest := []) ⟨hx, hb, hml, hown, hts⟩ (kX7_hasPlayer_1 l dC dI cI cQ h1 h8 h9 h10 h11 h12 h13 h14 h15 p0 hp0l hp0h s.heap.size) (cwV 1 hts gv_X11_speed_X7_hasPlayer_80 rfl rfl rfl (by decide +kernel) ⟨Nat.le_of_ble_eq_true rfl, Nat.le_of_ble_eq_true rfl⟩) ⟨z_blind, va_recv hK hP (ci := 7) (q0 := 1) rfl rfl, z_pre hZ hP hD [1] rfl (by decide)⟩ rfl rfl hl.1 rfl (lv_room (Nat.le_of_ble_eq_true rfl)) dX11_speed_5 ⟨Nat.le_of_ble_eq_true rfl, Nat.le_of_ble_eq_true rfl⟩) hP hD hS hA [1] [0, 2] rfl rfl (by decide) (by decide) (fun _ H locs hP hD hS => ?_)
  have hP : va_P (dC, dI) vwCl [(h0, .inr (11, [.ref h1, .ref h3, .int 0, .ref h4, .ref h5, .ref h6, .ref h7, .int 0, .ref h2])), (h2, .inl (cI, 7, .inl (fun _ => 0))), (h1, .inr (7, [.ref h8, .ref h9, .ref h10, .int 0, .ref h11, .ref h12, .ref h13, .ref h14, .int 0, .int 0, .int 10, .ref h15]))] H := hP
  have hD : va_D A [(h0, .inr (11, [.ref h1, .ref h3, .int 0, .ref h4, .ref h5, .ref h6, .ref h7, .int 0, .ref h2])), (h2, .inl (cI, 7, .inl (fun _ => 0))), (h1, .inr (7, [.ref h8, .ref h9, .ref h10, .int 0, .ref h11, .ref h12, .ref h13, .ref h14, .int 0, .int 0, .int 10, .ref h15]))] := hD
  refine lv_if_ne (tgt := 17) hx hb dX11_speed_8 (by decide) (fun hc => ?_) (fun hc => ?_)
  · exact absurd hc (by decide)
  refine lv_aload_n hx hb dX11_speed_11 rfl (lv_at hl 0 rfl) ?_
  refine lv_iconst (v := (-1)) hx hb dX11_speed_12 (by decide) ?_
  refine z_calli (wc := [(h0, .inr (11, [.ref h1, .ref h3, .int 0, .ref h4, .ref h5, .ref h6, .ref h7, .int 0, .ref h2])), (h2, .inl (cI, 7, .inl (fun _ => 0)))]) (wr := [(h1, .inr (7, [.ref h8, .ref h9, .ref h10, .int 0, .ref h11, .ref h12, .ref h13, .ref h14, .int 0, .int 0, .int 10, .ref h15]))]) (w1 := (fun _ => [(h0, .inr (11, [.ref h1, .ref h3, .int 0, .ref h4, .ref h5, .ref h6, .ref h7, .int 0, .ref h2])), (h2, .inl (cI, 7, .inl (upd (fun _ => 0) 1 1)))])) (va_runV (As := [.int (-1)]) (rest := []) ⟨hx, hb, hml, hown, hts⟩ (kX11_refuse_2 l dC dI cI cQ h0 h2 h1 h3 h4 h5 h6 h7 H.size) (cwV 1 hts gv_X11_speed_X11_refuse_53 rfl rfl rfl (by decide +kernel) ⟨Nat.le_of_ble_eq_true rfl, Nat.le_of_ble_eq_true rfl⟩) ⟨z_blind, va_recv hK hP (ci := 11) (q0 := 0) rfl rfl, z_pre hZ hP hD [0, 1] rfl (by decide)⟩ rfl rfl hl.1 rfl (lv_room (Nat.le_of_ble_eq_true rfl)) dX11_speed_13 ⟨Nat.le_of_ble_eq_true rfl, Nat.le_of_ble_eq_true rfl⟩) hP hD hS hA [0, 1] [2] rfl rfl (by decide) (by decide) (fun _ H locs hP hD hS => ?_)
  have hP : va_P (dC, dI) vwCl [(h1, .inr (7, [.ref h8, .ref h9, .ref h10, .int 0, .ref h11, .ref h12, .ref h13, .ref h14, .int 0, .int 0, .int 10, .ref h15])), (h0, .inr (11, [.ref h1, .ref h3, .int 0, .ref h4, .ref h5, .ref h6, .ref h7, .int 0, .ref h2])), (h2, .inl (cI, 7, .inl (upd (fun _ => 0) 1 1)))] H := hP
  have hD : va_D A [(h1, .inr (7, [.ref h8, .ref h9, .ref h10, .int 0, .ref h11, .ref h12, .ref h13, .ref h14, .int 0, .int 0, .int 10, .ref h15])), (h0, .inr (11, [.ref h1, .ref h3, .int 0, .ref h4, .ref h5, .ref h6, .ref h7, .int 0, .ref h2])), (h2, .inl (cI, 7, .inl (upd (fun _ => 0) 1 1)))] := hD
  have hP9 := hP.sub (ws' := []) [] rfl
  have hD9 := hD.sub (ws' := []) [] (by decide) rfl
  exact W.iret (v := (-1)) hx hb hr (fun t ht hW => ⟨⟨(-1), (fun k => [].getD k 0), rfl, rfl, by rw [ht]; exact hP9, hD9⟩, hS.F ht⟩) hS.2.2 dX11_speed_16
set_option maxHeartbeats 4000000 in
set_option maxRecDepth 100000 in
theorem kX11_lose (l : Launch) (dC : Nat → ClassId) (dI : Nat → Nat → Nat) (cI cQ : ClassId) (h0 h1 h2 h3 h4 h5 h6 h7 : Nat) (p0 : Int32) (hp0l : -2147483648 ≤ p0.toInt) (hp0h : p0.toInt ≤ -1) (sz : Nat) : Met l yX11_lose vsX11_lose ({ frames := 1, cells := 0, slots := 0, locals := 22 }) (va_Pc [.ref h0, .int p0] (zB dC dI cI cQ [(h0, .inr (11, [.ref h2, .ref h3, .int 0, .ref h4, .ref h5, .ref h6, .ref h7, .int 0, .ref h1])), (h1, .inl (cI, 7, .inl (fun _ => 0)))] sz)) (zQi dC dI (va_A [(h0, .inr (11, [.ref h2, .ref h3, .int 0, .ref h4, .ref h5, .ref h6, .ref h7, .int 0, .ref h1])), (h1, .inl (cI, 7, .inl (fun _ => 0)))] sz) (fun ad => []) (-4)) 0 0 (va_A [(h0, .inr (11, [.ref h2, .ref h3, .int 0, .ref h4, .ref h5, .ref h6, .ref h7, .int 0, .ref h1])), (h1, .inl (cI, 7, .inl (fun _ => 0)))] sz) := by
  refine Met.ofW (cc := cX11_lose) (maxL := 3) (ret := (some .int)) (by decide) rfl ?_
  intro p e s m args below meth c s₁ B hml hv
  obtain ⟨rfl, hsz, hP, hZ, hD0⟩ := hv
  obtain ⟨hK, hAO, hN⟩ := id hZ
  have hx := B.exec
  have hb := B.bytes
  have hr := B.returns
  have hts := atoms_spec (ws := vsX11_lose) B.pre
  have hown : s.vm.findClass RX11 = some m.cls := findClass_of_methodNamed B.named
  have hlocks := B.notSynchronized
  subst hsz
  have hD := hD0.self (sz := s.heap.size)
  generalize hAe : va_A [(h0, .inr (11, [.ref h2, .ref h3, .int 0, .ref h4, .ref h5, .ref h6, .ref h7, .int 0, .ref h1])), (h1, .inl (cI, 7, .inl (fun _ => 0)))] s.heap.size = A at hD ⊢
  have hA : ∀ q : Nat, s.heap.size ≤ q → A q := fun q h => by rw [← hAe]; exact Or.inr h
  have hS : va_S A s.heap s.heap [] := va_S.rf
  have hP : va_P (dC, dI) vwCl [(h0, .inr (11, [.ref h2, .ref h3, .int 0, .ref h4, .ref h5, .ref h6, .ref h7, .int 0, .ref h1])), (h1, .inl (cI, 7, .inl (fun _ => 0)))] s.heap := hP
  have hl := lv_entry ([.ref h0, .int p0]) (n := 3) (Nat.le_of_ble_eq_true rfl)
  rw [lg_entry_eq]
  generalize (lg_sl ([.ref h0, .int p0]) ++ List.replicate (3 - (lg_sl ([.ref h0, .int p0])).length) Slot.unset).toArray = ls at hl ⊢
  have hl : lv_has ls 3 [(0, .ref h0), (1, .int p0)] := hl
  refine lv_iload_n hx hb dX11_lose_0 rfl (lv_at hl 1 rfl) ?_
  refine lv_if_ge (tgt := 11) hx hb dX11_lose_1 (by decide) (fun hc => ?_) (fun hc => ?_)
  · exact absurd ((fa_le _ _).mp hc) (by rw [show (0 : Int32).toInt = 0 from by decide]; omega)
  refine lv_aload_n hx hb dX11_lose_4 rfl (lv_at hl 0 rfl) ?_
  refine lv_bipush (v := (-4)) hx hb dX11_lose_5 (by decide) ?_
  refine z_calli (wc := [(h0, .inr (11, [.ref h2, .ref h3, .int 0, .ref h4, .ref h5, .ref h6, .ref h7, .int 0, .ref h1])), (h1, .inl (cI, 7, .inl (fun _ => 0)))]) (wr := []) (w1 := (fun _ => [(h0, .inr (11, [.ref h2, .ref h3, .int 0, .ref h4, .ref h5, .ref h6, .ref h7, .int 0, .ref h1])), (h1, .inl (cI, 7, .inl (upd (fun _ => 0) 4 1)))])) (va_runV (As := [.int (-4)]) (rest := []) ⟨hx, hb, hml, hown, hts⟩ (kX11_refuse l dC dI cI cQ h0 h1 h2 h3 h4 h5 h6 h7 s.heap.size) (cwV 1 hts gv_X11_lose_X11_refuse_53 rfl rfl rfl (by decide +kernel) ⟨Nat.le_of_ble_eq_true rfl, Nat.le_of_ble_eq_true rfl⟩) ⟨z_blind, va_recv hK hP (ci := 11) (q0 := 0) rfl rfl, z_pre hZ hP hD [0, 1] rfl (by decide)⟩ rfl rfl hl.1 rfl (lv_room (Nat.le_of_ble_eq_true rfl)) dX11_lose_7 ⟨Nat.le_of_ble_eq_true rfl, Nat.le_of_ble_eq_true rfl⟩) hP hD hS hA [0, 1] [] rfl rfl (by decide) (by decide) (fun _ H locs hP hD hS => ?_)
  have hP : va_P (dC, dI) vwCl [(h0, .inr (11, [.ref h2, .ref h3, .int 0, .ref h4, .ref h5, .ref h6, .ref h7, .int 0, .ref h1])), (h1, .inl (cI, 7, .inl (upd (fun _ => 0) 4 1)))] H := hP
  have hD : va_D A [(h0, .inr (11, [.ref h2, .ref h3, .int 0, .ref h4, .ref h5, .ref h6, .ref h7, .int 0, .ref h1])), (h1, .inl (cI, 7, .inl (upd (fun _ => 0) 4 1)))] := hD
  have hP9 := hP.sub (ws' := []) [] rfl
  have hD9 := hD.sub (ws' := []) [] (by decide) rfl
  exact W.iret (v := (-4)) hx hb hr (fun t ht hW => ⟨⟨(-4), (fun k => [].getD k 0), rfl, rfl, by rw [ht]; exact hP9, hD9⟩, hS.F ht⟩) hS.2.2 dX11_lose_10
set_option maxHeartbeats 4000000 in
set_option maxRecDepth 100000 in
theorem kX11_lose_1 (l : Launch) (dC : Nat → ClassId) (dI : Nat → Nat → Nat) (cI cQ : ClassId) (h0 h1 h2 h3 h4 h5 h6 h7 h8 h9 h10 h11 h12 h13 h14 h15 : Nat) (p0 : Int32) (hp0l : 0 ≤ p0.toInt) (hp0h : p0.toInt ≤ 99) (sz : Nat) : Met l yX11_lose vsX11_lose ({ frames := 0, cells := 0, slots := 0, locals := 0 }) (va_Pc [.ref h0, .int p0] (zB dC dI cI cQ [(h0, .inr (11, [.ref h1, .ref h2, .int 0, .ref h3, .ref h4, .ref h5, .ref h6, .int 0, .ref h7])), (h1, .inr (7, [.ref h8, .ref h9, .ref h10, .int 0, .ref h11, .ref h12, .ref h13, .ref h14, .int 0, .int 0, .int 10, .ref h15]))] sz)) (zQi dC dI (va_A [(h0, .inr (11, [.ref h1, .ref h2, .int 0, .ref h3, .ref h4, .ref h5, .ref h6, .int 0, .ref h7])), (h1, .inr (7, [.ref h8, .ref h9, .ref h10, .int 0, .ref h11, .ref h12, .ref h13, .ref h14, .int 0, .int 0, .int 10, .ref h15]))] sz) (fun ad => []) 10) 0 0 (va_A [(h0, .inr (11, [.ref h1, .ref h2, .int 0, .ref h3, .ref h4, .ref h5, .ref h6, .int 0, .ref h7])), (h1, .inr (7, [.ref h8, .ref h9, .ref h10, .int 0, .ref h11, .ref h12, .ref h13, .ref h14, .int 0, .int 0, .int 10, .ref h15]))] sz) := by
  refine Met.ofW (cc := cX11_lose) (maxL := 3) (ret := (some .int)) (by decide) rfl ?_
  intro p e s m args below meth c s₁ B hml hv
  obtain ⟨rfl, hsz, hP, hZ, hD0⟩ := hv
  obtain ⟨hK, hAO, hN⟩ := id hZ
  have hx := B.exec
  have hb := B.bytes
  have hr := B.returns
  have hts := atoms_spec (ws := vsX11_lose) B.pre
  have hown : s.vm.findClass RX11 = some m.cls := findClass_of_methodNamed B.named
  have hlocks := B.notSynchronized
  subst hsz
  have hD := hD0.self (sz := s.heap.size)
  generalize hAe : va_A [(h0, .inr (11, [.ref h1, .ref h2, .int 0, .ref h3, .ref h4, .ref h5, .ref h6, .int 0, .ref h7])), (h1, .inr (7, [.ref h8, .ref h9, .ref h10, .int 0, .ref h11, .ref h12, .ref h13, .ref h14, .int 0, .int 0, .int 10, .ref h15]))] s.heap.size = A at hD ⊢
  have hA : ∀ q : Nat, s.heap.size ≤ q → A q := fun q h => by rw [← hAe]; exact Or.inr h
  have hS : va_S A s.heap s.heap [] := va_S.rf
  have hP : va_P (dC, dI) vwCl [(h0, .inr (11, [.ref h1, .ref h2, .int 0, .ref h3, .ref h4, .ref h5, .ref h6, .int 0, .ref h7])), (h1, .inr (7, [.ref h8, .ref h9, .ref h10, .int 0, .ref h11, .ref h12, .ref h13, .ref h14, .int 0, .int 0, .int 10, .ref h15]))] s.heap := hP
  have hl := lv_entry ([.ref h0, .int p0]) (n := 3) (Nat.le_of_ble_eq_true rfl)
  rw [lg_entry_eq]
  generalize (lg_sl ([.ref h0, .int p0]) ++ List.replicate (3 - (lg_sl ([.ref h0, .int p0])).length) Slot.unset).toArray = ls at hl ⊢
  have hl : lv_has ls 3 [(0, .ref h0), (1, .int p0)] := hl
  refine lv_iload_n hx hb dX11_lose_0 rfl (lv_at hl 1 rfl) ?_
  refine lv_if_ge (tgt := 11) hx hb dX11_lose_1 (by decide) (fun hc => ?_) (fun hc => ?_)
  rotate_left; exact absurd ((fa_le _ _).mpr (by rw [show (0 : Int32).toInt = 0 from by decide]; omega)) hc
  refine lv_iload_n hx hb dX11_lose_11 rfl (lv_at hl 1 rfl) ?_
  refine lv_bipush (v := 99) hx hb dX11_lose_12 (by decide) ?_
  refine lv_icmp_le (tgt := 24) hx hb dX11_lose_14 (by decide) (fun hc => ?_) (fun hc => ?_)
  rotate_left; exact absurd ((fa_le _ _).mpr (by rw [show (99 : Int32).toInt = 99 from by decide]; omega)) hc
  refine lv_aload_n hx hb dX11_lose_24 rfl (lv_at hl 0 rfl) ?_
  refine va_get (D := (dC, dI)) (ci := 11) (v := .ref h1) (C := RX11) (T := TX11) (N := 9) hx hb hts in_X11_lose_X11 hown hK hP 0 rfl rfl 0 (by decide) (hts (.fieldLink RX11 10 "EachOnHisCue" "play" "LEachOnHisCue$Play;") (by decide +kernel)) (fun _ h9 => h9) rfl dX11_lose_25 ?_
  refine va_get (D := (dC, dI)) (ci := 7) (v := .int 10) (C := RX7) (T := TX7) (N := 12) hx hb hts in_X11_lose_X7 hown hK hP 1 rfl rfl 10 (by decide) (hts (.fieldLink RX11 124 "EachOnHisCue$Play" "lost" "I") (by decide +kernel)) (fun _ h9 => h9) rfl dX11_lose_28 ?_
  refine lv_istore_n (lv' := [(2, .int 10), (0, .ref h0), (1, .int p0)]) hx hb dX11_lose_31 rfl hl (by decide) rfl (fun ls hl => ?_)
  refine lv_aload_n hx hb dX11_lose_32 rfl (lv_at hl 1 rfl) ?_
  refine va_get (D := (dC, dI)) (ci := 11) (v := .ref h1) (C := RX11) (T := TX11) (N := 9) hx hb hts in_X11_lose_X11 hown hK hP 0 rfl rfl 0 (by decide) (hts (.fieldLink RX11 10 "EachOnHisCue" "play" "LEachOnHisCue$Play;") (by decide +kernel)) (fun _ h9 => h9) rfl dX11_lose_33 ?_
  refine lv_iload_n hx hb dX11_lose_36 rfl (lv_at hl 2 rfl) ?_
  refine va_put (D := (dC, dI)) (ci := 7) (v := .int p0) (ty := .int) (C := RX7) (T := TX7) (N := 12) hx hb hts in_X11_lose_X7 tyX7 tyX7_ok nmX7 hown hK hP hD hS 1 rfl rfl 10 (by decide) (hts (.fieldLink RX11 124 "EachOnHisCue$Play" "lost" "I") (by decide +kernel)) (fun _ h9 => h9) rfl (by decide +kernel) rfl rfl (Nat.le_of_ble_eq_true rfl) dX11_lose_37 (fun H locs hP hD hS => ?_)
  have hP : va_P (dC, dI) vwCl [(h0, .inr (11, [.ref h1, .ref h2, .int 0, .ref h3, .ref h4, .ref h5, .ref h6, .int 0, .ref h7])), (h1, .inr (7, [.ref h8, .ref h9, .ref h10, .int 0, .ref h11, .ref h12, .ref h13, .ref h14, .int 0, .int 0, .int p0, .ref h15]))] H := hP
  have hD : va_D A [(h0, .inr (11, [.ref h1, .ref h2, .int 0, .ref h3, .ref h4, .ref h5, .ref h6, .int 0, .ref h7])), (h1, .inr (7, [.ref h8, .ref h9, .ref h10, .int 0, .ref h11, .ref h12, .ref h13, .ref h14, .int 0, .int 0, .int p0, .ref h15]))] := hD
  refine lv_iload_n hx hb dX11_lose_40 rfl (lv_at hl 0 rfl) ?_
  have hP9 := hP.sub (ws' := []) [] rfl
  have hD9 := hD.sub (ws' := []) [] (by decide) rfl
  exact W.iret (v := 10) hx hb hr (fun t ht hW => ⟨⟨10, (fun k => [].getD k 0), rfl, rfl, by rw [ht]; exact hP9, hD9⟩, hS.F ht⟩) hS.2.2 dX11_lose_41
set_option maxHeartbeats 4000000 in
set_option maxRecDepth 100000 in
theorem kX11_lose_2 (l : Launch) (dC : Nat → ClassId) (dI : Nat → Nat → Nat) (cI cQ : ClassId) (h0 h1 h2 h3 h4 h5 h6 h7 : Nat) (p0 : Int32) (hp0l : 100 ≤ p0.toInt) (hp0h : p0.toInt ≤ 2147483647) (sz : Nat) : Met l yX11_lose vsX11_lose ({ frames := 1, cells := 0, slots := 0, locals := 22 }) (va_Pc [.ref h0, .int p0] (zB dC dI cI cQ [(h0, .inr (11, [.ref h2, .ref h3, .int 0, .ref h4, .ref h5, .ref h6, .ref h7, .int 0, .ref h1])), (h1, .inl (cI, 7, .inl (fun _ => 0)))] sz)) (zQi dC dI (va_A [(h0, .inr (11, [.ref h2, .ref h3, .int 0, .ref h4, .ref h5, .ref h6, .ref h7, .int 0, .ref h1])), (h1, .inl (cI, 7, .inl (fun _ => 0)))] sz) (fun ad => []) (-6)) 0 0 (va_A [(h0, .inr (11, [.ref h2, .ref h3, .int 0, .ref h4, .ref h5, .ref h6, .ref h7, .int 0, .ref h1])), (h1, .inl (cI, 7, .inl (fun _ => 0)))] sz) := by
  refine Met.ofW (cc := cX11_lose) (maxL := 3) (ret := (some .int)) (by decide) rfl ?_
  intro p e s m args below meth c s₁ B hml hv
  obtain ⟨rfl, hsz, hP, hZ, hD0⟩ := hv
  obtain ⟨hK, hAO, hN⟩ := id hZ
  have hx := B.exec
  have hb := B.bytes
  have hr := B.returns
  have hts := atoms_spec (ws := vsX11_lose) B.pre
  have hown : s.vm.findClass RX11 = some m.cls := findClass_of_methodNamed B.named
  have hlocks := B.notSynchronized
  subst hsz
  have hD := hD0.self (sz := s.heap.size)
  generalize hAe : va_A [(h0, .inr (11, [.ref h2, .ref h3, .int 0, .ref h4, .ref h5, .ref h6, .ref h7, .int 0, .ref h1])), (h1, .inl (cI, 7, .inl (fun _ => 0)))] s.heap.size = A at hD ⊢
  have hA : ∀ q : Nat, s.heap.size ≤ q → A q := fun q h => by rw [← hAe]; exact Or.inr h
  have hS : va_S A s.heap s.heap [] := va_S.rf
  have hP : va_P (dC, dI) vwCl [(h0, .inr (11, [.ref h2, .ref h3, .int 0, .ref h4, .ref h5, .ref h6, .ref h7, .int 0, .ref h1])), (h1, .inl (cI, 7, .inl (fun _ => 0)))] s.heap := hP
  have hl := lv_entry ([.ref h0, .int p0]) (n := 3) (Nat.le_of_ble_eq_true rfl)
  rw [lg_entry_eq]
  generalize (lg_sl ([.ref h0, .int p0]) ++ List.replicate (3 - (lg_sl ([.ref h0, .int p0])).length) Slot.unset).toArray = ls at hl ⊢
  have hl : lv_has ls 3 [(0, .ref h0), (1, .int p0)] := hl
  refine lv_iload_n hx hb dX11_lose_0 rfl (lv_at hl 1 rfl) ?_
  refine lv_if_ge (tgt := 11) hx hb dX11_lose_1 (by decide) (fun hc => ?_) (fun hc => ?_)
  rotate_left; exact absurd ((fa_le _ _).mpr (by rw [show (0 : Int32).toInt = 0 from by decide]; omega)) hc
  refine lv_iload_n hx hb dX11_lose_11 rfl (lv_at hl 1 rfl) ?_
  refine lv_bipush (v := 99) hx hb dX11_lose_12 (by decide) ?_
  refine lv_icmp_le (tgt := 24) hx hb dX11_lose_14 (by decide) (fun hc => ?_) (fun hc => ?_)
  · exact absurd ((fa_le _ _).mp hc) (by rw [show (99 : Int32).toInt = 99 from by decide]; omega)
  refine lv_aload_n hx hb dX11_lose_17 rfl (lv_at hl 0 rfl) ?_
  refine lv_bipush (v := (-6)) hx hb dX11_lose_18 (by decide) ?_
  refine z_calli (wc := [(h0, .inr (11, [.ref h2, .ref h3, .int 0, .ref h4, .ref h5, .ref h6, .ref h7, .int 0, .ref h1])), (h1, .inl (cI, 7, .inl (fun _ => 0)))]) (wr := []) (w1 := (fun _ => [(h0, .inr (11, [.ref h2, .ref h3, .int 0, .ref h4, .ref h5, .ref h6, .ref h7, .int 0, .ref h1])), (h1, .inl (cI, 7, .inl (upd (fun _ => 0) 6 1)))])) (va_runV (As := [.int (-6)]) (rest := []) ⟨hx, hb, hml, hown, hts⟩ (kX11_refuse_1 l dC dI cI cQ h0 h1 h2 h3 h4 h5 h6 h7 s.heap.size) (cwV 1 hts gv_X11_lose_X11_refuse_53 rfl rfl rfl (by decide +kernel) ⟨Nat.le_of_ble_eq_true rfl, Nat.le_of_ble_eq_true rfl⟩) ⟨z_blind, va_recv hK hP (ci := 11) (q0 := 0) rfl rfl, z_pre hZ hP hD [0, 1] rfl (by decide)⟩ rfl rfl hl.1 rfl (lv_room (Nat.le_of_ble_eq_true rfl)) dX11_lose_20 ⟨Nat.le_of_ble_eq_true rfl, Nat.le_of_ble_eq_true rfl⟩) hP hD hS hA [0, 1] [] rfl rfl (by decide) (by decide) (fun _ H locs hP hD hS => ?_)
  have hP : va_P (dC, dI) vwCl [(h0, .inr (11, [.ref h2, .ref h3, .int 0, .ref h4, .ref h5, .ref h6, .ref h7, .int 0, .ref h1])), (h1, .inl (cI, 7, .inl (upd (fun _ => 0) 6 1)))] H := hP
  have hD : va_D A [(h0, .inr (11, [.ref h2, .ref h3, .int 0, .ref h4, .ref h5, .ref h6, .ref h7, .int 0, .ref h1])), (h1, .inl (cI, 7, .inl (upd (fun _ => 0) 6 1)))] := hD
  have hP9 := hP.sub (ws' := []) [] rfl
  have hD9 := hD.sub (ws' := []) [] (by decide) rfl
  exact W.iret (v := (-6)) hx hb hr (fun t ht hW => ⟨⟨(-6), (fun k => [].getD k 0), rfl, rfl, by rw [ht]; exact hP9, hD9⟩, hS.F ht⟩) hS.2.2 dX11_lose_23
set_option maxHeartbeats 4000000 in
set_option maxRecDepth 100000 in
theorem kX11_comes (l : Launch) (dC : Nat → ClassId) (dI : Nat → Nat → Nat) (cI cQ : ClassId) (h0 h1 h2 h3 h4 h5 h6 h7 h8 h9 h10 h11 h12 h13 h14 h15 : Nat) (p0 : Int32) (hp0l : -2147483648 ≤ p0.toInt) (hp0h : p0.toInt ≤ -1) (sz : Nat) : Met l yX11_comes vsX11_comes ({ frames := 1, cells := 0, slots := 0, locals := 22 }) (va_Pc [.ref h0, .int p0] (zB dC dI cI cQ [(h0, .inr (11, [.ref h1, .ref h3, .int 0, .ref h4, .ref h5, .ref h6, .ref h7, .int 0, .ref h2])), (h1, .inr (7, [.ref h8, .ref h9, .ref h10, .int 0, .ref h11, .ref h12, .ref h13, .ref h14, .int 0, .int 0, .int 10, .ref h15])), (h2, .inl (cI, 7, .inl (fun _ => 0)))] sz)) (zQi dC dI (va_A [(h0, .inr (11, [.ref h1, .ref h3, .int 0, .ref h4, .ref h5, .ref h6, .ref h7, .int 0, .ref h2])), (h1, .inr (7, [.ref h8, .ref h9, .ref h10, .int 0, .ref h11, .ref h12, .ref h13, .ref h14, .int 0, .int 0, .int 10, .ref h15])), (h2, .inl (cI, 7, .inl (fun _ => 0)))] sz) (fun ad => []) (-1)) 0 0 (va_A [(h0, .inr (11, [.ref h1, .ref h3, .int 0, .ref h4, .ref h5, .ref h6, .ref h7, .int 0, .ref h2])), (h1, .inr (7, [.ref h8, .ref h9, .ref h10, .int 0, .ref h11, .ref h12, .ref h13, .ref h14, .int 0, .int 0, .int 10, .ref h15])), (h2, .inl (cI, 7, .inl (fun _ => 0)))] sz) := by
  refine Met.ofW (cc := cX11_comes) (maxL := 2) (ret := (some .int)) (by decide) rfl ?_
  intro p e s m args below meth c s₁ B hml hv
  obtain ⟨rfl, hsz, hP, hZ, hD0⟩ := hv
  obtain ⟨hK, hAO, hN⟩ := id hZ
  have hx := B.exec
  have hb := B.bytes
  have hr := B.returns
  have hts := atoms_spec (ws := vsX11_comes) B.pre
  have hown : s.vm.findClass RX11 = some m.cls := findClass_of_methodNamed B.named
  have hlocks := B.notSynchronized
  subst hsz
  have hD := hD0.self (sz := s.heap.size)
  generalize hAe : va_A [(h0, .inr (11, [.ref h1, .ref h3, .int 0, .ref h4, .ref h5, .ref h6, .ref h7, .int 0, .ref h2])), (h1, .inr (7, [.ref h8, .ref h9, .ref h10, .int 0, .ref h11, .ref h12, .ref h13, .ref h14, .int 0, .int 0, .int 10, .ref h15])), (h2, .inl (cI, 7, .inl (fun _ => 0)))] s.heap.size = A at hD ⊢
  have hA : ∀ q : Nat, s.heap.size ≤ q → A q := fun q h => by rw [← hAe]; exact Or.inr h
  have hS : va_S A s.heap s.heap [] := va_S.rf
  have hP : va_P (dC, dI) vwCl [(h0, .inr (11, [.ref h1, .ref h3, .int 0, .ref h4, .ref h5, .ref h6, .ref h7, .int 0, .ref h2])), (h1, .inr (7, [.ref h8, .ref h9, .ref h10, .int 0, .ref h11, .ref h12, .ref h13, .ref h14, .int 0, .int 0, .int 10, .ref h15])), (h2, .inl (cI, 7, .inl (fun _ => 0)))] s.heap := hP
  have hl := lv_entry ([.ref h0, .int p0]) (n := 2) (Nat.le_of_ble_eq_true rfl)
  rw [lg_entry_eq]
  generalize (lg_sl ([.ref h0, .int p0]) ++ List.replicate (2 - (lg_sl ([.ref h0, .int p0])).length) Slot.unset).toArray = ls at hl ⊢
  have hl : lv_has ls 2 [(0, .ref h0), (1, .int p0)] := hl
  refine lv_aload_n hx hb dX11_comes_0 rfl (lv_at hl 0 rfl) ?_
  refine va_get (D := (dC, dI)) (ci := 11) (v := .ref h1) (C := RX11) (T := TX11) (N := 9) hx hb hts in_X11_comes_X11 hown hK hP 0 rfl rfl 0 (by decide) (hts (.fieldLink RX11 10 "EachOnHisCue" "play" "LEachOnHisCue$Play;") (by decide +kernel)) (fun _ h9 => h9) rfl dX11_comes_1 ?_
  refine lv_iload_n hx hb dX11_comes_4 rfl (lv_at hl 1 rfl) ?_
  refine z_calli (wc := []) (wr := [(h0, .inr (11, [.ref h1, .ref h3, .int 0, .ref h4, .ref h5, .ref h6, .ref h7, .int 0, .ref h2])), (h1, .inr (7, [.ref h8, .ref h9, .ref h10, .int 0, .ref h11, .ref h12, .ref h13, .ref h14, .int 0, .int 0, .int 10, .ref h15])), (h2, .inl (cI, 7, .inl (fun _ => 0)))]) (w1 := (fun _ => [])) (va_runV (As := [.int p0]) (rest := []) ⟨hx, hb, hml, hown, hts⟩ (kX7_hasPlayer l dC dI cI cQ h1 p0 hp0l hp0h s.heap.size) (cwV 1 hts gv_X11_comes_X7_hasPlayer_80 rfl rfl rfl (by decide +kernel) ⟨Nat.le_of_ble_eq_true rfl, Nat.le_of_ble_eq_true rfl⟩) ⟨z_blind, va_recv hK hP (ci := 7) (q0 := 1) rfl rfl, z_pre hZ hP hD [] rfl (by decide)⟩ rfl rfl hl.1 rfl (lv_room (Nat.le_of_ble_eq_true rfl)) dX11_comes_5 ⟨Nat.le_of_ble_eq_true rfl, Nat.le_of_ble_eq_true rfl⟩) hP hD hS hA [] [0, 1, 2] rfl rfl (by decide) (by decide) (fun _ H locs hP hD hS => ?_)
  have hP : va_P (dC, dI) vwCl [(h0, .inr (11, [.ref h1, .ref h3, .int 0, .ref h4, .ref h5, .ref h6, .ref h7, .int 0, .ref h2])), (h1, .inr (7, [.ref h8, .ref h9, .ref h10, .int 0, .ref h11, .ref h12, .ref h13, .ref h14, .int 0, .int 0, .int 10, .ref h15])), (h2, .inl (cI, 7, .inl (fun _ => 0)))] H := hP
  have hD : va_D A [(h0, .inr (11, [.ref h1, .ref h3, .int 0, .ref h4, .ref h5, .ref h6, .ref h7, .int 0, .ref h2])), (h1, .inr (7, [.ref h8, .ref h9, .ref h10, .int 0, .ref h11, .ref h12, .ref h13, .ref h14, .int 0, .int 0, .int 10, .ref h15])), (h2, .inl (cI, 7, .inl (fun _ => 0)))] := hD
  refine lv_if_ne (tgt := 17) hx hb dX11_comes_8 (by decide) (fun hc => ?_) (fun hc => ?_)
  · exact absurd hc (by decide)
  refine lv_aload_n hx hb dX11_comes_11 rfl (lv_at hl 0 rfl) ?_
  refine lv_iconst (v := (-1)) hx hb dX11_comes_12 (by decide) ?_
  refine z_calli (wc := [(h0, .inr (11, [.ref h1, .ref h3, .int 0, .ref h4, .ref h5, .ref h6, .ref h7, .int 0, .ref h2])), (h2, .inl (cI, 7, .inl (fun _ => 0)))]) (wr := [(h1, .inr (7, [.ref h8, .ref h9, .ref h10, .int 0, .ref h11, .ref h12, .ref h13, .ref h14, .int 0, .int 0, .int 10, .ref h15]))]) (w1 := (fun _ => [(h0, .inr (11, [.ref h1, .ref h3, .int 0, .ref h4, .ref h5, .ref h6, .ref h7, .int 0, .ref h2])), (h2, .inl (cI, 7, .inl (upd (fun _ => 0) 1 1)))])) (va_runV (As := [.int (-1)]) (rest := []) ⟨hx, hb, hml, hown, hts⟩ (kX11_refuse_2 l dC dI cI cQ h0 h2 h1 h3 h4 h5 h6 h7 H.size) (cwV 1 hts gv_X11_comes_X11_refuse_53 rfl rfl rfl (by decide +kernel) ⟨Nat.le_of_ble_eq_true rfl, Nat.le_of_ble_eq_true rfl⟩) ⟨z_blind, va_recv hK hP (ci := 11) (q0 := 0) rfl rfl, z_pre hZ hP hD [0, 2] rfl (by decide)⟩ rfl rfl hl.1 rfl (lv_room (Nat.le_of_ble_eq_true rfl)) dX11_comes_13 ⟨Nat.le_of_ble_eq_true rfl, Nat.le_of_ble_eq_true rfl⟩) hP hD hS hA [0, 2] [1] rfl rfl (by decide) (by decide) (fun _ H locs hP hD hS => ?_)
  have hP : va_P (dC, dI) vwCl [(h1, .inr (7, [.ref h8, .ref h9, .ref h10, .int 0, .ref h11, .ref h12, .ref h13, .ref h14, .int 0, .int 0, .int 10, .ref h15])), (h0, .inr (11, [.ref h1, .ref h3, .int 0, .ref h4, .ref h5, .ref h6, .ref h7, .int 0, .ref h2])), (h2, .inl (cI, 7, .inl (upd (fun _ => 0) 1 1)))] H := hP
  have hD : va_D A [(h1, .inr (7, [.ref h8, .ref h9, .ref h10, .int 0, .ref h11, .ref h12, .ref h13, .ref h14, .int 0, .int 0, .int 10, .ref h15])), (h0, .inr (11, [.ref h1, .ref h3, .int 0, .ref h4, .ref h5, .ref h6, .ref h7, .int 0, .ref h2])), (h2, .inl (cI, 7, .inl (upd (fun _ => 0) 1 1)))] := hD
  have hP9 := hP.sub (ws' := []) [] rfl
  have hD9 := hD.sub (ws' := []) [] (by decide) rfl
  exact W.iret (v := (-1)) hx hb hr (fun t ht hW => ⟨⟨(-1), (fun k => [].getD k 0), rfl, rfl, by rw [ht]; exact hP9, hD9⟩, hS.F ht⟩) hS.2.2 dX11_comes_16
set_option maxHeartbeats 4000000 in
set_option maxRecDepth 100000 in
theorem kX11_comes_1 (l : Launch) (dC : Nat → ClassId) (dI : Nat → Nat → Nat) (cI cQ : ClassId) (h0 h1 h2 h3 h4 h5 h6 h7 h8 h9 h10 h11 h12 h13 h14 h15 : Nat) (p0 : Int32) (hp0l : 0 ≤ p0.toInt) (hp0h : p0.toInt ≤ 2147483647) (sz : Nat) : Met l yX11_comes vsX11_comes ({ frames := 1, cells := 0, slots := 0, locals := 22 }) (va_Pc [.ref h0, .int p0] (zB dC dI cI cQ [(h0, .inr (11, [.ref h1, .ref h3, .int 0, .ref h4, .ref h5, .ref h6, .ref h7, .int 0, .ref h2])), (h1, .inr (7, [.ref h8, .ref h9, .ref h10, .int 0, .ref h11, .ref h12, .ref h13, .ref h14, .int 0, .int 0, .int 10, .ref h15])), (h2, .inl (cI, 7, .inl (fun _ => 0)))] sz)) (zQi dC dI (va_A [(h0, .inr (11, [.ref h1, .ref h3, .int 0, .ref h4, .ref h5, .ref h6, .ref h7, .int 0, .ref h2])), (h1, .inr (7, [.ref h8, .ref h9, .ref h10, .int 0, .ref h11, .ref h12, .ref h13, .ref h14, .int 0, .int 0, .int 10, .ref h15])), (h2, .inl (cI, 7, .inl (fun _ => 0)))] sz) (fun ad => []) (-1)) 0 0 (va_A [(h0, .inr (11, [.ref h1, .ref h3, .int 0, .ref h4, .ref h5, .ref h6, .ref h7, .int 0, .ref h2])), (h1, .inr (7, [.ref h8, .ref h9, .ref h10, .int 0, .ref h11, .ref h12, .ref h13, .ref h14, .int 0, .int 0, .int 10, .ref h15])), (h2, .inl (cI, 7, .inl (fun _ => 0)))] sz) := by
  refine Met.ofW (cc := cX11_comes) (maxL := 2) (ret := (some .int)) (by decide) rfl ?_
  intro p e s m args below meth c s₁ B hml hv
  obtain ⟨rfl, hsz, hP, hZ, hD0⟩ := hv
  obtain ⟨hK, hAO, hN⟩ := id hZ
  have hx := B.exec
  have hb := B.bytes
  have hr := B.returns
  have hts := atoms_spec (ws := vsX11_comes) B.pre
  have hown : s.vm.findClass RX11 = some m.cls := findClass_of_methodNamed B.named
  have hlocks := B.notSynchronized
  subst hsz
  have hD := hD0.self (sz := s.heap.size)
  generalize hAe : va_A [(h0, .inr (11, [.ref h1, .ref h3, .int 0, .ref h4, .ref h5, .ref h6, .ref h7, .int 0, .ref h2])), (h1, .inr (7, [.ref h8, .ref h9, .ref h10, .int 0, .ref h11, .ref h12, .ref h13, .ref h14, .int 0, .int 0, .int 10, .ref h15])), (h2, .inl (cI, 7, .inl (fun _ => 0)))] s.heap.size = A at hD ⊢
  have hA : ∀ q : Nat, s.heap.size ≤ q → A q := fun q h => by rw [← hAe]; exact Or.inr h
  have hS : va_S A s.heap s.heap [] := va_S.rf
  have hP : va_P (dC, dI) vwCl [(h0, .inr (11, [.ref h1, .ref h3, .int 0, .ref h4, .ref h5, .ref h6, .ref h7, .int 0, .ref h2])), (h1, .inr (7, [.ref h8, .ref h9, .ref h10, .int 0, .ref h11, .ref h12, .ref h13, .ref h14, .int 0, .int 0, .int 10, .ref h15])), (h2, .inl (cI, 7, .inl (fun _ => 0)))] s.heap := hP
  have hl := lv_entry ([.ref h0, .int p0]) (n := 2) (Nat.le_of_ble_eq_true rfl)
  rw [lg_entry_eq]
  generalize (lg_sl ([.ref h0, .int p0]) ++ List.replicate (2 - (lg_sl ([.ref h0, .int p0])).length) Slot.unset).toArray = ls at hl ⊢
  have hl : lv_has ls 2 [(0, .ref h0), (1, .int p0)] := hl
  refine lv_aload_n hx hb dX11_comes_0 rfl (lv_at hl 0 rfl) ?_
  refine va_get (D := (dC, dI)) (ci := 11) (v := .ref h1) (C := RX11) (T := TX11) (N := 9) hx hb hts in_X11_comes_X11 hown hK hP 0 rfl rfl 0 (by decide) (hts (.fieldLink RX11 10 "EachOnHisCue" "play" "LEachOnHisCue$Play;") (by decide +kernel)) (fun _ h9 => h9) rfl dX11_comes_1 ?_
  refine lv_iload_n hx hb dX11_comes_4 rfl (lv_at hl 1 rfl) ?_
  refine z_calli (wc := [(h1, .inr (7, [.ref h8, .ref h9, .ref h10, .int 0, .ref h11, .ref h12, .ref h13, .ref h14, .int 0, .int 0, .int 10, .ref h15]))]) (wr := [(h0, .inr (11, [.ref h1, .ref h3, .int 0, .ref h4, .ref h5, .ref h6, .ref h7, .int 0, .ref h2])), (h2, .inl (cI, 7, .inl (fun _ => 0)))]) (w1 := (fun _ => [(h1, .inr (7, [.ref h8, .ref h9, .ref h10, .int 0, .ref h11, .ref h12, .ref h13, .ref h14, .int 0, .int 0, .int 10, .ref h15]))])) (va_runV (As := [.int p0]) (rest := []) ⟨hx, hb, hml, hown, hts⟩ (kX7_hasPlayer_1 l dC dI cI cQ h1 h8 h9 h10 h11 h12 h13 h14 h15 p0 hp0l hp0h s.heap.size) (cwV 1 hts gv_X11_comes_X7_hasPlayer_80 rfl rfl rfl (by decide +kernel) ⟨Nat.le_of_ble_eq_true rfl, Nat.le_of_ble_eq_true rfl⟩) ⟨z_blind, va_recv hK hP (ci := 7) (q0 := 1) rfl rfl, z_pre hZ hP hD [1] rfl (by decide)⟩ rfl rfl hl.1 rfl (lv_room (Nat.le_of_ble_eq_true rfl)) dX11_comes_5 ⟨Nat.le_of_ble_eq_true rfl, Nat.le_of_ble_eq_true rfl⟩) hP hD hS hA [1] [0, 2] rfl rfl (by decide) (by decide) (fun _ H locs hP hD hS => ?_)
  have hP : va_P (dC, dI) vwCl [(h0, .inr (11, [.ref h1, .ref h3, .int 0, .ref h4, .ref h5, .ref h6, .ref h7, .int 0, .ref h2])), (h2, .inl (cI, 7, .inl (fun _ => 0))), (h1, .inr (7, [.ref h8, .ref h9, .ref h10, .int 0, .ref h11, .ref h12, .ref h13, .ref h14, .int 0, .int 0, .int 10, .ref h15]))] H := hP
  have hD : va_D A [(h0, .inr (11, [.ref h1, .ref h3, .int 0, .ref h4, .ref h5, .ref h6, .ref h7, .int 0, .ref h2])), (h2, .inl (cI, 7, .inl (fun _ => 0))), (h1, .inr (7, [.ref h8, .ref h9, .ref h10, .int 0, .ref h11, .ref h12, .ref h13, .ref h14, .int 0, .int 0, .int 10, .ref h15]))] := hD
  refine lv_if_ne (tgt := 17) hx hb dX11_comes_8 (by decide) (fun hc => ?_) (fun hc => ?_)
  · exact absurd hc (by decide)
  refine lv_aload_n hx hb dX11_comes_11 rfl (lv_at hl 0 rfl) ?_
  refine lv_iconst (v := (-1)) hx hb dX11_comes_12 (by decide) ?_
  refine z_calli (wc := [(h0, .inr (11, [.ref h1, .ref h3, .int 0, .ref h4, .ref h5, .ref h6, .ref h7, .int 0, .ref h2])), (h2, .inl (cI, 7, .inl (fun _ => 0)))]) (wr := [(h1, .inr (7, [.ref h8, .ref h9, .ref h10, .int 0, .ref h11, .ref h12, .ref h13, .ref h14, .int 0, .int 0, .int 10, .ref h15]))]) (w1 := (fun _ => [(h0, .inr (11, [.ref h1, .ref h3, .int 0, .ref h4, .ref h5, .ref h6, .ref h7, .int 0, .ref h2])), (h2, .inl (cI, 7, .inl (upd (fun _ => 0) 1 1)))])) (va_runV (As := [.int (-1)]) (rest := []) ⟨hx, hb, hml, hown, hts⟩ (kX11_refuse_2 l dC dI cI cQ h0 h2 h1 h3 h4 h5 h6 h7 H.size) (cwV 1 hts gv_X11_comes_X11_refuse_53 rfl rfl rfl (by decide +kernel) ⟨Nat.le_of_ble_eq_true rfl, Nat.le_of_ble_eq_true rfl⟩) ⟨z_blind, va_recv hK hP (ci := 11) (q0 := 0) rfl rfl, z_pre hZ hP hD [0, 1] rfl (by decide)⟩ rfl rfl hl.1 rfl (lv_room (Nat.le_of_ble_eq_true rfl)) dX11_comes_13 ⟨Nat.le_of_ble_eq_true rfl, Nat.le_of_ble_eq_true rfl⟩) hP hD hS hA [0, 1] [2] rfl rfl (by decide) (by decide) (fun _ H locs hP hD hS => ?_)
  have hP : va_P (dC, dI) vwCl [(h1, .inr (7, [.ref h8, .ref h9, .ref h10, .int 0, .ref h11, .ref h12, .ref h13, .ref h14, .int 0, .int 0, .int 10, .ref h15])), (h0, .inr (11, [.ref h1, .ref h3, .int 0, .ref h4, .ref h5, .ref h6, .ref h7, .int 0, .ref h2])), (h2, .inl (cI, 7, .inl (upd (fun _ => 0) 1 1)))] H := hP
  have hD : va_D A [(h1, .inr (7, [.ref h8, .ref h9, .ref h10, .int 0, .ref h11, .ref h12, .ref h13, .ref h14, .int 0, .int 0, .int 10, .ref h15])), (h0, .inr (11, [.ref h1, .ref h3, .int 0, .ref h4, .ref h5, .ref h6, .ref h7, .int 0, .ref h2])), (h2, .inl (cI, 7, .inl (upd (fun _ => 0) 1 1)))] := hD
  have hP9 := hP.sub (ws' := []) [] rfl
  have hD9 := hD.sub (ws' := []) [] (by decide) rfl
  exact W.iret (v := (-1)) hx hb hr (fun t ht hW => ⟨⟨(-1), (fun k => [].getD k 0), rfl, rfl, by rw [ht]; exact hP9, hD9⟩, hS.F ht⟩) hS.2.2 dX11_comes_16
set_option maxHeartbeats 4000000 in
set_option maxRecDepth 100000 in
theorem kX11_refuse_3 (l : Launch) (dC : Nat → ClassId) (dI : Nat → Nat → Nat) (cI cQ : ClassId) (h0 h1 h2 h3 h4 h5 h6 h7 : Nat) (sz : Nat) : Met l yX11_refuse vsX11_refuse ({ frames := 0, cells := 0, slots := 0, locals := 0 }) (va_Pc [.ref h0, .int (-3)] (zB dC dI cI cQ [(h0, .inr (11, [.ref h2, .ref h3, .int 0, .ref h4, .ref h5, .ref h6, .ref h7, .int 0, .ref h1])), (h1, .inl (cI, 7, .inl (fun _ => 0)))] sz)) (zQi dC dI (va_A [(h0, .inr (11, [.ref h2, .ref h3, .int 0, .ref h4, .ref h5, .ref h6, .ref h7, .int 0, .ref h1])), (h1, .inl (cI, 7, .inl (fun _ => 0)))] sz) (fun ad => [(h0, .inr (11, [.ref h2, .ref h3, .int 0, .ref h4, .ref h5, .ref h6, .ref h7, .int 0, .ref h1])), (h1, .inl (cI, 7, .inl (upd (fun _ => 0) 3 1)))]) (-3)) 0 0 (va_A [(h0, .inr (11, [.ref h2, .ref h3, .int 0, .ref h4, .ref h5, .ref h6, .ref h7, .int 0, .ref h1])), (h1, .inl (cI, 7, .inl (fun _ => 0)))] sz) := by
  refine Met.ofW (cc := cX11_refuse) (maxL := 3) (ret := (some .int)) (by decide) rfl ?_
  intro p e s m args below meth c s₁ B hml hv
  obtain ⟨rfl, hsz, hP, hZ, hD0⟩ := hv
  obtain ⟨hK, hAO, hN⟩ := id hZ
  have hx := B.exec
  have hb := B.bytes
  have hr := B.returns
  have hts := atoms_spec (ws := vsX11_refuse) B.pre
  have hown : s.vm.findClass RX11 = some m.cls := findClass_of_methodNamed B.named
  have hlocks := B.notSynchronized
  subst hsz
  have hD := hD0.self (sz := s.heap.size)
  generalize hAe : va_A [(h0, .inr (11, [.ref h2, .ref h3, .int 0, .ref h4, .ref h5, .ref h6, .ref h7, .int 0, .ref h1])), (h1, .inl (cI, 7, .inl (fun _ => 0)))] s.heap.size = A at hD ⊢
  have hA : ∀ q : Nat, s.heap.size ≤ q → A q := fun q h => by rw [← hAe]; exact Or.inr h
  have hS : va_S A s.heap s.heap [] := va_S.rf
  have hP : va_P (dC, dI) vwCl [(h0, .inr (11, [.ref h2, .ref h3, .int 0, .ref h4, .ref h5, .ref h6, .ref h7, .int 0, .ref h1])), (h1, .inl (cI, 7, .inl (fun _ => 0)))] s.heap := hP
  have hl := lv_entry ([.ref h0, .int (-3)]) (n := 3) (Nat.le_of_ble_eq_true rfl)
  rw [lg_entry_eq]
  generalize (lg_sl ([.ref h0, .int (-3)]) ++ List.replicate (3 - (lg_sl ([.ref h0, .int (-3)])).length) Slot.unset).toArray = ls at hl ⊢
  have hl : lv_has ls 3 [(0, .ref h0), (1, .int (-3))] := hl
  refine lv_iload_n hx hb dX11_refuse_0 rfl (lv_at hl 1 rfl) ?_
  refine lv_ineg hx hb dX11_refuse_1 ?_
  refine lv_topi (fun y1 ey1 => ?_)
  obtain rfl : y1 = 3 := ey1.trans (by decide)
  refine lv_istore_n (lv' := [(2, .int 3), (0, .ref h0), (1, .int (-3))]) hx hb dX11_refuse_2 rfl hl (by decide) rfl (fun ls hl => ?_)
  refine lv_iload_n hx hb dX11_refuse_3 rfl (lv_at hl 0 rfl) ?_
  refine lv_iconst (v := 1) hx hb dX11_refuse_4 (by decide) ?_
  refine lv_icmp_lt (tgt := 24) hx hb dX11_refuse_5 (by decide) (fun hc => ?_) (fun hc => ?_)
  · exact absurd hc (by decide)
  refine lv_iload_n hx hb dX11_refuse_8 rfl (lv_at hl 0 rfl) ?_
  refine lv_bipush (v := 6) hx hb dX11_refuse_9 (by decide) ?_
  refine lv_icmp_gt (tgt := 24) hx hb dX11_refuse_11 (by decide) (fun hc => ?_) (fun hc => ?_)
  · exact absurd hc (by decide)
  refine lv_aload_n hx hb dX11_refuse_14 rfl (lv_at hl 1 rfl) ?_
  refine va_get (D := (dC, dI)) (ci := 11) (v := .ref h1) (C := RX11) (T := TX11) (N := 9) hx hb hts in_X11_refuse_X11 hown hK hP 0 rfl rfl 8 (by decide) (hts (.fieldLink RX11 50 "EachOnHisCue" "refusals" "[I") (by decide +kernel)) (fun _ h9 => h9) rfl dX11_refuse_15 ?_
  refine lv_iload_n hx hb dX11_refuse_18 rfl (lv_at hl 0 rfl) ?_
  refine lv_dup2_11 hx hb dX11_refuse_19 rfl rfl ?_
  refine va_iald hx hb hK hP 1 0 rfl rfl (by unfold vp_in; decide) dX11_refuse_20 ?_
  refine lv_topi (fun y2 ey2 => ?_)
  obtain rfl : y2 = 0 := ey2.trans (by first | rfl | decide)
  refine lv_iconst (v := 1) hx hb dX11_refuse_21 (by decide) ?_
  refine lv_iadd hx hb dX11_refuse_22 ?_
  refine lv_topi (fun y3 ey3 => ?_)
  obtain rfl : y3 = 1 := ey3.trans (by decide)
  refine va_iast hx hb hK hP hD hS 1 0 rfl rfl (by unfold vp_in; decide) dX11_refuse_23 (fun H locs hP hD hS => ?_)
  have hP : va_P (dC, dI) vwCl [(h0, .inr (11, [.ref h2, .ref h3, .int 0, .ref h4, .ref h5, .ref h6, .ref h7, .int 0, .ref h1])), (h1, .inl (cI, 7, .inl (upd (fun _ => 0) 3 1)))] H := hP
  have hD : va_D A [(h0, .inr (11, [.ref h2, .ref h3, .int 0, .ref h4, .ref h5, .ref h6, .ref h7, .int 0, .ref h1])), (h1, .inl (cI, 7, .inl (upd (fun _ => 0) 3 1)))] := hD
  refine lv_iload_n hx hb dX11_refuse_24 rfl (lv_at hl 2 rfl) ?_
  have hP9 := hP.sub (ws' := [(h0, .inr (11, [.ref h2, .ref h3, .int 0, .ref h4, .ref h5, .ref h6, .ref h7, .int 0, .ref h1])), (h1, .inl (cI, 7, .inl (upd (fun _ => 0) 3 1)))]) [0, 1] rfl
  have hD9 := hD.sub (ws' := [(h0, .inr (11, [.ref h2, .ref h3, .int 0, .ref h4, .ref h5, .ref h6, .ref h7, .int 0, .ref h1])), (h1, .inl (cI, 7, .inl (upd (fun _ => 0) 3 1)))]) [0, 1] (by decide) rfl
  exact W.iret (v := (-3)) hx hb hr (fun t ht hW => ⟨⟨(-3), (fun k => [].getD k 0), rfl, rfl, by rw [ht]; exact hP9, hD9⟩, hS.F ht⟩) hS.2.2 dX11_refuse_25
set_option maxHeartbeats 4000000 in
set_option maxRecDepth 100000 in
theorem kX11_say (l : Launch) (dC : Nat → ClassId) (dI : Nat → Nat → Nat) (cI cQ : ClassId) (h0 h1 h2 h3 h4 h5 h6 h7 h8 h9 h10 h11 h12 h13 h14 h15 : Nat) (sz : Nat) : Met l yX11_say vsX11_say ({ frames := 1, cells := 0, slots := 0, locals := 22 }) (va_Pc [.ref h0] (zB dC dI cI cQ [(h0, .inr (11, [.ref h1, .ref h3, .int 0, .ref h4, .ref h5, .ref h6, .ref h7, .int 0, .ref h2])), (h1, .inr (7, [.ref h8, .ref h9, .ref h10, .int 0, .ref h11, .ref h12, .ref h13, .ref h14, .int 0, .int 0, .int 10, .ref h15])), (h2, .inl (cI, 7, .inl (fun _ => 0)))] sz)) (zQi dC dI (va_A [(h0, .inr (11, [.ref h1, .ref h3, .int 0, .ref h4, .ref h5, .ref h6, .ref h7, .int 0, .ref h2])), (h1, .inr (7, [.ref h8, .ref h9, .ref h10, .int 0, .ref h11, .ref h12, .ref h13, .ref h14, .int 0, .int 0, .int 10, .ref h15])), (h2, .inl (cI, 7, .inl (fun _ => 0)))] sz) (fun ad => []) (-3)) 0 0 (va_A [(h0, .inr (11, [.ref h1, .ref h3, .int 0, .ref h4, .ref h5, .ref h6, .ref h7, .int 0, .ref h2])), (h1, .inr (7, [.ref h8, .ref h9, .ref h10, .int 0, .ref h11, .ref h12, .ref h13, .ref h14, .int 0, .int 0, .int 10, .ref h15])), (h2, .inl (cI, 7, .inl (fun _ => 0)))] sz) := by
  refine Met.ofW (cc := cX11_say) (maxL := 2) (ret := (some .int)) (by decide) rfl ?_
  intro p e s m args below meth c s₁ B hml hv
  obtain ⟨rfl, hsz, hP, hZ, hD0⟩ := hv
  obtain ⟨hK, hAO, hN⟩ := id hZ
  have hx := B.exec
  have hb := B.bytes
  have hr := B.returns
  have hts := atoms_spec (ws := vsX11_say) B.pre
  have hown : s.vm.findClass RX11 = some m.cls := findClass_of_methodNamed B.named
  have hlocks := B.notSynchronized
  subst hsz
  have hD := hD0.self (sz := s.heap.size)
  generalize hAe : va_A [(h0, .inr (11, [.ref h1, .ref h3, .int 0, .ref h4, .ref h5, .ref h6, .ref h7, .int 0, .ref h2])), (h1, .inr (7, [.ref h8, .ref h9, .ref h10, .int 0, .ref h11, .ref h12, .ref h13, .ref h14, .int 0, .int 0, .int 10, .ref h15])), (h2, .inl (cI, 7, .inl (fun _ => 0)))] s.heap.size = A at hD ⊢
  have hA : ∀ q : Nat, s.heap.size ≤ q → A q := fun q h => by rw [← hAe]; exact Or.inr h
  have hS : va_S A s.heap s.heap [] := va_S.rf
  have hP : va_P (dC, dI) vwCl [(h0, .inr (11, [.ref h1, .ref h3, .int 0, .ref h4, .ref h5, .ref h6, .ref h7, .int 0, .ref h2])), (h1, .inr (7, [.ref h8, .ref h9, .ref h10, .int 0, .ref h11, .ref h12, .ref h13, .ref h14, .int 0, .int 0, .int 10, .ref h15])), (h2, .inl (cI, 7, .inl (fun _ => 0)))] s.heap := hP
  have hl := lv_entry ([.ref h0]) (n := 2) (Nat.le_of_ble_eq_true rfl)
  rw [lg_entry_eq]
  generalize (lg_sl ([.ref h0]) ++ List.replicate (2 - (lg_sl ([.ref h0])).length) Slot.unset).toArray = ls at hl ⊢
  have hl : lv_has ls 2 [(0, .ref h0)] := hl
  refine lv_aload_n hx hb dX11_say_0 rfl (lv_at hl 0 rfl) ?_
  refine va_get (D := (dC, dI)) (ci := 11) (v := .ref h1) (C := RX11) (T := TX11) (N := 9) hx hb hts in_X11_say_X11 hown hK hP 0 rfl rfl 0 (by decide) (hts (.fieldLink RX11 10 "EachOnHisCue" "play" "LEachOnHisCue$Play;") (by decide +kernel)) (fun _ h9 => h9) rfl dX11_say_1 ?_
  refine va_get (D := (dC, dI)) (ci := 7) (v := .int 0) (C := RX7) (T := TX7) (N := 12) hx hb hts in_X11_say_X7 hown hK hP 1 rfl rfl 9 (by decide) (hts (.fieldLink RX11 137 "EachOnHisCue$Play" "lines" "I") (by decide +kernel)) (fun _ h9 => h9) rfl dX11_say_4 ?_
  refine lv_if_ne (tgt := 17) hx hb dX11_say_7 (by decide) (fun hc => ?_) (fun hc => ?_)
  · exact absurd hc (by decide)
  refine lv_aload_n hx hb dX11_say_10 rfl (lv_at hl 0 rfl) ?_
  refine lv_bipush (v := (-3)) hx hb dX11_say_11 (by decide) ?_
  refine z_calli (wc := [(h0, .inr (11, [.ref h1, .ref h3, .int 0, .ref h4, .ref h5, .ref h6, .ref h7, .int 0, .ref h2])), (h2, .inl (cI, 7, .inl (fun _ => 0)))]) (wr := [(h1, .inr (7, [.ref h8, .ref h9, .ref h10, .int 0, .ref h11, .ref h12, .ref h13, .ref h14, .int 0, .int 0, .int 10, .ref h15]))]) (w1 := (fun _ => [(h0, .inr (11, [.ref h1, .ref h3, .int 0, .ref h4, .ref h5, .ref h6, .ref h7, .int 0, .ref h2])), (h2, .inl (cI, 7, .inl (upd (fun _ => 0) 3 1)))])) (va_runV (As := [.int (-3)]) (rest := []) ⟨hx, hb, hml, hown, hts⟩ (kX11_refuse_3 l dC dI cI cQ h0 h2 h1 h3 h4 h5 h6 h7 s.heap.size) (cwV 1 hts gv_X11_say_X11_refuse_53 rfl rfl rfl (by decide +kernel) ⟨Nat.le_of_ble_eq_true rfl, Nat.le_of_ble_eq_true rfl⟩) ⟨z_blind, va_recv hK hP (ci := 11) (q0 := 0) rfl rfl, z_pre hZ hP hD [0, 2] rfl (by decide)⟩ rfl rfl hl.1 rfl (lv_room (Nat.le_of_ble_eq_true rfl)) dX11_say_13 ⟨Nat.le_of_ble_eq_true rfl, Nat.le_of_ble_eq_true rfl⟩) hP hD hS hA [0, 2] [1] rfl rfl (by decide) (by decide) (fun _ H locs hP hD hS => ?_)
  have hP : va_P (dC, dI) vwCl [(h1, .inr (7, [.ref h8, .ref h9, .ref h10, .int 0, .ref h11, .ref h12, .ref h13, .ref h14, .int 0, .int 0, .int 10, .ref h15])), (h0, .inr (11, [.ref h1, .ref h3, .int 0, .ref h4, .ref h5, .ref h6, .ref h7, .int 0, .ref h2])), (h2, .inl (cI, 7, .inl (upd (fun _ => 0) 3 1)))] H := hP
  have hD : va_D A [(h1, .inr (7, [.ref h8, .ref h9, .ref h10, .int 0, .ref h11, .ref h12, .ref h13, .ref h14, .int 0, .int 0, .int 10, .ref h15])), (h0, .inr (11, [.ref h1, .ref h3, .int 0, .ref h4, .ref h5, .ref h6, .ref h7, .int 0, .ref h2])), (h2, .inl (cI, 7, .inl (upd (fun _ => 0) 3 1)))] := hD
  have hP9 := hP.sub (ws' := []) [] rfl
  have hD9 := hD.sub (ws' := []) [] (by decide) rfl
  exact W.iret (v := (-3)) hx hb hr (fun t ht hW => ⟨⟨(-3), (fun k => [].getD k 0), rfl, rfl, by rw [ht]; exact hP9, hD9⟩, hS.F ht⟩) hS.2.2 dX11_say_16
set_option maxHeartbeats 4000000 in
set_option maxRecDepth 100000 in
theorem kX9_forget (l : Launch) (dC : Nat → ClassId) (dI : Nat → Nat → Nat) (cI cQ : ClassId) (h0 : Nat) (sz : Nat) : Met l yX9_forget vsX9_forget ({ frames := 0, cells := 0, slots := 0, locals := 0 }) (va_Pc [.ref h0] (zB dC dI cI cQ [(h0, .inr (9, [.int 0, .int 0, .int (-9), .int 0, .int 0]))] sz)) (zQv dC dI (va_A [(h0, .inr (9, [.int 0, .int 0, .int (-9), .int 0, .int 0]))] sz) (fun ad => [(h0, .inr (9, [.int 0, .int 0, .int (-9), .int 0, .int 0]))])) 0 0 (va_A [(h0, .inr (9, [.int 0, .int 0, .int (-9), .int 0, .int 0]))] sz) := by
  refine Met.ofW (cc := cX9_forget) (maxL := 1) (ret := none) (by decide) rfl ?_
  intro p e s m args below meth c s₁ B hml hv
  obtain ⟨rfl, hsz, hP, hZ, hD0⟩ := hv
  obtain ⟨hK, hAO, hN⟩ := id hZ
  have hx := B.exec
  have hb := B.bytes
  have hr := B.returns
  have hts := atoms_spec (ws := vsX9_forget) B.pre
  have hown : s.vm.findClass RX9 = some m.cls := findClass_of_methodNamed B.named
  have hlocks := B.notSynchronized
  subst hsz
  have hD := hD0.self (sz := s.heap.size)
  generalize hAe : va_A [(h0, .inr (9, [.int 0, .int 0, .int (-9), .int 0, .int 0]))] s.heap.size = A at hD ⊢
  have hA : ∀ q : Nat, s.heap.size ≤ q → A q := fun q h => by rw [← hAe]; exact Or.inr h
  have hS : va_S A s.heap s.heap [] := va_S.rf
  have hP : va_P (dC, dI) vwCl [(h0, .inr (9, [.int 0, .int 0, .int (-9), .int 0, .int 0]))] s.heap := hP
  have hl := lv_entry ([.ref h0]) (n := 1) (Nat.le_of_ble_eq_true rfl)
  rw [lg_entry_eq]
  generalize (lg_sl ([.ref h0]) ++ List.replicate (1 - (lg_sl ([.ref h0])).length) Slot.unset).toArray = ls at hl ⊢
  have hl : lv_has ls 1 [(0, .ref h0)] := hl
  refine lv_aload_n hx hb dX9_forget_0 rfl (lv_at hl 0 rfl) ?_
  refine lv_iconst (v := 0) hx hb dX9_forget_1 (by decide) ?_
  refine va_put (D := (dC, dI)) (ci := 9) (v := .int 0) (ty := .int) (C := RX9) (T := TX9) (N := 5) hx hb hts in_X9_forget_X9 tyX9 tyX9_ok nmX9 hown hK hP hD hS 0 rfl rfl 0 (by decide) (hts (.fieldLink RX9 9 "EachOnHisCue$Saying" "said" "I") (by decide +kernel)) (fun _ h9 => h9) rfl (by decide +kernel) rfl rfl (Nat.le_of_ble_eq_true rfl) dX9_forget_2 (fun H locs hP hD hS => ?_)
  have hP : va_P (dC, dI) vwCl [(h0, .inr (9, [.int 0, .int 0, .int (-9), .int 0, .int 0]))] H := hP
  have hD : va_D A [(h0, .inr (9, [.int 0, .int 0, .int (-9), .int 0, .int 0]))] := hD
  refine lv_aload_n hx hb dX9_forget_5 rfl (lv_at hl 0 rfl) ?_
  refine lv_iconst (v := 0) hx hb dX9_forget_6 (by decide) ?_
  refine va_put (D := (dC, dI)) (ci := 9) (v := .int 0) (ty := .int) (C := RX9) (T := TX9) (N := 5) hx hb hts in_X9_forget_X9 tyX9 tyX9_ok nmX9 hown hK hP hD hS 0 rfl rfl 1 (by decide) (hts (.fieldLink RX9 15 "EachOnHisCue$Saying" "dead" "I") (by decide +kernel)) (fun _ h9 => h9) rfl (by decide +kernel) rfl rfl (Nat.le_of_ble_eq_true rfl) dX9_forget_7 (fun H locs hP hD hS => ?_)
  have hP : va_P (dC, dI) vwCl [(h0, .inr (9, [.int 0, .int 0, .int (-9), .int 0, .int 0]))] H := hP
  have hD : va_D A [(h0, .inr (9, [.int 0, .int 0, .int (-9), .int 0, .int 0]))] := hD
  refine lv_aload_n hx hb dX9_forget_10 rfl (lv_at hl 0 rfl) ?_
  refine lv_bipush (v := (-9)) hx hb dX9_forget_11 (by decide) ?_
  refine va_put (D := (dC, dI)) (ci := 9) (v := .int (-9)) (ty := .int) (C := RX9) (T := TX9) (N := 5) hx hb hts in_X9_forget_X9 tyX9 tyX9_ok nmX9 hown hK hP hD hS 0 rfl rfl 2 (by decide) (hts (.fieldLink RX9 18 "EachOnHisCue$Saying" "latest" "I") (by decide +kernel)) (fun _ h9 => h9) rfl (by decide +kernel) rfl rfl (Nat.le_of_ble_eq_true rfl) dX9_forget_13 (fun H locs hP hD hS => ?_)
  have hP : va_P (dC, dI) vwCl [(h0, .inr (9, [.int 0, .int 0, .int (-9), .int 0, .int 0]))] H := hP
  have hD : va_D A [(h0, .inr (9, [.int 0, .int 0, .int (-9), .int 0, .int 0]))] := hD
  refine lv_aload_n hx hb dX9_forget_16 rfl (lv_at hl 0 rfl) ?_
  refine lv_iconst (v := 0) hx hb dX9_forget_17 (by decide) ?_
  refine va_put (D := (dC, dI)) (ci := 9) (v := .int 0) (ty := .int) (C := RX9) (T := TX9) (N := 5) hx hb hts in_X9_forget_X9 tyX9 tyX9_ok nmX9 hown hK hP hD hS 0 rfl rfl 3 (by decide) (hts (.fieldLink RX9 21 "EachOnHisCue$Saying" "times" "I") (by decide +kernel)) (fun _ h9 => h9) rfl (by decide +kernel) rfl rfl (Nat.le_of_ble_eq_true rfl) dX9_forget_18 (fun H locs hP hD hS => ?_)
  have hP : va_P (dC, dI) vwCl [(h0, .inr (9, [.int 0, .int 0, .int (-9), .int 0, .int 0]))] H := hP
  have hD : va_D A [(h0, .inr (9, [.int 0, .int 0, .int (-9), .int 0, .int 0]))] := hD
  refine lv_aload_n hx hb dX9_forget_21 rfl (lv_at hl 0 rfl) ?_
  refine lv_iconst (v := 0) hx hb dX9_forget_22 (by decide) ?_
  refine va_put (D := (dC, dI)) (ci := 9) (v := .int 0) (ty := .int) (C := RX9) (T := TX9) (N := 5) hx hb hts in_X9_forget_X9 tyX9 tyX9_ok nmX9 hown hK hP hD hS 0 rfl rfl 4 (by decide) (hts (.fieldLink RX9 24 "EachOnHisCue$Saying" "leaps" "I") (by decide +kernel)) (fun _ h9 => h9) rfl (by decide +kernel) rfl rfl (Nat.le_of_ble_eq_true rfl) dX9_forget_23 (fun H locs hP hD hS => ?_)
  have hP : va_P (dC, dI) vwCl [(h0, .inr (9, [.int 0, .int 0, .int (-9), .int 0, .int 0]))] H := hP
  have hD : va_D A [(h0, .inr (9, [.int 0, .int 0, .int (-9), .int 0, .int 0]))] := hD
  have hP9 := hP.sub (ws' := [(h0, .inr (9, [.int 0, .int 0, .int (-9), .int 0, .int 0]))]) [0] rfl
  have hD9 := hD.sub (ws' := [(h0, .inr (9, [.int 0, .int 0, .int (-9), .int 0, .int 0]))]) [0] (by decide) rfl
  exact W.vret hx hb hr (fun t ht hW => ⟨⟨(fun k => [].getD k 0), rfl, trivial, by rw [ht]; exact hP9, hD9⟩, hS.F ht⟩) hS.2.2 dX9_forget_26
set_option maxHeartbeats 4000000 in
set_option maxRecDepth 100000 in
theorem kX11_again (l : Launch) (dC : Nat → ClassId) (dI : Nat → Nat → Nat) (cI cQ : ClassId) (h0 h1 h2 h3 h4 h5 h6 h7 h8 h9 h10 h11 h12 h13 h14 h15 : Nat) (sz : Nat) : Met l yX11_again vsX11_again ({ frames := 1, cells := 0, slots := 0, locals := 20 }) (va_Pc [.ref h0] (zB dC dI cI cQ [(h0, .inr (11, [.ref h1, .ref h3, .int 0, .ref h4, .ref h5, .ref h6, .ref h7, .int 0, .ref h8])), (h1, .inr (7, [.ref h9, .ref h10, .ref h11, .int 0, .ref h12, .ref h13, .ref h14, .ref h15, .int 0, .int 0, .int 10, .ref h2])), (h2, .inr (9, [.int 0, .int 0, .int (-9), .int 0, .int 0]))] sz)) (zQi dC dI (va_A [(h0, .inr (11, [.ref h1, .ref h3, .int 0, .ref h4, .ref h5, .ref h6, .ref h7, .int 0, .ref h8])), (h1, .inr (7, [.ref h9, .ref h10, .ref h11, .int 0, .ref h12, .ref h13, .ref h14, .ref h15, .int 0, .int 0, .int 10, .ref h2])), (h2, .inr (9, [.int 0, .int 0, .int (-9), .int 0, .int 0]))] sz) (fun ad => []) 0) 0 0 (va_A [(h0, .inr (11, [.ref h1, .ref h3, .int 0, .ref h4, .ref h5, .ref h6, .ref h7, .int 0, .ref h8])), (h1, .inr (7, [.ref h9, .ref h10, .ref h11, .int 0, .ref h12, .ref h13, .ref h14, .ref h15, .int 0, .int 0, .int 10, .ref h2])), (h2, .inr (9, [.int 0, .int 0, .int (-9), .int 0, .int 0]))] sz) := by
  refine Met.ofW (cc := cX11_again) (maxL := 2) (ret := (some .int)) (by decide) rfl ?_
  intro p e s m args below meth c s₁ B hml hv
  obtain ⟨rfl, hsz, hP, hZ, hD0⟩ := hv
  obtain ⟨hK, hAO, hN⟩ := id hZ
  have hx := B.exec
  have hb := B.bytes
  have hr := B.returns
  have hts := atoms_spec (ws := vsX11_again) B.pre
  have hown : s.vm.findClass RX11 = some m.cls := findClass_of_methodNamed B.named
  have hlocks := B.notSynchronized
  subst hsz
  have hD := hD0.self (sz := s.heap.size)
  generalize hAe : va_A [(h0, .inr (11, [.ref h1, .ref h3, .int 0, .ref h4, .ref h5, .ref h6, .ref h7, .int 0, .ref h8])), (h1, .inr (7, [.ref h9, .ref h10, .ref h11, .int 0, .ref h12, .ref h13, .ref h14, .ref h15, .int 0, .int 0, .int 10, .ref h2])), (h2, .inr (9, [.int 0, .int 0, .int (-9), .int 0, .int 0]))] s.heap.size = A at hD ⊢
  have hA : ∀ q : Nat, s.heap.size ≤ q → A q := fun q h => by rw [← hAe]; exact Or.inr h
  have hS : va_S A s.heap s.heap [] := va_S.rf
  have hP : va_P (dC, dI) vwCl [(h0, .inr (11, [.ref h1, .ref h3, .int 0, .ref h4, .ref h5, .ref h6, .ref h7, .int 0, .ref h8])), (h1, .inr (7, [.ref h9, .ref h10, .ref h11, .int 0, .ref h12, .ref h13, .ref h14, .ref h15, .int 0, .int 0, .int 10, .ref h2])), (h2, .inr (9, [.int 0, .int 0, .int (-9), .int 0, .int 0]))] s.heap := hP
  have hl := lv_entry ([.ref h0]) (n := 2) (Nat.le_of_ble_eq_true rfl)
  rw [lg_entry_eq]
  generalize (lg_sl ([.ref h0]) ++ List.replicate (2 - (lg_sl ([.ref h0])).length) Slot.unset).toArray = ls at hl ⊢
  have hl : lv_has ls 2 [(0, .ref h0)] := hl
  refine lv_aload_n hx hb dX11_again_0 rfl (lv_at hl 0 rfl) ?_
  refine va_get (D := (dC, dI)) (ci := 11) (v := .ref h1) (C := RX11) (T := TX11) (N := 9) hx hb hts in_X11_again_X11 hown hK hP 0 rfl rfl 0 (by decide) (hts (.fieldLink RX11 10 "EachOnHisCue" "play" "LEachOnHisCue$Play;") (by decide +kernel)) (fun _ h9 => h9) rfl dX11_again_1 ?_
  refine va_get (D := (dC, dI)) (ci := 7) (v := .ref h2) (C := RX7) (T := TX7) (N := 12) hx hb hts in_X11_again_X7 hown hK hP 1 rfl rfl 11 (by decide) (hts (.fieldLink RX11 71 "EachOnHisCue$Play" "now" "LEachOnHisCue$Saying;") (by decide +kernel)) (fun _ h9 => h9) rfl dX11_again_4 ?_
  refine va_get (D := (dC, dI)) (ci := 9) (v := .int 0) (C := RX9) (T := TX9) (N := 5) hx hb hts in_X11_again_X9 hown hK hP 2 rfl rfl 3 (by decide) (hts (.fieldLink RX11 147 "EachOnHisCue$Saying" "times" "I") (by decide +kernel)) (fun _ h9 => h9) rfl dX11_again_7 ?_
  refine lv_istore_n (lv' := [(1, .int 0), (0, .ref h0)]) hx hb dX11_again_10 rfl hl (by decide) rfl (fun ls hl => ?_)
  refine lv_aload_n hx hb dX11_again_11 rfl (lv_at hl 1 rfl) ?_
  refine va_get (D := (dC, dI)) (ci := 11) (v := .ref h1) (C := RX11) (T := TX11) (N := 9) hx hb hts in_X11_again_X11 hown hK hP 0 rfl rfl 0 (by decide) (hts (.fieldLink RX11 10 "EachOnHisCue" "play" "LEachOnHisCue$Play;") (by decide +kernel)) (fun _ h9 => h9) rfl dX11_again_12 ?_
  refine va_get (D := (dC, dI)) (ci := 7) (v := .ref h2) (C := RX7) (T := TX7) (N := 12) hx hb hts in_X11_again_X7 hown hK hP 1 rfl rfl 11 (by decide) (hts (.fieldLink RX11 71 "EachOnHisCue$Play" "now" "LEachOnHisCue$Saying;") (by decide +kernel)) (fun _ h9 => h9) rfl dX11_again_15 ?_
  refine z_callv (wc := [(h2, .inr (9, [.int 0, .int 0, .int (-9), .int 0, .int 0]))]) (wr := [(h0, .inr (11, [.ref h1, .ref h3, .int 0, .ref h4, .ref h5, .ref h6, .ref h7, .int 0, .ref h8])), (h1, .inr (7, [.ref h9, .ref h10, .ref h11, .int 0, .ref h12, .ref h13, .ref h14, .ref h15, .int 0, .int 0, .int 10, .ref h2]))]) (w1 := (fun _ => [(h2, .inr (9, [.int 0, .int 0, .int (-9), .int 0, .int 0]))])) (va_runV (As := []) (rest := []) ⟨hx, hb, hml, hown, hts⟩ (kX9_forget l dC dI cI cQ h2 s.heap.size) (cwV 0 hts gv_X11_again_X9_forget_75 rfl rfl rfl (by decide +kernel) ⟨Nat.le_of_ble_eq_true rfl, Nat.le_of_ble_eq_true rfl⟩) ⟨z_blind, va_recv hK hP (ci := 9) (q0 := 2) rfl rfl, z_pre hZ hP hD [2] rfl (by decide)⟩ rfl rfl hl.1 rfl (lv_room (Nat.le_of_ble_eq_true rfl)) dX11_again_18 ⟨Nat.le_of_ble_eq_true rfl, Nat.le_of_ble_eq_true rfl⟩) hP hD hS hA [2] [0, 1] rfl rfl (by decide) (by decide) (fun _ H locs hP hD hS => ?_)
  have hP : va_P (dC, dI) vwCl [(h0, .inr (11, [.ref h1, .ref h3, .int 0, .ref h4, .ref h5, .ref h6, .ref h7, .int 0, .ref h8])), (h1, .inr (7, [.ref h9, .ref h10, .ref h11, .int 0, .ref h12, .ref h13, .ref h14, .ref h15, .int 0, .int 0, .int 10, .ref h2])), (h2, .inr (9, [.int 0, .int 0, .int (-9), .int 0, .int 0]))] H := hP
  have hD : va_D A [(h0, .inr (11, [.ref h1, .ref h3, .int 0, .ref h4, .ref h5, .ref h6, .ref h7, .int 0, .ref h8])), (h1, .inr (7, [.ref h9, .ref h10, .ref h11, .int 0, .ref h12, .ref h13, .ref h14, .ref h15, .int 0, .int 0, .int 10, .ref h2])), (h2, .inr (9, [.int 0, .int 0, .int (-9), .int 0, .int 0]))] := hD
  refine lv_iload_n hx hb dX11_again_21 rfl (lv_at hl 0 rfl) ?_
  have hP9 := hP.sub (ws' := []) [] rfl
  have hD9 := hD.sub (ws' := []) [] (by decide) rfl
  exact W.iret (v := 0) hx hb hr (fun t ht hW => ⟨⟨0, (fun k => [].getD k 0), rfl, rfl, by rw [ht]; exact hP9, hD9⟩, hS.F ht⟩) hS.2.2 dX11_again_22
set_option maxHeartbeats 4000000 in
set_option maxRecDepth 100000 in
theorem kX11_night (l : Launch) (dC : Nat → ClassId) (dI : Nat → Nat → Nat) (cI cQ : ClassId) (h0 h1 h2 h3 h4 h5 h6 h7 : Nat) (p0 : Int32) (hp0l : -2147483648 ≤ p0.toInt) (hp0h : p0.toInt ≤ -1) (sz : Nat) : Met l yX11_night vsX11_night ({ frames := 1, cells := 0, slots := 0, locals := 22 }) (va_Pc [.ref h0, .int p0] (zB dC dI cI cQ [(h0, .inr (11, [.ref h2, .ref h3, .int 0, .ref h4, .ref h5, .ref h6, .ref h7, .int 0, .ref h1])), (h1, .inl (cI, 7, .inl (fun _ => 0)))] sz)) (zQi dC dI (va_A [(h0, .inr (11, [.ref h2, .ref h3, .int 0, .ref h4, .ref h5, .ref h6, .ref h7, .int 0, .ref h1])), (h1, .inl (cI, 7, .inl (fun _ => 0)))] sz) (fun ad => []) (-4)) 0 0 (va_A [(h0, .inr (11, [.ref h2, .ref h3, .int 0, .ref h4, .ref h5, .ref h6, .ref h7, .int 0, .ref h1])), (h1, .inl (cI, 7, .inl (fun _ => 0)))] sz) := by
  refine Met.ofW (cc := cX11_night) (maxL := 3) (ret := (some .int)) (by decide) rfl ?_
  intro p e s m args below meth c s₁ B hml hv
  obtain ⟨rfl, hsz, hP, hZ, hD0⟩ := hv
  obtain ⟨hK, hAO, hN⟩ := id hZ
  have hx := B.exec
  have hb := B.bytes
  have hr := B.returns
  have hts := atoms_spec (ws := vsX11_night) B.pre
  have hown : s.vm.findClass RX11 = some m.cls := findClass_of_methodNamed B.named
  have hlocks := B.notSynchronized
  subst hsz
  have hD := hD0.self (sz := s.heap.size)
  generalize hAe : va_A [(h0, .inr (11, [.ref h2, .ref h3, .int 0, .ref h4, .ref h5, .ref h6, .ref h7, .int 0, .ref h1])), (h1, .inl (cI, 7, .inl (fun _ => 0)))] s.heap.size = A at hD ⊢
  have hA : ∀ q : Nat, s.heap.size ≤ q → A q := fun q h => by rw [← hAe]; exact Or.inr h
  have hS : va_S A s.heap s.heap [] := va_S.rf
  have hP : va_P (dC, dI) vwCl [(h0, .inr (11, [.ref h2, .ref h3, .int 0, .ref h4, .ref h5, .ref h6, .ref h7, .int 0, .ref h1])), (h1, .inl (cI, 7, .inl (fun _ => 0)))] s.heap := hP
  have hl := lv_entry ([.ref h0, .int p0]) (n := 3) (Nat.le_of_ble_eq_true rfl)
  rw [lg_entry_eq]
  generalize (lg_sl ([.ref h0, .int p0]) ++ List.replicate (3 - (lg_sl ([.ref h0, .int p0])).length) Slot.unset).toArray = ls at hl ⊢
  have hl : lv_has ls 3 [(0, .ref h0), (1, .int p0)] := hl
  refine lv_iload_n hx hb dX11_night_0 rfl (lv_at hl 1 rfl) ?_
  refine lv_if_ge (tgt := 11) hx hb dX11_night_1 (by decide) (fun hc => ?_) (fun hc => ?_)
  · exact absurd ((fa_le _ _).mp hc) (by rw [show (0 : Int32).toInt = 0 from by decide]; omega)
  refine lv_aload_n hx hb dX11_night_4 rfl (lv_at hl 0 rfl) ?_
  refine lv_bipush (v := (-4)) hx hb dX11_night_5 (by decide) ?_
  refine z_calli (wc := [(h0, .inr (11, [.ref h2, .ref h3, .int 0, .ref h4, .ref h5, .ref h6, .ref h7, .int 0, .ref h1])), (h1, .inl (cI, 7, .inl (fun _ => 0)))]) (wr := []) (w1 := (fun _ => [(h0, .inr (11, [.ref h2, .ref h3, .int 0, .ref h4, .ref h5, .ref h6, .ref h7, .int 0, .ref h1])), (h1, .inl (cI, 7, .inl (upd (fun _ => 0) 4 1)))])) (va_runV (As := [.int (-4)]) (rest := []) ⟨hx, hb, hml, hown, hts⟩ (kX11_refuse l dC dI cI cQ h0 h1 h2 h3 h4 h5 h6 h7 s.heap.size) (cwV 1 hts gv_X11_night_X11_refuse_53 rfl rfl rfl (by decide +kernel) ⟨Nat.le_of_ble_eq_true rfl, Nat.le_of_ble_eq_true rfl⟩) ⟨z_blind, va_recv hK hP (ci := 11) (q0 := 0) rfl rfl, z_pre hZ hP hD [0, 1] rfl (by decide)⟩ rfl rfl hl.1 rfl (lv_room (Nat.le_of_ble_eq_true rfl)) dX11_night_7 ⟨Nat.le_of_ble_eq_true rfl, Nat.le_of_ble_eq_true rfl⟩) hP hD hS hA [0, 1] [] rfl rfl (by decide) (by decide) (fun _ H locs hP hD hS => ?_)
  have hP : va_P (dC, dI) vwCl [(h0, .inr (11, [.ref h2, .ref h3, .int 0, .ref h4, .ref h5, .ref h6, .ref h7, .int 0, .ref h1])), (h1, .inl (cI, 7, .inl (upd (fun _ => 0) 4 1)))] H := hP
  have hD : va_D A [(h0, .inr (11, [.ref h2, .ref h3, .int 0, .ref h4, .ref h5, .ref h6, .ref h7, .int 0, .ref h1])), (h1, .inl (cI, 7, .inl (upd (fun _ => 0) 4 1)))] := hD
  have hP9 := hP.sub (ws' := []) [] rfl
  have hD9 := hD.sub (ws' := []) [] (by decide) rfl
  exact W.iret (v := (-4)) hx hb hr (fun t ht hW => ⟨⟨(-4), (fun k => [].getD k 0), rfl, rfl, by rw [ht]; exact hP9, hD9⟩, hS.F ht⟩) hS.2.2 dX11_night_10
set_option maxHeartbeats 4000000 in
set_option maxRecDepth 100000 in
theorem kX11_night_1 (l : Launch) (dC : Nat → ClassId) (dI : Nat → Nat → Nat) (cI cQ : ClassId) (h0 h1 h2 h3 h4 h5 h6 h7 h8 h9 h10 h11 h12 h13 h14 h15 : Nat) (p0 : Int32) (hp0l : 0 ≤ p0.toInt) (hp0h : p0.toInt ≤ 2147483647) (sz : Nat) : Met l yX11_night vsX11_night ({ frames := 1, cells := 0, slots := 0, locals := 22 }) (va_Pc [.ref h0, .int p0] (zB dC dI cI cQ [(h0, .inr (11, [.ref h1, .ref h3, .int 0, .ref h4, .ref h5, .ref h6, .ref h7, .int 0, .ref h2])), (h1, .inr (7, [.ref h8, .ref h9, .ref h10, .int 0, .ref h11, .ref h12, .ref h13, .ref h14, .int 0, .int 0, .int 10, .ref h15])), (h2, .inl (cI, 7, .inl (fun _ => 0)))] sz)) (zQi dC dI (va_A [(h0, .inr (11, [.ref h1, .ref h3, .int 0, .ref h4, .ref h5, .ref h6, .ref h7, .int 0, .ref h2])), (h1, .inr (7, [.ref h8, .ref h9, .ref h10, .int 0, .ref h11, .ref h12, .ref h13, .ref h14, .int 0, .int 0, .int 10, .ref h15])), (h2, .inl (cI, 7, .inl (fun _ => 0)))] sz) (fun ad => []) (-3)) 0 0 (va_A [(h0, .inr (11, [.ref h1, .ref h3, .int 0, .ref h4, .ref h5, .ref h6, .ref h7, .int 0, .ref h2])), (h1, .inr (7, [.ref h8, .ref h9, .ref h10, .int 0, .ref h11, .ref h12, .ref h13, .ref h14, .int 0, .int 0, .int 10, .ref h15])), (h2, .inl (cI, 7, .inl (fun _ => 0)))] sz) := by
  refine Met.ofW (cc := cX11_night) (maxL := 3) (ret := (some .int)) (by decide) rfl ?_
  intro p e s m args below meth c s₁ B hml hv
  obtain ⟨rfl, hsz, hP, hZ, hD0⟩ := hv
  obtain ⟨hK, hAO, hN⟩ := id hZ
  have hx := B.exec
  have hb := B.bytes
  have hr := B.returns
  have hts := atoms_spec (ws := vsX11_night) B.pre
  have hown : s.vm.findClass RX11 = some m.cls := findClass_of_methodNamed B.named
  have hlocks := B.notSynchronized
  subst hsz
  have hD := hD0.self (sz := s.heap.size)
  generalize hAe : va_A [(h0, .inr (11, [.ref h1, .ref h3, .int 0, .ref h4, .ref h5, .ref h6, .ref h7, .int 0, .ref h2])), (h1, .inr (7, [.ref h8, .ref h9, .ref h10, .int 0, .ref h11, .ref h12, .ref h13, .ref h14, .int 0, .int 0, .int 10, .ref h15])), (h2, .inl (cI, 7, .inl (fun _ => 0)))] s.heap.size = A at hD ⊢
  have hA : ∀ q : Nat, s.heap.size ≤ q → A q := fun q h => by rw [← hAe]; exact Or.inr h
  have hS : va_S A s.heap s.heap [] := va_S.rf
  have hP : va_P (dC, dI) vwCl [(h0, .inr (11, [.ref h1, .ref h3, .int 0, .ref h4, .ref h5, .ref h6, .ref h7, .int 0, .ref h2])), (h1, .inr (7, [.ref h8, .ref h9, .ref h10, .int 0, .ref h11, .ref h12, .ref h13, .ref h14, .int 0, .int 0, .int 10, .ref h15])), (h2, .inl (cI, 7, .inl (fun _ => 0)))] s.heap := hP
  have hl := lv_entry ([.ref h0, .int p0]) (n := 3) (Nat.le_of_ble_eq_true rfl)
  rw [lg_entry_eq]
  generalize (lg_sl ([.ref h0, .int p0]) ++ List.replicate (3 - (lg_sl ([.ref h0, .int p0])).length) Slot.unset).toArray = ls at hl ⊢
  have hl : lv_has ls 3 [(0, .ref h0), (1, .int p0)] := hl
  refine lv_iload_n hx hb dX11_night_0 rfl (lv_at hl 1 rfl) ?_
  refine lv_if_ge (tgt := 11) hx hb dX11_night_1 (by decide) (fun hc => ?_) (fun hc => ?_)
  rotate_left; exact absurd ((fa_le _ _).mpr (by rw [show (0 : Int32).toInt = 0 from by decide]; omega)) hc
  refine lv_aload_n hx hb dX11_night_11 rfl (lv_at hl 0 rfl) ?_
  refine va_get (D := (dC, dI)) (ci := 11) (v := .ref h1) (C := RX11) (T := TX11) (N := 9) hx hb hts in_X11_night_X11 hown hK hP 0 rfl rfl 0 (by decide) (hts (.fieldLink RX11 10 "EachOnHisCue" "play" "LEachOnHisCue$Play;") (by decide +kernel)) (fun _ h9 => h9) rfl dX11_night_12 ?_
  refine va_get (D := (dC, dI)) (ci := 7) (v := .int 0) (C := RX7) (T := TX7) (N := 12) hx hb hts in_X11_night_X7 hown hK hP 1 rfl rfl 9 (by decide) (hts (.fieldLink RX11 137 "EachOnHisCue$Play" "lines" "I") (by decide +kernel)) (fun _ h9 => h9) rfl dX11_night_15 ?_
  refine lv_if_ne (tgt := 28) hx hb dX11_night_18 (by decide) (fun hc => ?_) (fun hc => ?_)
  · exact absurd hc (by decide)
  refine lv_aload_n hx hb dX11_night_21 rfl (lv_at hl 0 rfl) ?_
  refine lv_bipush (v := (-3)) hx hb dX11_night_22 (by decide) ?_
  refine z_calli (wc := [(h0, .inr (11, [.ref h1, .ref h3, .int 0, .ref h4, .ref h5, .ref h6, .ref h7, .int 0, .ref h2])), (h2, .inl (cI, 7, .inl (fun _ => 0)))]) (wr := [(h1, .inr (7, [.ref h8, .ref h9, .ref h10, .int 0, .ref h11, .ref h12, .ref h13, .ref h14, .int 0, .int 0, .int 10, .ref h15]))]) (w1 := (fun _ => [(h0, .inr (11, [.ref h1, .ref h3, .int 0, .ref h4, .ref h5, .ref h6, .ref h7, .int 0, .ref h2])), (h2, .inl (cI, 7, .inl (upd (fun _ => 0) 3 1)))])) (va_runV (As := [.int (-3)]) (rest := []) ⟨hx, hb, hml, hown, hts⟩ (kX11_refuse_3 l dC dI cI cQ h0 h2 h1 h3 h4 h5 h6 h7 s.heap.size) (cwV 1 hts gv_X11_night_X11_refuse_53 rfl rfl rfl (by decide +kernel) ⟨Nat.le_of_ble_eq_true rfl, Nat.le_of_ble_eq_true rfl⟩) ⟨z_blind, va_recv hK hP (ci := 11) (q0 := 0) rfl rfl, z_pre hZ hP hD [0, 2] rfl (by decide)⟩ rfl rfl hl.1 rfl (lv_room (Nat.le_of_ble_eq_true rfl)) dX11_night_24 ⟨Nat.le_of_ble_eq_true rfl, Nat.le_of_ble_eq_true rfl⟩) hP hD hS hA [0, 2] [1] rfl rfl (by decide) (by decide) (fun _ H locs hP hD hS => ?_)
  have hP : va_P (dC, dI) vwCl [(h1, .inr (7, [.ref h8, .ref h9, .ref h10, .int 0, .ref h11, .ref h12, .ref h13, .ref h14, .int 0, .int 0, .int 10, .ref h15])), (h0, .inr (11, [.ref h1, .ref h3, .int 0, .ref h4, .ref h5, .ref h6, .ref h7, .int 0, .ref h2])), (h2, .inl (cI, 7, .inl (upd (fun _ => 0) 3 1)))] H := hP
  have hD : va_D A [(h1, .inr (7, [.ref h8, .ref h9, .ref h10, .int 0, .ref h11, .ref h12, .ref h13, .ref h14, .int 0, .int 0, .int 10, .ref h15])), (h0, .inr (11, [.ref h1, .ref h3, .int 0, .ref h4, .ref h5, .ref h6, .ref h7, .int 0, .ref h2])), (h2, .inl (cI, 7, .inl (upd (fun _ => 0) 3 1)))] := hD
  have hP9 := hP.sub (ws' := []) [] rfl
  have hD9 := hD.sub (ws' := []) [] (by decide) rfl
  exact W.iret (v := (-3)) hx hb hr (fun t ht hW => ⟨⟨(-3), (fun k => [].getD k 0), rfl, rfl, by rw [ht]; exact hP9, hD9⟩, hS.F ht⟩) hS.2.2 dX11_night_27
