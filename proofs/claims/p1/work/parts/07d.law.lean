set_option maxHeartbeats 4000000 in
set_option maxRecDepth 100000 in
theorem lc_31_60 {p : Program} {l : Launch} {e : Env} {s : State} {m : MethodId} {below : List Frame} {meth : Method} {c : Code} {b : Nat} {xs : Nat → Int32} {dC : Nat → ClassId} {dI : Nat → Nat → Nat} {cI cQ : ClassId} {A : Nat → Prop} {Q : State → Prop} (hx : p.tables.exec = Jvm.exec) (hb : c.code = cL_law) (hml : c.maxLocals = 4) (hown : s.vm.findClass RL = some m.cls) (hts : ∀ w ∈ vsL, w.before #[Value.ref b] s = true) (hX : va_X b 3 xs s s.heap) (hbl : b < s.heap.size) (hbA : ¬ A b) (hA : ∀ q : Nat, s.heap.size ≤ q → A q) (hZ : zK dC dI cI cQ s) {ad : Nat → Nat} {H : Heap} {locs : List Loc} {ls : Array Slot} (hP : va_P (dC, dI) vwCl (zF cI cQ ad) H) (hD : va_D A (zF cI cQ ad)) (hS : va_S A s.heap H locs) (hl : lv_has ls 4 [(3, .int 0), (2, .ref (ad 27)), (1, .ref (ad 0)), (0, .ref b)]) (hxs1 : xs 1 = 0) (hend : ∀ (H : Heap) (locs : List Loc), va_S A s.heap H locs → W p l e room_1 s m #[Value.ref b] below meth c H locs 46 1336 Q (F0 m 863 ls [])) : W p l e room_1 s m #[Value.ref b] below meth c H locs 46 1336 Q (F0 m 840 ls []) := by
  have hP := hP.sub (ws' := [((ad 0), .inr (11, [.ref (ad 1), .ref (ad 10), .int 0, .ref (ad 19), .ref (ad 20), .ref (ad 23), .ref (ad 25), .int 0, .ref (ad 26)])), ((ad 1), .inr (7, [.ref (ad 2), .ref (ad 3), .ref (ad 4), .int 0, .ref (ad 5), .ref (ad 6), .ref (ad 7), .ref (ad 8), .int 0, .int 0, .int 10, .ref (ad 9)])), ((ad 27), .inr (12, [.ref (ad 28), .ref (ad 29), .ref (ad 30), .ref (ad 31), .ref (ad 32), .ref (ad 33), .ref (ad 34), .ref (ad 35), .ref (ad 36), .int 0, .int 0, .int 10, .int 0, .int 0, .int (-9), .int 0, .ref (ad 37), .ref (ad 38), .ref (ad 39), .ref (ad 40), .int 0, .int 0, .int 0, .ref (ad 41), .int 0, .int 0, .int 0, .int (-9), .int 0, .ref (ad 42), .int 0, .int 0, .int 0, .ref (ad 43), .ref (ad 44), .ref (ad 45), .int 0, .int 0]))]) [0, 1, 27] rfl
  have hD := hD.sub (ws' := [((ad 0), .inr (11, [.ref (ad 1), .ref (ad 10), .int 0, .ref (ad 19), .ref (ad 20), .ref (ad 23), .ref (ad 25), .int 0, .ref (ad 26)])), ((ad 1), .inr (7, [.ref (ad 2), .ref (ad 3), .ref (ad 4), .int 0, .ref (ad 5), .ref (ad 6), .ref (ad 7), .ref (ad 8), .int 0, .int 0, .int 10, .ref (ad 9)])), ((ad 27), .inr (12, [.ref (ad 28), .ref (ad 29), .ref (ad 30), .ref (ad 31), .ref (ad 32), .ref (ad 33), .ref (ad 34), .ref (ad 35), .ref (ad 36), .int 0, .int 0, .int 10, .int 0, .int 0, .int (-9), .int 0, .ref (ad 37), .ref (ad 38), .ref (ad 39), .ref (ad 40), .int 0, .int 0, .int 0, .ref (ad 41), .int 0, .int 0, .int 0, .int (-9), .int 0, .ref (ad 42), .int 0, .int 0, .int 0, .ref (ad 43), .ref (ad 44), .ref (ad 45), .int 0, .int 0]))]) [0, 1, 27] (by decide) rfl
  have hK := hZ.1
  refine lv_aload_n hx hb dL_law_840 rfl (lv_at hl 2 rfl) ?_
  refine lv_aload_n hx hb dL_law_841 rfl (lv_at hl 3 rfl) ?_
  refine lv_iload_n hx hb dL_law_842 rfl (lv_at hl 0 rfl) ?_
  refine lv_iconst (v := 1) hx hb dL_law_843 (by decide) ?_
  refine lv_iadd hx hb dL_law_844 ?_
  refine lv_topi (fun y1 ey1 => ?_)
  obtain rfl : y1 = 1 := ey1.trans (by decide)
  refine va_sld hx hb hX hbl hbA hS (by unfold vp_in; decide) dL_law_845 ?_
  refine lv_topi (fun y2 ey2 => ?_)
  obtain rfl : 0 = y2 := (ey2.trans hxs1).symm
  refine z_calli (wc := [((ad 0), .inr (11, [.ref (ad 1), .ref (ad 10), .int 0, .ref (ad 19), .ref (ad 20), .ref (ad 23), .ref (ad 25), .int 0, .ref (ad 26)])), ((ad 1), .inr (7, [.ref (ad 2), .ref (ad 3), .ref (ad 4), .int 0, .ref (ad 5), .ref (ad 6), .ref (ad 7), .ref (ad 8), .int 0, .int 0, .int 10, .ref (ad 9)]))]) (wr := [((ad 27), .inr (12, [.ref (ad 28), .ref (ad 29), .ref (ad 30), .ref (ad 31), .ref (ad 32), .ref (ad 33), .ref (ad 34), .ref (ad 35), .ref (ad 36), .int 0, .int 0, .int 10, .int 0, .int 0, .int (-9), .int 0, .ref (ad 37), .ref (ad 38), .ref (ad 39), .ref (ad 40), .int 0, .int 0, .int 0, .ref (ad 41), .int 0, .int 0, .int 0, .int (-9), .int 0, .ref (ad 42), .int 0, .int 0, .int 0, .ref (ad 43), .ref (ad 44), .ref (ad 45), .int 0, .int 0]))]) (w1 := (fun _ => [])) (va_runV (As := [.int 0]) (rest := []) ⟨hx, hb, hml, hown, hts⟩ (kX11_count_1 l dC dI cI cQ (ad 0) (ad 1) (ad 10) (ad 19) (ad 20) (ad 23) (ad 25) (ad 26) (ad 2) (ad 3) (ad 4) (ad 5) (ad 6) (ad 7) (ad 8) (ad 9) H.size) (cwV 1 hts gv_L_law_X11_count_141 rfl rfl rfl (by decide +kernel) ⟨Nat.le_of_ble_eq_true rfl, Nat.le_of_ble_eq_true rfl⟩) ⟨z_blind, va_recv hK hP (ci := 11) (q0 := 0) rfl rfl, z_pre hZ hP hD [0, 1] rfl (by decide)⟩ rfl rfl hl.1 rfl (lv_room (Nat.le_of_ble_eq_true rfl)) dL_law_846 ⟨Nat.le_of_ble_eq_true rfl, Nat.le_of_ble_eq_true rfl⟩) hP hD hS hA [0, 1] [2] rfl rfl (by decide) (by decide) (fun _ H locs hP hD hS => ?_)
  have hP : va_P (dC, dI) vwCl [((ad 27), .inr (12, [.ref (ad 28), .ref (ad 29), .ref (ad 30), .ref (ad 31), .ref (ad 32), .ref (ad 33), .ref (ad 34), .ref (ad 35), .ref (ad 36), .int 0, .int 0, .int 10, .int 0, .int 0, .int (-9), .int 0, .ref (ad 37), .ref (ad 38), .ref (ad 39), .ref (ad 40), .int 0, .int 0, .int 0, .ref (ad 41), .int 0, .int 0, .int 0, .int (-9), .int 0, .ref (ad 42), .int 0, .int 0, .int 0, .ref (ad 43), .ref (ad 44), .ref (ad 45), .int 0, .int 0]))] H := hP
  have hD : va_D A [((ad 27), .inr (12, [.ref (ad 28), .ref (ad 29), .ref (ad 30), .ref (ad 31), .ref (ad 32), .ref (ad 33), .ref (ad 34), .ref (ad 35), .ref (ad 36), .int 0, .int 0, .int 10, .int 0, .int 0, .int (-9), .int 0, .ref (ad 37), .ref (ad 38), .ref (ad 39), .ref (ad 40), .int 0, .int 0, .int 0, .ref (ad 41), .int 0, .int 0, .int 0, .int (-9), .int 0, .ref (ad 42), .int 0, .int 0, .int 0, .ref (ad 43), .ref (ad 44), .ref (ad 45), .int 0, .int 0]))] := hD
  refine lv_aload_n hx hb dL_law_849 rfl (lv_at hl 1 rfl) ?_
  refine lv_aload_n hx hb dL_law_850 rfl (lv_at hl 3 rfl) ?_
  refine lv_iload_n hx hb dL_law_851 rfl (lv_at hl 0 rfl) ?_
  refine lv_iconst (v := 1) hx hb dL_law_852 (by decide) ?_
  refine lv_iadd hx hb dL_law_853 ?_
  refine lv_topi (fun y4 ey4 => ?_)
  obtain rfl : y4 = 1 := ey4.trans (by decide)
  refine va_sld hx hb hX hbl hbA hS (by unfold vp_in; decide) dL_law_854 ?_
  refine lv_topi (fun y5 ey5 => ?_)
  obtain rfl : 0 = y5 := (ey5.trans hxs1).symm
  refine z_calli (wc := [((ad 27), .inr (12, [.ref (ad 28), .ref (ad 29), .ref (ad 30), .ref (ad 31), .ref (ad 32), .ref (ad 33), .ref (ad 34), .ref (ad 35), .ref (ad 36), .int 0, .int 0, .int 10, .int 0, .int 0, .int (-9), .int 0, .ref (ad 37), .ref (ad 38), .ref (ad 39), .ref (ad 40), .int 0, .int 0, .int 0, .ref (ad 41), .int 0, .int 0, .int 0, .int (-9), .int 0, .ref (ad 42), .int 0, .int 0, .int 0, .ref (ad 43), .ref (ad 44), .ref (ad 45), .int 0, .int 0]))]) (wr := []) (w1 := (fun _ => [])) (va_runV (As := [.int 0]) (rest := [.int 0]) ⟨hx, hb, hml, hown, hts⟩ (kX12_count_1 l dC dI cI cQ (ad 27) (ad 28) (ad 29) (ad 30) (ad 31) (ad 32) (ad 33) (ad 34) (ad 35) (ad 36) (ad 37) (ad 38) (ad 39) (ad 40) (ad 41) (ad 42) (ad 43) (ad 44) (ad 45) H.size) (cwV 1 hts gv_L_law_X12_count_144 rfl rfl rfl (by decide +kernel) ⟨Nat.le_of_ble_eq_true rfl, Nat.le_of_ble_eq_true rfl⟩) ⟨z_blind, va_recv hK hP (ci := 12) (q0 := 0) rfl rfl, z_pre hZ hP hD [0] rfl (by decide)⟩ rfl rfl hl.1 rfl (lv_room (Nat.le_of_ble_eq_true rfl)) dL_law_855 ⟨Nat.le_of_ble_eq_true rfl, Nat.le_of_ble_eq_true rfl⟩) hP hD hS hA [0] [] rfl rfl (by decide) (by decide) (fun _ H locs hP hD hS => ?_)
  have hP : va_P (dC, dI) vwCl [] H := hP
  have hD : va_D A [] := hD
  refine lv_icmp_eq (tgt := 863) hx hb dL_law_858 (by decide) (fun hc => ?_) (fun hc => ?_)
  rotate_left; exact absurd hc (by decide)
  exact hend _ _ hS
set_option maxHeartbeats 4000000 in
set_option maxRecDepth 100000 in
theorem lc_31_61 {p : Program} {l : Launch} {e : Env} {s : State} {m : MethodId} {below : List Frame} {meth : Method} {c : Code} {b : Nat} {xs : Nat → Int32} {dC : Nat → ClassId} {dI : Nat → Nat → Nat} {cI cQ : ClassId} {A : Nat → Prop} {Q : State → Prop} (hx : p.tables.exec = Jvm.exec) (hb : c.code = cL_law) (hml : c.maxLocals = 4) (hown : s.vm.findClass RL = some m.cls) (hts : ∀ w ∈ vsL, w.before #[Value.ref b] s = true) (hX : va_X b 3 xs s s.heap) (hbl : b < s.heap.size) (hbA : ¬ A b) (hA : ∀ q : Nat, s.heap.size ≤ q → A q) (hZ : zK dC dI cI cQ s) {ad : Nat → Nat} {H : Heap} {locs : List Loc} {ls : Array Slot} (hP : va_P (dC, dI) vwCl (zF cI cQ ad) H) (hD : va_D A (zF cI cQ ad)) (hS : va_S A s.heap H locs) (hl : lv_has ls 4 [(3, .int 0), (2, .ref (ad 27)), (1, .ref (ad 0)), (0, .ref b)]) (hxs1 : xs 1 = 1) (hend : ∀ (H : Heap) (locs : List Loc), va_S A s.heap H locs → W p l e room_1 s m #[Value.ref b] below meth c H locs 46 1336 Q (F0 m 863 ls [])) : W p l e room_1 s m #[Value.ref b] below meth c H locs 46 1336 Q (F0 m 840 ls []) := by
  have hP := hP.sub (ws' := [((ad 0), .inr (11, [.ref (ad 1), .ref (ad 10), .int 0, .ref (ad 19), .ref (ad 20), .ref (ad 23), .ref (ad 25), .int 0, .ref (ad 26)])), ((ad 1), .inr (7, [.ref (ad 2), .ref (ad 3), .ref (ad 4), .int 0, .ref (ad 5), .ref (ad 6), .ref (ad 7), .ref (ad 8), .int 0, .int 0, .int 10, .ref (ad 9)])), ((ad 27), .inr (12, [.ref (ad 28), .ref (ad 29), .ref (ad 30), .ref (ad 31), .ref (ad 32), .ref (ad 33), .ref (ad 34), .ref (ad 35), .ref (ad 36), .int 0, .int 0, .int 10, .int 0, .int 0, .int (-9), .int 0, .ref (ad 37), .ref (ad 38), .ref (ad 39), .ref (ad 40), .int 0, .int 0, .int 0, .ref (ad 41), .int 0, .int 0, .int 0, .int (-9), .int 0, .ref (ad 42), .int 0, .int 0, .int 0, .ref (ad 43), .ref (ad 44), .ref (ad 45), .int 0, .int 0]))]) [0, 1, 27] rfl
  have hD := hD.sub (ws' := [((ad 0), .inr (11, [.ref (ad 1), .ref (ad 10), .int 0, .ref (ad 19), .ref (ad 20), .ref (ad 23), .ref (ad 25), .int 0, .ref (ad 26)])), ((ad 1), .inr (7, [.ref (ad 2), .ref (ad 3), .ref (ad 4), .int 0, .ref (ad 5), .ref (ad 6), .ref (ad 7), .ref (ad 8), .int 0, .int 0, .int 10, .ref (ad 9)])), ((ad 27), .inr (12, [.ref (ad 28), .ref (ad 29), .ref (ad 30), .ref (ad 31), .ref (ad 32), .ref (ad 33), .ref (ad 34), .ref (ad 35), .ref (ad 36), .int 0, .int 0, .int 10, .int 0, .int 0, .int (-9), .int 0, .ref (ad 37), .ref (ad 38), .ref (ad 39), .ref (ad 40), .int 0, .int 0, .int 0, .ref (ad 41), .int 0, .int 0, .int 0, .int (-9), .int 0, .ref (ad 42), .int 0, .int 0, .int 0, .ref (ad 43), .ref (ad 44), .ref (ad 45), .int 0, .int 0]))]) [0, 1, 27] (by decide) rfl
  have hK := hZ.1
  refine lv_aload_n hx hb dL_law_840 rfl (lv_at hl 2 rfl) ?_
  refine lv_aload_n hx hb dL_law_841 rfl (lv_at hl 3 rfl) ?_
  refine lv_iload_n hx hb dL_law_842 rfl (lv_at hl 0 rfl) ?_
  refine lv_iconst (v := 1) hx hb dL_law_843 (by decide) ?_
  refine lv_iadd hx hb dL_law_844 ?_
  refine lv_topi (fun y1 ey1 => ?_)
  obtain rfl : y1 = 1 := ey1.trans (by decide)
  refine va_sld hx hb hX hbl hbA hS (by unfold vp_in; decide) dL_law_845 ?_
  refine lv_topi (fun y2 ey2 => ?_)
  obtain rfl : 1 = y2 := (ey2.trans hxs1).symm
  refine z_calli (wc := [((ad 0), .inr (11, [.ref (ad 1), .ref (ad 10), .int 0, .ref (ad 19), .ref (ad 20), .ref (ad 23), .ref (ad 25), .int 0, .ref (ad 26)])), ((ad 1), .inr (7, [.ref (ad 2), .ref (ad 3), .ref (ad 4), .int 0, .ref (ad 5), .ref (ad 6), .ref (ad 7), .ref (ad 8), .int 0, .int 0, .int 10, .ref (ad 9)]))]) (wr := [((ad 27), .inr (12, [.ref (ad 28), .ref (ad 29), .ref (ad 30), .ref (ad 31), .ref (ad 32), .ref (ad 33), .ref (ad 34), .ref (ad 35), .ref (ad 36), .int 0, .int 0, .int 10, .int 0, .int 0, .int (-9), .int 0, .ref (ad 37), .ref (ad 38), .ref (ad 39), .ref (ad 40), .int 0, .int 0, .int 0, .ref (ad 41), .int 0, .int 0, .int 0, .int (-9), .int 0, .ref (ad 42), .int 0, .int 0, .int 0, .ref (ad 43), .ref (ad 44), .ref (ad 45), .int 0, .int 0]))]) (w1 := (fun _ => [])) (va_runV (As := [.int 1]) (rest := []) ⟨hx, hb, hml, hown, hts⟩ (kX11_count_2 l dC dI cI cQ (ad 0) (ad 1) (ad 10) (ad 19) (ad 20) (ad 23) (ad 25) (ad 26) (ad 2) (ad 3) (ad 4) (ad 5) (ad 6) (ad 7) (ad 8) (ad 9) H.size) (cwV 1 hts gv_L_law_X11_count_141 rfl rfl rfl (by decide +kernel) ⟨Nat.le_of_ble_eq_true rfl, Nat.le_of_ble_eq_true rfl⟩) ⟨z_blind, va_recv hK hP (ci := 11) (q0 := 0) rfl rfl, z_pre hZ hP hD [0, 1] rfl (by decide)⟩ rfl rfl hl.1 rfl (lv_room (Nat.le_of_ble_eq_true rfl)) dL_law_846 ⟨Nat.le_of_ble_eq_true rfl, Nat.le_of_ble_eq_true rfl⟩) hP hD hS hA [0, 1] [2] rfl rfl (by decide) (by decide) (fun _ H locs hP hD hS => ?_)
  have hP : va_P (dC, dI) vwCl [((ad 27), .inr (12, [.ref (ad 28), .ref (ad 29), .ref (ad 30), .ref (ad 31), .ref (ad 32), .ref (ad 33), .ref (ad 34), .ref (ad 35), .ref (ad 36), .int 0, .int 0, .int 10, .int 0, .int 0, .int (-9), .int 0, .ref (ad 37), .ref (ad 38), .ref (ad 39), .ref (ad 40), .int 0, .int 0, .int 0, .ref (ad 41), .int 0, .int 0, .int 0, .int (-9), .int 0, .ref (ad 42), .int 0, .int 0, .int 0, .ref (ad 43), .ref (ad 44), .ref (ad 45), .int 0, .int 0]))] H := hP
  have hD : va_D A [((ad 27), .inr (12, [.ref (ad 28), .ref (ad 29), .ref (ad 30), .ref (ad 31), .ref (ad 32), .ref (ad 33), .ref (ad 34), .ref (ad 35), .ref (ad 36), .int 0, .int 0, .int 10, .int 0, .int 0, .int (-9), .int 0, .ref (ad 37), .ref (ad 38), .ref (ad 39), .ref (ad 40), .int 0, .int 0, .int 0, .ref (ad 41), .int 0, .int 0, .int 0, .int (-9), .int 0, .ref (ad 42), .int 0, .int 0, .int 0, .ref (ad 43), .ref (ad 44), .ref (ad 45), .int 0, .int 0]))] := hD
  refine lv_aload_n hx hb dL_law_849 rfl (lv_at hl 1 rfl) ?_
  refine lv_aload_n hx hb dL_law_850 rfl (lv_at hl 3 rfl) ?_
  refine lv_iload_n hx hb dL_law_851 rfl (lv_at hl 0 rfl) ?_
  refine lv_iconst (v := 1) hx hb dL_law_852 (by decide) ?_
  refine lv_iadd hx hb dL_law_853 ?_
  refine lv_topi (fun y4 ey4 => ?_)
  obtain rfl : y4 = 1 := ey4.trans (by decide)
  refine va_sld hx hb hX hbl hbA hS (by unfold vp_in; decide) dL_law_854 ?_
  refine lv_topi (fun y5 ey5 => ?_)
  obtain rfl : 1 = y5 := (ey5.trans hxs1).symm
  refine z_calli (wc := [((ad 27), .inr (12, [.ref (ad 28), .ref (ad 29), .ref (ad 30), .ref (ad 31), .ref (ad 32), .ref (ad 33), .ref (ad 34), .ref (ad 35), .ref (ad 36), .int 0, .int 0, .int 10, .int 0, .int 0, .int (-9), .int 0, .ref (ad 37), .ref (ad 38), .ref (ad 39), .ref (ad 40), .int 0, .int 0, .int 0, .ref (ad 41), .int 0, .int 0, .int 0, .int (-9), .int 0, .ref (ad 42), .int 0, .int 0, .int 0, .ref (ad 43), .ref (ad 44), .ref (ad 45), .int 0, .int 0]))]) (wr := []) (w1 := (fun _ => [])) (va_runV (As := [.int 1]) (rest := [.int 0]) ⟨hx, hb, hml, hown, hts⟩ (kX12_count_2 l dC dI cI cQ (ad 27) (ad 28) (ad 29) (ad 30) (ad 31) (ad 32) (ad 33) (ad 34) (ad 35) (ad 36) (ad 37) (ad 38) (ad 39) (ad 40) (ad 41) (ad 42) (ad 43) (ad 44) (ad 45) H.size) (cwV 1 hts gv_L_law_X12_count_144 rfl rfl rfl (by decide +kernel) ⟨Nat.le_of_ble_eq_true rfl, Nat.le_of_ble_eq_true rfl⟩) ⟨z_blind, va_recv hK hP (ci := 12) (q0 := 0) rfl rfl, z_pre hZ hP hD [0] rfl (by decide)⟩ rfl rfl hl.1 rfl (lv_room (Nat.le_of_ble_eq_true rfl)) dL_law_855 ⟨Nat.le_of_ble_eq_true rfl, Nat.le_of_ble_eq_true rfl⟩) hP hD hS hA [0] [] rfl rfl (by decide) (by decide) (fun _ H locs hP hD hS => ?_)
  have hP : va_P (dC, dI) vwCl [] H := hP
  have hD : va_D A [] := hD
  refine lv_icmp_eq (tgt := 863) hx hb dL_law_858 (by decide) (fun hc => ?_) (fun hc => ?_)
  rotate_left; exact absurd hc (by decide)
  exact hend _ _ hS
set_option maxHeartbeats 4000000 in
set_option maxRecDepth 100000 in
theorem lc_31_62 {p : Program} {l : Launch} {e : Env} {s : State} {m : MethodId} {below : List Frame} {meth : Method} {c : Code} {b : Nat} {xs : Nat → Int32} {dC : Nat → ClassId} {dI : Nat → Nat → Nat} {cI cQ : ClassId} {A : Nat → Prop} {Q : State → Prop} (hx : p.tables.exec = Jvm.exec) (hb : c.code = cL_law) (hml : c.maxLocals = 4) (hown : s.vm.findClass RL = some m.cls) (hts : ∀ w ∈ vsL, w.before #[Value.ref b] s = true) (hX : va_X b 3 xs s s.heap) (hbl : b < s.heap.size) (hbA : ¬ A b) (hA : ∀ q : Nat, s.heap.size ≤ q → A q) (hZ : zK dC dI cI cQ s) {ad : Nat → Nat} {H : Heap} {locs : List Loc} {ls : Array Slot} (hP : va_P (dC, dI) vwCl (zF cI cQ ad) H) (hD : va_D A (zF cI cQ ad)) (hS : va_S A s.heap H locs) (hl : lv_has ls 4 [(3, .int 0), (2, .ref (ad 27)), (1, .ref (ad 0)), (0, .ref b)]) (hxs1 : xs 1 = 2) (hend : ∀ (H : Heap) (locs : List Loc), va_S A s.heap H locs → W p l e room_1 s m #[Value.ref b] below meth c H locs 46 1336 Q (F0 m 863 ls [])) : W p l e room_1 s m #[Value.ref b] below meth c H locs 46 1336 Q (F0 m 840 ls []) := by
  have hP := hP.sub (ws' := [((ad 0), .inr (11, [.ref (ad 1), .ref (ad 10), .int 0, .ref (ad 19), .ref (ad 20), .ref (ad 23), .ref (ad 25), .int 0, .ref (ad 26)])), ((ad 1), .inr (7, [.ref (ad 2), .ref (ad 3), .ref (ad 4), .int 0, .ref (ad 5), .ref (ad 6), .ref (ad 7), .ref (ad 8), .int 0, .int 0, .int 10, .ref (ad 9)])), ((ad 9), .inr (9, [.int 0, .int 0, .int (-9), .int 0, .int 0])), ((ad 27), .inr (12, [.ref (ad 28), .ref (ad 29), .ref (ad 30), .ref (ad 31), .ref (ad 32), .ref (ad 33), .ref (ad 34), .ref (ad 35), .ref (ad 36), .int 0, .int 0, .int 10, .int 0, .int 0, .int (-9), .int 0, .ref (ad 37), .ref (ad 38), .ref (ad 39), .ref (ad 40), .int 0, .int 0, .int 0, .ref (ad 41), .int 0, .int 0, .int 0, .int (-9), .int 0, .ref (ad 42), .int 0, .int 0, .int 0, .ref (ad 43), .ref (ad 44), .ref (ad 45), .int 0, .int 0]))]) [0, 1, 9, 27] rfl
  have hD := hD.sub (ws' := [((ad 0), .inr (11, [.ref (ad 1), .ref (ad 10), .int 0, .ref (ad 19), .ref (ad 20), .ref (ad 23), .ref (ad 25), .int 0, .ref (ad 26)])), ((ad 1), .inr (7, [.ref (ad 2), .ref (ad 3), .ref (ad 4), .int 0, .ref (ad 5), .ref (ad 6), .ref (ad 7), .ref (ad 8), .int 0, .int 0, .int 10, .ref (ad 9)])), ((ad 9), .inr (9, [.int 0, .int 0, .int (-9), .int 0, .int 0])), ((ad 27), .inr (12, [.ref (ad 28), .ref (ad 29), .ref (ad 30), .ref (ad 31), .ref (ad 32), .ref (ad 33), .ref (ad 34), .ref (ad 35), .ref (ad 36), .int 0, .int 0, .int 10, .int 0, .int 0, .int (-9), .int 0, .ref (ad 37), .ref (ad 38), .ref (ad 39), .ref (ad 40), .int 0, .int 0, .int 0, .ref (ad 41), .int 0, .int 0, .int 0, .int (-9), .int 0, .ref (ad 42), .int 0, .int 0, .int 0, .ref (ad 43), .ref (ad 44), .ref (ad 45), .int 0, .int 0]))]) [0, 1, 9, 27] (by decide) rfl
  have hK := hZ.1
  refine lv_aload_n hx hb dL_law_840 rfl (lv_at hl 2 rfl) ?_
  refine lv_aload_n hx hb dL_law_841 rfl (lv_at hl 3 rfl) ?_
  refine lv_iload_n hx hb dL_law_842 rfl (lv_at hl 0 rfl) ?_
  refine lv_iconst (v := 1) hx hb dL_law_843 (by decide) ?_
  refine lv_iadd hx hb dL_law_844 ?_
  refine lv_topi (fun y1 ey1 => ?_)
  obtain rfl : y1 = 1 := ey1.trans (by decide)
  refine va_sld hx hb hX hbl hbA hS (by unfold vp_in; decide) dL_law_845 ?_
  refine lv_topi (fun y2 ey2 => ?_)
  obtain rfl : 2 = y2 := (ey2.trans hxs1).symm
  refine z_calli (wc := [((ad 0), .inr (11, [.ref (ad 1), .ref (ad 10), .int 0, .ref (ad 19), .ref (ad 20), .ref (ad 23), .ref (ad 25), .int 0, .ref (ad 26)])), ((ad 1), .inr (7, [.ref (ad 2), .ref (ad 3), .ref (ad 4), .int 0, .ref (ad 5), .ref (ad 6), .ref (ad 7), .ref (ad 8), .int 0, .int 0, .int 10, .ref (ad 9)])), ((ad 9), .inr (9, [.int 0, .int 0, .int (-9), .int 0, .int 0]))]) (wr := [((ad 27), .inr (12, [.ref (ad 28), .ref (ad 29), .ref (ad 30), .ref (ad 31), .ref (ad 32), .ref (ad 33), .ref (ad 34), .ref (ad 35), .ref (ad 36), .int 0, .int 0, .int 10, .int 0, .int 0, .int (-9), .int 0, .ref (ad 37), .ref (ad 38), .ref (ad 39), .ref (ad 40), .int 0, .int 0, .int 0, .ref (ad 41), .int 0, .int 0, .int 0, .int (-9), .int 0, .ref (ad 42), .int 0, .int 0, .int 0, .ref (ad 43), .ref (ad 44), .ref (ad 45), .int 0, .int 0]))]) (w1 := (fun _ => [])) (va_runV (As := [.int 2]) (rest := []) ⟨hx, hb, hml, hown, hts⟩ (kX11_count_3 l dC dI cI cQ (ad 0) (ad 1) (ad 9) (ad 10) (ad 19) (ad 20) (ad 23) (ad 25) (ad 26) (ad 2) (ad 3) (ad 4) (ad 5) (ad 6) (ad 7) (ad 8) H.size) (cwV 1 hts gv_L_law_X11_count_141 rfl rfl rfl (by decide +kernel) ⟨Nat.le_of_ble_eq_true rfl, Nat.le_of_ble_eq_true rfl⟩) ⟨z_blind, va_recv hK hP (ci := 11) (q0 := 0) rfl rfl, z_pre hZ hP hD [0, 1, 2] rfl (by decide)⟩ rfl rfl hl.1 rfl (lv_room (Nat.le_of_ble_eq_true rfl)) dL_law_846 ⟨Nat.le_of_ble_eq_true rfl, Nat.le_of_ble_eq_true rfl⟩) hP hD hS hA [0, 1, 2] [3] rfl rfl (by decide) (by decide) (fun _ H locs hP hD hS => ?_)
  have hP : va_P (dC, dI) vwCl [((ad 27), .inr (12, [.ref (ad 28), .ref (ad 29), .ref (ad 30), .ref (ad 31), .ref (ad 32), .ref (ad 33), .ref (ad 34), .ref (ad 35), .ref (ad 36), .int 0, .int 0, .int 10, .int 0, .int 0, .int (-9), .int 0, .ref (ad 37), .ref (ad 38), .ref (ad 39), .ref (ad 40), .int 0, .int 0, .int 0, .ref (ad 41), .int 0, .int 0, .int 0, .int (-9), .int 0, .ref (ad 42), .int 0, .int 0, .int 0, .ref (ad 43), .ref (ad 44), .ref (ad 45), .int 0, .int 0]))] H := hP
  have hD : va_D A [((ad 27), .inr (12, [.ref (ad 28), .ref (ad 29), .ref (ad 30), .ref (ad 31), .ref (ad 32), .ref (ad 33), .ref (ad 34), .ref (ad 35), .ref (ad 36), .int 0, .int 0, .int 10, .int 0, .int 0, .int (-9), .int 0, .ref (ad 37), .ref (ad 38), .ref (ad 39), .ref (ad 40), .int 0, .int 0, .int 0, .ref (ad 41), .int 0, .int 0, .int 0, .int (-9), .int 0, .ref (ad 42), .int 0, .int 0, .int 0, .ref (ad 43), .ref (ad 44), .ref (ad 45), .int 0, .int 0]))] := hD
  refine lv_aload_n hx hb dL_law_849 rfl (lv_at hl 1 rfl) ?_
  refine lv_aload_n hx hb dL_law_850 rfl (lv_at hl 3 rfl) ?_
  refine lv_iload_n hx hb dL_law_851 rfl (lv_at hl 0 rfl) ?_
  refine lv_iconst (v := 1) hx hb dL_law_852 (by decide) ?_
  refine lv_iadd hx hb dL_law_853 ?_
  refine lv_topi (fun y4 ey4 => ?_)
  obtain rfl : y4 = 1 := ey4.trans (by decide)
  refine va_sld hx hb hX hbl hbA hS (by unfold vp_in; decide) dL_law_854 ?_
  refine lv_topi (fun y5 ey5 => ?_)
  obtain rfl : 2 = y5 := (ey5.trans hxs1).symm
  refine z_calli (wc := [((ad 27), .inr (12, [.ref (ad 28), .ref (ad 29), .ref (ad 30), .ref (ad 31), .ref (ad 32), .ref (ad 33), .ref (ad 34), .ref (ad 35), .ref (ad 36), .int 0, .int 0, .int 10, .int 0, .int 0, .int (-9), .int 0, .ref (ad 37), .ref (ad 38), .ref (ad 39), .ref (ad 40), .int 0, .int 0, .int 0, .ref (ad 41), .int 0, .int 0, .int 0, .int (-9), .int 0, .ref (ad 42), .int 0, .int 0, .int 0, .ref (ad 43), .ref (ad 44), .ref (ad 45), .int 0, .int 0]))]) (wr := []) (w1 := (fun _ => [])) (va_runV (As := [.int 2]) (rest := [.int 0]) ⟨hx, hb, hml, hown, hts⟩ (kX12_count_3 l dC dI cI cQ (ad 27) (ad 28) (ad 29) (ad 30) (ad 31) (ad 32) (ad 33) (ad 34) (ad 35) (ad 36) (ad 37) (ad 38) (ad 39) (ad 40) (ad 41) (ad 42) (ad 43) (ad 44) (ad 45) H.size) (cwV 1 hts gv_L_law_X12_count_144 rfl rfl rfl (by decide +kernel) ⟨Nat.le_of_ble_eq_true rfl, Nat.le_of_ble_eq_true rfl⟩) ⟨z_blind, va_recv hK hP (ci := 12) (q0 := 0) rfl rfl, z_pre hZ hP hD [0] rfl (by decide)⟩ rfl rfl hl.1 rfl (lv_room (Nat.le_of_ble_eq_true rfl)) dL_law_855 ⟨Nat.le_of_ble_eq_true rfl, Nat.le_of_ble_eq_true rfl⟩) hP hD hS hA [0] [] rfl rfl (by decide) (by decide) (fun _ H locs hP hD hS => ?_)
  have hP : va_P (dC, dI) vwCl [] H := hP
  have hD : va_D A [] := hD
  refine lv_icmp_eq (tgt := 863) hx hb dL_law_858 (by decide) (fun hc => ?_) (fun hc => ?_)
  rotate_left; exact absurd hc (by decide)
  exact hend _ _ hS
set_option maxHeartbeats 4000000 in
set_option maxRecDepth 100000 in
theorem lc_31_63 {p : Program} {l : Launch} {e : Env} {s : State} {m : MethodId} {below : List Frame} {meth : Method} {c : Code} {b : Nat} {xs : Nat → Int32} {dC : Nat → ClassId} {dI : Nat → Nat → Nat} {cI cQ : ClassId} {A : Nat → Prop} {Q : State → Prop} (hx : p.tables.exec = Jvm.exec) (hb : c.code = cL_law) (hml : c.maxLocals = 4) (hown : s.vm.findClass RL = some m.cls) (hts : ∀ w ∈ vsL, w.before #[Value.ref b] s = true) (hX : va_X b 3 xs s s.heap) (hbl : b < s.heap.size) (hbA : ¬ A b) (hA : ∀ q : Nat, s.heap.size ≤ q → A q) (hZ : zK dC dI cI cQ s) {ad : Nat → Nat} {H : Heap} {locs : List Loc} {ls : Array Slot} (hP : va_P (dC, dI) vwCl (zF cI cQ ad) H) (hD : va_D A (zF cI cQ ad)) (hS : va_S A s.heap H locs) (hl : lv_has ls 4 [(3, .int 0), (2, .ref (ad 27)), (1, .ref (ad 0)), (0, .ref b)]) (hxs1 : xs 1 = 3) (hend : ∀ (H : Heap) (locs : List Loc), va_S A s.heap H locs → W p l e room_1 s m #[Value.ref b] below meth c H locs 46 1336 Q (F0 m 863 ls [])) : W p l e room_1 s m #[Value.ref b] below meth c H locs 46 1336 Q (F0 m 840 ls []) := by
  have hP := hP.sub (ws' := [((ad 0), .inr (11, [.ref (ad 1), .ref (ad 10), .int 0, .ref (ad 19), .ref (ad 20), .ref (ad 23), .ref (ad 25), .int 0, .ref (ad 26)])), ((ad 1), .inr (7, [.ref (ad 2), .ref (ad 3), .ref (ad 4), .int 0, .ref (ad 5), .ref (ad 6), .ref (ad 7), .ref (ad 8), .int 0, .int 0, .int 10, .ref (ad 9)])), ((ad 9), .inr (9, [.int 0, .int 0, .int (-9), .int 0, .int 0])), ((ad 27), .inr (12, [.ref (ad 28), .ref (ad 29), .ref (ad 30), .ref (ad 31), .ref (ad 32), .ref (ad 33), .ref (ad 34), .ref (ad 35), .ref (ad 36), .int 0, .int 0, .int 10, .int 0, .int 0, .int (-9), .int 0, .ref (ad 37), .ref (ad 38), .ref (ad 39), .ref (ad 40), .int 0, .int 0, .int 0, .ref (ad 41), .int 0, .int 0, .int 0, .int (-9), .int 0, .ref (ad 42), .int 0, .int 0, .int 0, .ref (ad 43), .ref (ad 44), .ref (ad 45), .int 0, .int 0]))]) [0, 1, 9, 27] rfl
  have hD := hD.sub (ws' := [((ad 0), .inr (11, [.ref (ad 1), .ref (ad 10), .int 0, .ref (ad 19), .ref (ad 20), .ref (ad 23), .ref (ad 25), .int 0, .ref (ad 26)])), ((ad 1), .inr (7, [.ref (ad 2), .ref (ad 3), .ref (ad 4), .int 0, .ref (ad 5), .ref (ad 6), .ref (ad 7), .ref (ad 8), .int 0, .int 0, .int 10, .ref (ad 9)])), ((ad 9), .inr (9, [.int 0, .int 0, .int (-9), .int 0, .int 0])), ((ad 27), .inr (12, [.ref (ad 28), .ref (ad 29), .ref (ad 30), .ref (ad 31), .ref (ad 32), .ref (ad 33), .ref (ad 34), .ref (ad 35), .ref (ad 36), .int 0, .int 0, .int 10, .int 0, .int 0, .int (-9), .int 0, .ref (ad 37), .ref (ad 38), .ref (ad 39), .ref (ad 40), .int 0, .int 0, .int 0, .ref (ad 41), .int 0, .int 0, .int 0, .int (-9), .int 0, .ref (ad 42), .int 0, .int 0, .int 0, .ref (ad 43), .ref (ad 44), .ref (ad 45), .int 0, .int 0]))]) [0, 1, 9, 27] (by decide) rfl
  have hK := hZ.1
  refine lv_aload_n hx hb dL_law_840 rfl (lv_at hl 2 rfl) ?_
  refine lv_aload_n hx hb dL_law_841 rfl (lv_at hl 3 rfl) ?_
  refine lv_iload_n hx hb dL_law_842 rfl (lv_at hl 0 rfl) ?_
  refine lv_iconst (v := 1) hx hb dL_law_843 (by decide) ?_
  refine lv_iadd hx hb dL_law_844 ?_
  refine lv_topi (fun y1 ey1 => ?_)
  obtain rfl : y1 = 1 := ey1.trans (by decide)
  refine va_sld hx hb hX hbl hbA hS (by unfold vp_in; decide) dL_law_845 ?_
  refine lv_topi (fun y2 ey2 => ?_)
  obtain rfl : 3 = y2 := (ey2.trans hxs1).symm
  refine z_calli (wc := [((ad 0), .inr (11, [.ref (ad 1), .ref (ad 10), .int 0, .ref (ad 19), .ref (ad 20), .ref (ad 23), .ref (ad 25), .int 0, .ref (ad 26)])), ((ad 1), .inr (7, [.ref (ad 2), .ref (ad 3), .ref (ad 4), .int 0, .ref (ad 5), .ref (ad 6), .ref (ad 7), .ref (ad 8), .int 0, .int 0, .int 10, .ref (ad 9)])), ((ad 9), .inr (9, [.int 0, .int 0, .int (-9), .int 0, .int 0]))]) (wr := [((ad 27), .inr (12, [.ref (ad 28), .ref (ad 29), .ref (ad 30), .ref (ad 31), .ref (ad 32), .ref (ad 33), .ref (ad 34), .ref (ad 35), .ref (ad 36), .int 0, .int 0, .int 10, .int 0, .int 0, .int (-9), .int 0, .ref (ad 37), .ref (ad 38), .ref (ad 39), .ref (ad 40), .int 0, .int 0, .int 0, .ref (ad 41), .int 0, .int 0, .int 0, .int (-9), .int 0, .ref (ad 42), .int 0, .int 0, .int 0, .ref (ad 43), .ref (ad 44), .ref (ad 45), .int 0, .int 0]))]) (w1 := (fun _ => [])) (va_runV (As := [.int 3]) (rest := []) ⟨hx, hb, hml, hown, hts⟩ (kX11_count_4 l dC dI cI cQ (ad 0) (ad 1) (ad 9) (ad 10) (ad 19) (ad 20) (ad 23) (ad 25) (ad 26) (ad 2) (ad 3) (ad 4) (ad 5) (ad 6) (ad 7) (ad 8) H.size) (cwV 1 hts gv_L_law_X11_count_141 rfl rfl rfl (by decide +kernel) ⟨Nat.le_of_ble_eq_true rfl, Nat.le_of_ble_eq_true rfl⟩) ⟨z_blind, va_recv hK hP (ci := 11) (q0 := 0) rfl rfl, z_pre hZ hP hD [0, 1, 2] rfl (by decide)⟩ rfl rfl hl.1 rfl (lv_room (Nat.le_of_ble_eq_true rfl)) dL_law_846 ⟨Nat.le_of_ble_eq_true rfl, Nat.le_of_ble_eq_true rfl⟩) hP hD hS hA [0, 1, 2] [3] rfl rfl (by decide) (by decide) (fun _ H locs hP hD hS => ?_)
  have hP : va_P (dC, dI) vwCl [((ad 27), .inr (12, [.ref (ad 28), .ref (ad 29), .ref (ad 30), .ref (ad 31), .ref (ad 32), .ref (ad 33), .ref (ad 34), .ref (ad 35), .ref (ad 36), .int 0, .int 0, .int 10, .int 0, .int 0, .int (-9), .int 0, .ref (ad 37), .ref (ad 38), .ref (ad 39), .ref (ad 40), .int 0, .int 0, .int 0, .ref (ad 41), .int 0, .int 0, .int 0, .int (-9), .int 0, .ref (ad 42), .int 0, .int 0, .int 0, .ref (ad 43), .ref (ad 44), .ref (ad 45), .int 0, .int 0]))] H := hP
  have hD : va_D A [((ad 27), .inr (12, [.ref (ad 28), .ref (ad 29), .ref (ad 30), .ref (ad 31), .ref (ad 32), .ref (ad 33), .ref (ad 34), .ref (ad 35), .ref (ad 36), .int 0, .int 0, .int 10, .int 0, .int 0, .int (-9), .int 0, .ref (ad 37), .ref (ad 38), .ref (ad 39), .ref (ad 40), .int 0, .int 0, .int 0, .ref (ad 41), .int 0, .int 0, .int 0, .int (-9), .int 0, .ref (ad 42), .int 0, .int 0, .int 0, .ref (ad 43), .ref (ad 44), .ref (ad 45), .int 0, .int 0]))] := hD
  refine lv_aload_n hx hb dL_law_849 rfl (lv_at hl 1 rfl) ?_
  refine lv_aload_n hx hb dL_law_850 rfl (lv_at hl 3 rfl) ?_
  refine lv_iload_n hx hb dL_law_851 rfl (lv_at hl 0 rfl) ?_
  refine lv_iconst (v := 1) hx hb dL_law_852 (by decide) ?_
  refine lv_iadd hx hb dL_law_853 ?_
  refine lv_topi (fun y4 ey4 => ?_)
  obtain rfl : y4 = 1 := ey4.trans (by decide)
  refine va_sld hx hb hX hbl hbA hS (by unfold vp_in; decide) dL_law_854 ?_
  refine lv_topi (fun y5 ey5 => ?_)
  obtain rfl : 3 = y5 := (ey5.trans hxs1).symm
  refine z_calli (wc := [((ad 27), .inr (12, [.ref (ad 28), .ref (ad 29), .ref (ad 30), .ref (ad 31), .ref (ad 32), .ref (ad 33), .ref (ad 34), .ref (ad 35), .ref (ad 36), .int 0, .int 0, .int 10, .int 0, .int 0, .int (-9), .int 0, .ref (ad 37), .ref (ad 38), .ref (ad 39), .ref (ad 40), .int 0, .int 0, .int 0, .ref (ad 41), .int 0, .int 0, .int 0, .int (-9), .int 0, .ref (ad 42), .int 0, .int 0, .int 0, .ref (ad 43), .ref (ad 44), .ref (ad 45), .int 0, .int 0]))]) (wr := []) (w1 := (fun _ => [])) (va_runV (As := [.int 3]) (rest := [.int (-9)]) ⟨hx, hb, hml, hown, hts⟩ (kX12_count_4 l dC dI cI cQ (ad 27) (ad 28) (ad 29) (ad 30) (ad 31) (ad 32) (ad 33) (ad 34) (ad 35) (ad 36) (ad 37) (ad 38) (ad 39) (ad 40) (ad 41) (ad 42) (ad 43) (ad 44) (ad 45) H.size) (cwV 1 hts gv_L_law_X12_count_144 rfl rfl rfl (by decide +kernel) ⟨Nat.le_of_ble_eq_true rfl, Nat.le_of_ble_eq_true rfl⟩) ⟨z_blind, va_recv hK hP (ci := 12) (q0 := 0) rfl rfl, z_pre hZ hP hD [0] rfl (by decide)⟩ rfl rfl hl.1 rfl (lv_room (Nat.le_of_ble_eq_true rfl)) dL_law_855 ⟨Nat.le_of_ble_eq_true rfl, Nat.le_of_ble_eq_true rfl⟩) hP hD hS hA [0] [] rfl rfl (by decide) (by decide) (fun _ H locs hP hD hS => ?_)
  have hP : va_P (dC, dI) vwCl [] H := hP
  have hD : va_D A [] := hD
  refine lv_icmp_eq (tgt := 863) hx hb dL_law_858 (by decide) (fun hc => ?_) (fun hc => ?_)
  rotate_left; exact absurd hc (by decide)
  exact hend _ _ hS
set_option maxHeartbeats 4000000 in
set_option maxRecDepth 100000 in
theorem lc_31_64 {p : Program} {l : Launch} {e : Env} {s : State} {m : MethodId} {below : List Frame} {meth : Method} {c : Code} {b : Nat} {xs : Nat → Int32} {dC : Nat → ClassId} {dI : Nat → Nat → Nat} {cI cQ : ClassId} {A : Nat → Prop} {Q : State → Prop} (hx : p.tables.exec = Jvm.exec) (hb : c.code = cL_law) (hml : c.maxLocals = 4) (hown : s.vm.findClass RL = some m.cls) (hts : ∀ w ∈ vsL, w.before #[Value.ref b] s = true) (hX : va_X b 3 xs s s.heap) (hbl : b < s.heap.size) (hbA : ¬ A b) (hA : ∀ q : Nat, s.heap.size ≤ q → A q) (hZ : zK dC dI cI cQ s) {ad : Nat → Nat} {H : Heap} {locs : List Loc} {ls : Array Slot} (hP : va_P (dC, dI) vwCl (zF cI cQ ad) H) (hD : va_D A (zF cI cQ ad)) (hS : va_S A s.heap H locs) (hl : lv_has ls 4 [(3, .int 0), (2, .ref (ad 27)), (1, .ref (ad 0)), (0, .ref b)]) (hxs1 : xs 1 = 4) (hend : ∀ (H : Heap) (locs : List Loc), va_S A s.heap H locs → W p l e room_1 s m #[Value.ref b] below meth c H locs 46 1336 Q (F0 m 863 ls [])) : W p l e room_1 s m #[Value.ref b] below meth c H locs 46 1336 Q (F0 m 840 ls []) := by
  have hP := hP.sub (ws' := [((ad 0), .inr (11, [.ref (ad 1), .ref (ad 10), .int 0, .ref (ad 19), .ref (ad 20), .ref (ad 23), .ref (ad 25), .int 0, .ref (ad 26)])), ((ad 1), .inr (7, [.ref (ad 2), .ref (ad 3), .ref (ad 4), .int 0, .ref (ad 5), .ref (ad 6), .ref (ad 7), .ref (ad 8), .int 0, .int 0, .int 10, .ref (ad 9)])), ((ad 27), .inr (12, [.ref (ad 28), .ref (ad 29), .ref (ad 30), .ref (ad 31), .ref (ad 32), .ref (ad 33), .ref (ad 34), .ref (ad 35), .ref (ad 36), .int 0, .int 0, .int 10, .int 0, .int 0, .int (-9), .int 0, .ref (ad 37), .ref (ad 38), .ref (ad 39), .ref (ad 40), .int 0, .int 0, .int 0, .ref (ad 41), .int 0, .int 0, .int 0, .int (-9), .int 0, .ref (ad 42), .int 0, .int 0, .int 0, .ref (ad 43), .ref (ad 44), .ref (ad 45), .int 0, .int 0]))]) [0, 1, 27] rfl
  have hD := hD.sub (ws' := [((ad 0), .inr (11, [.ref (ad 1), .ref (ad 10), .int 0, .ref (ad 19), .ref (ad 20), .ref (ad 23), .ref (ad 25), .int 0, .ref (ad 26)])), ((ad 1), .inr (7, [.ref (ad 2), .ref (ad 3), .ref (ad 4), .int 0, .ref (ad 5), .ref (ad 6), .ref (ad 7), .ref (ad 8), .int 0, .int 0, .int 10, .ref (ad 9)])), ((ad 27), .inr (12, [.ref (ad 28), .ref (ad 29), .ref (ad 30), .ref (ad 31), .ref (ad 32), .ref (ad 33), .ref (ad 34), .ref (ad 35), .ref (ad 36), .int 0, .int 0, .int 10, .int 0, .int 0, .int (-9), .int 0, .ref (ad 37), .ref (ad 38), .ref (ad 39), .ref (ad 40), .int 0, .int 0, .int 0, .ref (ad 41), .int 0, .int 0, .int 0, .int (-9), .int 0, .ref (ad 42), .int 0, .int 0, .int 0, .ref (ad 43), .ref (ad 44), .ref (ad 45), .int 0, .int 0]))]) [0, 1, 27] (by decide) rfl
  have hK := hZ.1
  refine lv_aload_n hx hb dL_law_840 rfl (lv_at hl 2 rfl) ?_
  refine lv_aload_n hx hb dL_law_841 rfl (lv_at hl 3 rfl) ?_
  refine lv_iload_n hx hb dL_law_842 rfl (lv_at hl 0 rfl) ?_
  refine lv_iconst (v := 1) hx hb dL_law_843 (by decide) ?_
  refine lv_iadd hx hb dL_law_844 ?_
  refine lv_topi (fun y1 ey1 => ?_)
  obtain rfl : y1 = 1 := ey1.trans (by decide)
  refine va_sld hx hb hX hbl hbA hS (by unfold vp_in; decide) dL_law_845 ?_
  refine lv_topi (fun y2 ey2 => ?_)
  obtain rfl : 4 = y2 := (ey2.trans hxs1).symm
  refine z_calli (wc := [((ad 0), .inr (11, [.ref (ad 1), .ref (ad 10), .int 0, .ref (ad 19), .ref (ad 20), .ref (ad 23), .ref (ad 25), .int 0, .ref (ad 26)])), ((ad 1), .inr (7, [.ref (ad 2), .ref (ad 3), .ref (ad 4), .int 0, .ref (ad 5), .ref (ad 6), .ref (ad 7), .ref (ad 8), .int 0, .int 0, .int 10, .ref (ad 9)]))]) (wr := [((ad 27), .inr (12, [.ref (ad 28), .ref (ad 29), .ref (ad 30), .ref (ad 31), .ref (ad 32), .ref (ad 33), .ref (ad 34), .ref (ad 35), .ref (ad 36), .int 0, .int 0, .int 10, .int 0, .int 0, .int (-9), .int 0, .ref (ad 37), .ref (ad 38), .ref (ad 39), .ref (ad 40), .int 0, .int 0, .int 0, .ref (ad 41), .int 0, .int 0, .int 0, .int (-9), .int 0, .ref (ad 42), .int 0, .int 0, .int 0, .ref (ad 43), .ref (ad 44), .ref (ad 45), .int 0, .int 0]))]) (w1 := (fun _ => [])) (va_runV (As := [.int 4]) (rest := []) ⟨hx, hb, hml, hown, hts⟩ (kX11_count_5 l dC dI cI cQ (ad 0) (ad 1) (ad 10) (ad 19) (ad 20) (ad 23) (ad 25) (ad 26) (ad 2) (ad 3) (ad 4) (ad 5) (ad 6) (ad 7) (ad 8) (ad 9) H.size) (cwV 1 hts gv_L_law_X11_count_141 rfl rfl rfl (by decide +kernel) ⟨Nat.le_of_ble_eq_true rfl, Nat.le_of_ble_eq_true rfl⟩) ⟨z_blind, va_recv hK hP (ci := 11) (q0 := 0) rfl rfl, z_pre hZ hP hD [0, 1] rfl (by decide)⟩ rfl rfl hl.1 rfl (lv_room (Nat.le_of_ble_eq_true rfl)) dL_law_846 ⟨Nat.le_of_ble_eq_true rfl, Nat.le_of_ble_eq_true rfl⟩) hP hD hS hA [0, 1] [2] rfl rfl (by decide) (by decide) (fun _ H locs hP hD hS => ?_)
  have hP : va_P (dC, dI) vwCl [((ad 27), .inr (12, [.ref (ad 28), .ref (ad 29), .ref (ad 30), .ref (ad 31), .ref (ad 32), .ref (ad 33), .ref (ad 34), .ref (ad 35), .ref (ad 36), .int 0, .int 0, .int 10, .int 0, .int 0, .int (-9), .int 0, .ref (ad 37), .ref (ad 38), .ref (ad 39), .ref (ad 40), .int 0, .int 0, .int 0, .ref (ad 41), .int 0, .int 0, .int 0, .int (-9), .int 0, .ref (ad 42), .int 0, .int 0, .int 0, .ref (ad 43), .ref (ad 44), .ref (ad 45), .int 0, .int 0]))] H := hP
  have hD : va_D A [((ad 27), .inr (12, [.ref (ad 28), .ref (ad 29), .ref (ad 30), .ref (ad 31), .ref (ad 32), .ref (ad 33), .ref (ad 34), .ref (ad 35), .ref (ad 36), .int 0, .int 0, .int 10, .int 0, .int 0, .int (-9), .int 0, .ref (ad 37), .ref (ad 38), .ref (ad 39), .ref (ad 40), .int 0, .int 0, .int 0, .ref (ad 41), .int 0, .int 0, .int 0, .int (-9), .int 0, .ref (ad 42), .int 0, .int 0, .int 0, .ref (ad 43), .ref (ad 44), .ref (ad 45), .int 0, .int 0]))] := hD
  refine lv_aload_n hx hb dL_law_849 rfl (lv_at hl 1 rfl) ?_
  refine lv_aload_n hx hb dL_law_850 rfl (lv_at hl 3 rfl) ?_
  refine lv_iload_n hx hb dL_law_851 rfl (lv_at hl 0 rfl) ?_
  refine lv_iconst (v := 1) hx hb dL_law_852 (by decide) ?_
  refine lv_iadd hx hb dL_law_853 ?_
  refine lv_topi (fun y4 ey4 => ?_)
  obtain rfl : y4 = 1 := ey4.trans (by decide)
  refine va_sld hx hb hX hbl hbA hS (by unfold vp_in; decide) dL_law_854 ?_
  refine lv_topi (fun y5 ey5 => ?_)
  obtain rfl : 4 = y5 := (ey5.trans hxs1).symm
  refine z_calli (wc := [((ad 27), .inr (12, [.ref (ad 28), .ref (ad 29), .ref (ad 30), .ref (ad 31), .ref (ad 32), .ref (ad 33), .ref (ad 34), .ref (ad 35), .ref (ad 36), .int 0, .int 0, .int 10, .int 0, .int 0, .int (-9), .int 0, .ref (ad 37), .ref (ad 38), .ref (ad 39), .ref (ad 40), .int 0, .int 0, .int 0, .ref (ad 41), .int 0, .int 0, .int 0, .int (-9), .int 0, .ref (ad 42), .int 0, .int 0, .int 0, .ref (ad 43), .ref (ad 44), .ref (ad 45), .int 0, .int 0]))]) (wr := []) (w1 := (fun _ => [])) (va_runV (As := [.int 4]) (rest := [.int 0]) ⟨hx, hb, hml, hown, hts⟩ (kX12_count_5 l dC dI cI cQ (ad 27) (ad 28) (ad 29) (ad 30) (ad 31) (ad 32) (ad 33) (ad 34) (ad 35) (ad 36) (ad 37) (ad 38) (ad 39) (ad 40) (ad 41) (ad 42) (ad 43) (ad 44) (ad 45) H.size) (cwV 1 hts gv_L_law_X12_count_144 rfl rfl rfl (by decide +kernel) ⟨Nat.le_of_ble_eq_true rfl, Nat.le_of_ble_eq_true rfl⟩) ⟨z_blind, va_recv hK hP (ci := 12) (q0 := 0) rfl rfl, z_pre hZ hP hD [0] rfl (by decide)⟩ rfl rfl hl.1 rfl (lv_room (Nat.le_of_ble_eq_true rfl)) dL_law_855 ⟨Nat.le_of_ble_eq_true rfl, Nat.le_of_ble_eq_true rfl⟩) hP hD hS hA [0] [] rfl rfl (by decide) (by decide) (fun _ H locs hP hD hS => ?_)
  have hP : va_P (dC, dI) vwCl [] H := hP
  have hD : va_D A [] := hD
  refine lv_icmp_eq (tgt := 863) hx hb dL_law_858 (by decide) (fun hc => ?_) (fun hc => ?_)
  rotate_left; exact absurd hc (by decide)
  exact hend _ _ hS
set_option maxHeartbeats 4000000 in
set_option maxRecDepth 100000 in
theorem lc_31_65 {p : Program} {l : Launch} {e : Env} {s : State} {m : MethodId} {below : List Frame} {meth : Method} {c : Code} {b : Nat} {xs : Nat → Int32} {dC : Nat → ClassId} {dI : Nat → Nat → Nat} {cI cQ : ClassId} {A : Nat → Prop} {Q : State → Prop} (hx : p.tables.exec = Jvm.exec) (hb : c.code = cL_law) (hml : c.maxLocals = 4) (hown : s.vm.findClass RL = some m.cls) (hts : ∀ w ∈ vsL, w.before #[Value.ref b] s = true) (hX : va_X b 3 xs s s.heap) (hbl : b < s.heap.size) (hbA : ¬ A b) (hA : ∀ q : Nat, s.heap.size ≤ q → A q) (hZ : zK dC dI cI cQ s) {ad : Nat → Nat} {H : Heap} {locs : List Loc} {ls : Array Slot} (hP : va_P (dC, dI) vwCl (zF cI cQ ad) H) (hD : va_D A (zF cI cQ ad)) (hS : va_S A s.heap H locs) (hl : lv_has ls 4 [(3, .int 0), (2, .ref (ad 27)), (1, .ref (ad 0)), (0, .ref b)]) (hxs1 : xs 1 = 5) (hend : ∀ (H : Heap) (locs : List Loc), va_S A s.heap H locs → W p l e room_1 s m #[Value.ref b] below meth c H locs 46 1336 Q (F0 m 863 ls [])) : W p l e room_1 s m #[Value.ref b] below meth c H locs 46 1336 Q (F0 m 840 ls []) := by
  have hP := hP.sub (ws' := [((ad 0), .inr (11, [.ref (ad 1), .ref (ad 10), .int 0, .ref (ad 19), .ref (ad 20), .ref (ad 23), .ref (ad 25), .int 0, .ref (ad 26)])), ((ad 23), .inr (4, [.ref (ad 24), .int 0])), ((ad 27), .inr (12, [.ref (ad 28), .ref (ad 29), .ref (ad 30), .ref (ad 31), .ref (ad 32), .ref (ad 33), .ref (ad 34), .ref (ad 35), .ref (ad 36), .int 0, .int 0, .int 10, .int 0, .int 0, .int (-9), .int 0, .ref (ad 37), .ref (ad 38), .ref (ad 39), .ref (ad 40), .int 0, .int 0, .int 0, .ref (ad 41), .int 0, .int 0, .int 0, .int (-9), .int 0, .ref (ad 42), .int 0, .int 0, .int 0, .ref (ad 43), .ref (ad 44), .ref (ad 45), .int 0, .int 0]))]) [0, 23, 27] rfl
  have hD := hD.sub (ws' := [((ad 0), .inr (11, [.ref (ad 1), .ref (ad 10), .int 0, .ref (ad 19), .ref (ad 20), .ref (ad 23), .ref (ad 25), .int 0, .ref (ad 26)])), ((ad 23), .inr (4, [.ref (ad 24), .int 0])), ((ad 27), .inr (12, [.ref (ad 28), .ref (ad 29), .ref (ad 30), .ref (ad 31), .ref (ad 32), .ref (ad 33), .ref (ad 34), .ref (ad 35), .ref (ad 36), .int 0, .int 0, .int 10, .int 0, .int 0, .int (-9), .int 0, .ref (ad 37), .ref (ad 38), .ref (ad 39), .ref (ad 40), .int 0, .int 0, .int 0, .ref (ad 41), .int 0, .int 0, .int 0, .int (-9), .int 0, .ref (ad 42), .int 0, .int 0, .int 0, .ref (ad 43), .ref (ad 44), .ref (ad 45), .int 0, .int 0]))]) [0, 23, 27] (by decide) rfl
  have hK := hZ.1
  refine lv_aload_n hx hb dL_law_840 rfl (lv_at hl 2 rfl) ?_
  refine lv_aload_n hx hb dL_law_841 rfl (lv_at hl 3 rfl) ?_
  refine lv_iload_n hx hb dL_law_842 rfl (lv_at hl 0 rfl) ?_
  refine lv_iconst (v := 1) hx hb dL_law_843 (by decide) ?_
  refine lv_iadd hx hb dL_law_844 ?_
  refine lv_topi (fun y1 ey1 => ?_)
  obtain rfl : y1 = 1 := ey1.trans (by decide)
  refine va_sld hx hb hX hbl hbA hS (by unfold vp_in; decide) dL_law_845 ?_
  refine lv_topi (fun y2 ey2 => ?_)
  obtain rfl : 5 = y2 := (ey2.trans hxs1).symm
  refine z_calli (wc := [((ad 0), .inr (11, [.ref (ad 1), .ref (ad 10), .int 0, .ref (ad 19), .ref (ad 20), .ref (ad 23), .ref (ad 25), .int 0, .ref (ad 26)])), ((ad 23), .inr (4, [.ref (ad 24), .int 0]))]) (wr := [((ad 27), .inr (12, [.ref (ad 28), .ref (ad 29), .ref (ad 30), .ref (ad 31), .ref (ad 32), .ref (ad 33), .ref (ad 34), .ref (ad 35), .ref (ad 36), .int 0, .int 0, .int 10, .int 0, .int 0, .int (-9), .int 0, .ref (ad 37), .ref (ad 38), .ref (ad 39), .ref (ad 40), .int 0, .int 0, .int 0, .ref (ad 41), .int 0, .int 0, .int 0, .int (-9), .int 0, .ref (ad 42), .int 0, .int 0, .int 0, .ref (ad 43), .ref (ad 44), .ref (ad 45), .int 0, .int 0]))]) (w1 := (fun _ => [])) (va_runV (As := [.int 5]) (rest := []) ⟨hx, hb, hml, hown, hts⟩ (kX11_count_6 l dC dI cI cQ (ad 0) (ad 23) (ad 1) (ad 10) (ad 19) (ad 20) (ad 25) (ad 26) (ad 24) H.size) (cwV 1 hts gv_L_law_X11_count_141 rfl rfl rfl (by decide +kernel) ⟨Nat.le_of_ble_eq_true rfl, Nat.le_of_ble_eq_true rfl⟩) ⟨z_blind, va_recv hK hP (ci := 11) (q0 := 0) rfl rfl, z_pre hZ hP hD [0, 1] rfl (by decide)⟩ rfl rfl hl.1 rfl (lv_room (Nat.le_of_ble_eq_true rfl)) dL_law_846 ⟨Nat.le_of_ble_eq_true rfl, Nat.le_of_ble_eq_true rfl⟩) hP hD hS hA [0, 1] [2] rfl rfl (by decide) (by decide) (fun _ H locs hP hD hS => ?_)
  have hP : va_P (dC, dI) vwCl [((ad 27), .inr (12, [.ref (ad 28), .ref (ad 29), .ref (ad 30), .ref (ad 31), .ref (ad 32), .ref (ad 33), .ref (ad 34), .ref (ad 35), .ref (ad 36), .int 0, .int 0, .int 10, .int 0, .int 0, .int (-9), .int 0, .ref (ad 37), .ref (ad 38), .ref (ad 39), .ref (ad 40), .int 0, .int 0, .int 0, .ref (ad 41), .int 0, .int 0, .int 0, .int (-9), .int 0, .ref (ad 42), .int 0, .int 0, .int 0, .ref (ad 43), .ref (ad 44), .ref (ad 45), .int 0, .int 0]))] H := hP
  have hD : va_D A [((ad 27), .inr (12, [.ref (ad 28), .ref (ad 29), .ref (ad 30), .ref (ad 31), .ref (ad 32), .ref (ad 33), .ref (ad 34), .ref (ad 35), .ref (ad 36), .int 0, .int 0, .int 10, .int 0, .int 0, .int (-9), .int 0, .ref (ad 37), .ref (ad 38), .ref (ad 39), .ref (ad 40), .int 0, .int 0, .int 0, .ref (ad 41), .int 0, .int 0, .int 0, .int (-9), .int 0, .ref (ad 42), .int 0, .int 0, .int 0, .ref (ad 43), .ref (ad 44), .ref (ad 45), .int 0, .int 0]))] := hD
  refine lv_aload_n hx hb dL_law_849 rfl (lv_at hl 1 rfl) ?_
  refine lv_aload_n hx hb dL_law_850 rfl (lv_at hl 3 rfl) ?_
  refine lv_iload_n hx hb dL_law_851 rfl (lv_at hl 0 rfl) ?_
  refine lv_iconst (v := 1) hx hb dL_law_852 (by decide) ?_
  refine lv_iadd hx hb dL_law_853 ?_
  refine lv_topi (fun y4 ey4 => ?_)
  obtain rfl : y4 = 1 := ey4.trans (by decide)
  refine va_sld hx hb hX hbl hbA hS (by unfold vp_in; decide) dL_law_854 ?_
  refine lv_topi (fun y5 ey5 => ?_)
  obtain rfl : 5 = y5 := (ey5.trans hxs1).symm
  refine z_calli (wc := [((ad 27), .inr (12, [.ref (ad 28), .ref (ad 29), .ref (ad 30), .ref (ad 31), .ref (ad 32), .ref (ad 33), .ref (ad 34), .ref (ad 35), .ref (ad 36), .int 0, .int 0, .int 10, .int 0, .int 0, .int (-9), .int 0, .ref (ad 37), .ref (ad 38), .ref (ad 39), .ref (ad 40), .int 0, .int 0, .int 0, .ref (ad 41), .int 0, .int 0, .int 0, .int (-9), .int 0, .ref (ad 42), .int 0, .int 0, .int 0, .ref (ad 43), .ref (ad 44), .ref (ad 45), .int 0, .int 0]))]) (wr := []) (w1 := (fun _ => [])) (va_runV (As := [.int 5]) (rest := [.int 0]) ⟨hx, hb, hml, hown, hts⟩ (kX12_count_6 l dC dI cI cQ (ad 27) (ad 28) (ad 29) (ad 30) (ad 31) (ad 32) (ad 33) (ad 34) (ad 35) (ad 36) (ad 37) (ad 38) (ad 39) (ad 40) (ad 41) (ad 42) (ad 43) (ad 44) (ad 45) H.size) (cwV 1 hts gv_L_law_X12_count_144 rfl rfl rfl (by decide +kernel) ⟨Nat.le_of_ble_eq_true rfl, Nat.le_of_ble_eq_true rfl⟩) ⟨z_blind, va_recv hK hP (ci := 12) (q0 := 0) rfl rfl, z_pre hZ hP hD [0] rfl (by decide)⟩ rfl rfl hl.1 rfl (lv_room (Nat.le_of_ble_eq_true rfl)) dL_law_855 ⟨Nat.le_of_ble_eq_true rfl, Nat.le_of_ble_eq_true rfl⟩) hP hD hS hA [0] [] rfl rfl (by decide) (by decide) (fun _ H locs hP hD hS => ?_)
  have hP : va_P (dC, dI) vwCl [] H := hP
  have hD : va_D A [] := hD
  refine lv_icmp_eq (tgt := 863) hx hb dL_law_858 (by decide) (fun hc => ?_) (fun hc => ?_)
  rotate_left; exact absurd hc (by decide)
  exact hend _ _ hS
set_option maxHeartbeats 4000000 in
set_option maxRecDepth 100000 in
theorem lc_31_66 {p : Program} {l : Launch} {e : Env} {s : State} {m : MethodId} {below : List Frame} {meth : Method} {c : Code} {b : Nat} {xs : Nat → Int32} {dC : Nat → ClassId} {dI : Nat → Nat → Nat} {cI cQ : ClassId} {A : Nat → Prop} {Q : State → Prop} (hx : p.tables.exec = Jvm.exec) (hb : c.code = cL_law) (hml : c.maxLocals = 4) (hown : s.vm.findClass RL = some m.cls) (hts : ∀ w ∈ vsL, w.before #[Value.ref b] s = true) (hX : va_X b 3 xs s s.heap) (hbl : b < s.heap.size) (hbA : ¬ A b) (hA : ∀ q : Nat, s.heap.size ≤ q → A q) (hZ : zK dC dI cI cQ s) {ad : Nat → Nat} {H : Heap} {locs : List Loc} {ls : Array Slot} (hP : va_P (dC, dI) vwCl (zF cI cQ ad) H) (hD : va_D A (zF cI cQ ad)) (hS : va_S A s.heap H locs) (hl : lv_has ls 4 [(3, .int 0), (2, .ref (ad 27)), (1, .ref (ad 0)), (0, .ref b)]) (hxs1 : xs 1 = 6) (hend : ∀ (H : Heap) (locs : List Loc), va_S A s.heap H locs → W p l e room_1 s m #[Value.ref b] below meth c H locs 46 1336 Q (F0 m 863 ls [])) : W p l e room_1 s m #[Value.ref b] below meth c H locs 46 1336 Q (F0 m 840 ls []) := by
  have hP := hP.sub (ws' := [((ad 0), .inr (11, [.ref (ad 1), .ref (ad 10), .int 0, .ref (ad 19), .ref (ad 20), .ref (ad 23), .ref (ad 25), .int 0, .ref (ad 26)])), ((ad 27), .inr (12, [.ref (ad 28), .ref (ad 29), .ref (ad 30), .ref (ad 31), .ref (ad 32), .ref (ad 33), .ref (ad 34), .ref (ad 35), .ref (ad 36), .int 0, .int 0, .int 10, .int 0, .int 0, .int (-9), .int 0, .ref (ad 37), .ref (ad 38), .ref (ad 39), .ref (ad 40), .int 0, .int 0, .int 0, .ref (ad 41), .int 0, .int 0, .int 0, .int (-9), .int 0, .ref (ad 42), .int 0, .int 0, .int 0, .ref (ad 43), .ref (ad 44), .ref (ad 45), .int 0, .int 0]))]) [0, 27] rfl
  have hD := hD.sub (ws' := [((ad 0), .inr (11, [.ref (ad 1), .ref (ad 10), .int 0, .ref (ad 19), .ref (ad 20), .ref (ad 23), .ref (ad 25), .int 0, .ref (ad 26)])), ((ad 27), .inr (12, [.ref (ad 28), .ref (ad 29), .ref (ad 30), .ref (ad 31), .ref (ad 32), .ref (ad 33), .ref (ad 34), .ref (ad 35), .ref (ad 36), .int 0, .int 0, .int 10, .int 0, .int 0, .int (-9), .int 0, .ref (ad 37), .ref (ad 38), .ref (ad 39), .ref (ad 40), .int 0, .int 0, .int 0, .ref (ad 41), .int 0, .int 0, .int 0, .int (-9), .int 0, .ref (ad 42), .int 0, .int 0, .int 0, .ref (ad 43), .ref (ad 44), .ref (ad 45), .int 0, .int 0]))]) [0, 27] (by decide) rfl
  have hK := hZ.1
  refine lv_aload_n hx hb dL_law_840 rfl (lv_at hl 2 rfl) ?_
  refine lv_aload_n hx hb dL_law_841 rfl (lv_at hl 3 rfl) ?_
  refine lv_iload_n hx hb dL_law_842 rfl (lv_at hl 0 rfl) ?_
  refine lv_iconst (v := 1) hx hb dL_law_843 (by decide) ?_
  refine lv_iadd hx hb dL_law_844 ?_
  refine lv_topi (fun y1 ey1 => ?_)
  obtain rfl : y1 = 1 := ey1.trans (by decide)
  refine va_sld hx hb hX hbl hbA hS (by unfold vp_in; decide) dL_law_845 ?_
  refine lv_topi (fun y2 ey2 => ?_)
  obtain rfl : 6 = y2 := (ey2.trans hxs1).symm
  refine z_calli (wc := [((ad 0), .inr (11, [.ref (ad 1), .ref (ad 10), .int 0, .ref (ad 19), .ref (ad 20), .ref (ad 23), .ref (ad 25), .int 0, .ref (ad 26)]))]) (wr := [((ad 27), .inr (12, [.ref (ad 28), .ref (ad 29), .ref (ad 30), .ref (ad 31), .ref (ad 32), .ref (ad 33), .ref (ad 34), .ref (ad 35), .ref (ad 36), .int 0, .int 0, .int 10, .int 0, .int 0, .int (-9), .int 0, .ref (ad 37), .ref (ad 38), .ref (ad 39), .ref (ad 40), .int 0, .int 0, .int 0, .ref (ad 41), .int 0, .int 0, .int 0, .int (-9), .int 0, .ref (ad 42), .int 0, .int 0, .int 0, .ref (ad 43), .ref (ad 44), .ref (ad 45), .int 0, .int 0]))]) (w1 := (fun _ => [])) (va_runV (As := [.int 6]) (rest := []) ⟨hx, hb, hml, hown, hts⟩ (kX11_count_7 l dC dI cI cQ (ad 0) (ad 1) (ad 10) (ad 19) (ad 20) (ad 23) (ad 25) (ad 26) H.size) (cwV 1 hts gv_L_law_X11_count_141 rfl rfl rfl (by decide +kernel) ⟨Nat.le_of_ble_eq_true rfl, Nat.le_of_ble_eq_true rfl⟩) ⟨z_blind, va_recv hK hP (ci := 11) (q0 := 0) rfl rfl, z_pre hZ hP hD [0] rfl (by decide)⟩ rfl rfl hl.1 rfl (lv_room (Nat.le_of_ble_eq_true rfl)) dL_law_846 ⟨Nat.le_of_ble_eq_true rfl, Nat.le_of_ble_eq_true rfl⟩) hP hD hS hA [0] [1] rfl rfl (by decide) (by decide) (fun _ H locs hP hD hS => ?_)
  have hP : va_P (dC, dI) vwCl [((ad 27), .inr (12, [.ref (ad 28), .ref (ad 29), .ref (ad 30), .ref (ad 31), .ref (ad 32), .ref (ad 33), .ref (ad 34), .ref (ad 35), .ref (ad 36), .int 0, .int 0, .int 10, .int 0, .int 0, .int (-9), .int 0, .ref (ad 37), .ref (ad 38), .ref (ad 39), .ref (ad 40), .int 0, .int 0, .int 0, .ref (ad 41), .int 0, .int 0, .int 0, .int (-9), .int 0, .ref (ad 42), .int 0, .int 0, .int 0, .ref (ad 43), .ref (ad 44), .ref (ad 45), .int 0, .int 0]))] H := hP
  have hD : va_D A [((ad 27), .inr (12, [.ref (ad 28), .ref (ad 29), .ref (ad 30), .ref (ad 31), .ref (ad 32), .ref (ad 33), .ref (ad 34), .ref (ad 35), .ref (ad 36), .int 0, .int 0, .int 10, .int 0, .int 0, .int (-9), .int 0, .ref (ad 37), .ref (ad 38), .ref (ad 39), .ref (ad 40), .int 0, .int 0, .int 0, .ref (ad 41), .int 0, .int 0, .int 0, .int (-9), .int 0, .ref (ad 42), .int 0, .int 0, .int 0, .ref (ad 43), .ref (ad 44), .ref (ad 45), .int 0, .int 0]))] := hD
  refine lv_aload_n hx hb dL_law_849 rfl (lv_at hl 1 rfl) ?_
  refine lv_aload_n hx hb dL_law_850 rfl (lv_at hl 3 rfl) ?_
  refine lv_iload_n hx hb dL_law_851 rfl (lv_at hl 0 rfl) ?_
  refine lv_iconst (v := 1) hx hb dL_law_852 (by decide) ?_
  refine lv_iadd hx hb dL_law_853 ?_
  refine lv_topi (fun y4 ey4 => ?_)
  obtain rfl : y4 = 1 := ey4.trans (by decide)
  refine va_sld hx hb hX hbl hbA hS (by unfold vp_in; decide) dL_law_854 ?_
  refine lv_topi (fun y5 ey5 => ?_)
  obtain rfl : 6 = y5 := (ey5.trans hxs1).symm
  refine z_calli (wc := [((ad 27), .inr (12, [.ref (ad 28), .ref (ad 29), .ref (ad 30), .ref (ad 31), .ref (ad 32), .ref (ad 33), .ref (ad 34), .ref (ad 35), .ref (ad 36), .int 0, .int 0, .int 10, .int 0, .int 0, .int (-9), .int 0, .ref (ad 37), .ref (ad 38), .ref (ad 39), .ref (ad 40), .int 0, .int 0, .int 0, .ref (ad 41), .int 0, .int 0, .int 0, .int (-9), .int 0, .ref (ad 42), .int 0, .int 0, .int 0, .ref (ad 43), .ref (ad 44), .ref (ad 45), .int 0, .int 0]))]) (wr := []) (w1 := (fun _ => [])) (va_runV (As := [.int 6]) (rest := [.int 0]) ⟨hx, hb, hml, hown, hts⟩ (kX12_count_7 l dC dI cI cQ (ad 27) (ad 28) (ad 29) (ad 30) (ad 31) (ad 32) (ad 33) (ad 34) (ad 35) (ad 36) (ad 37) (ad 38) (ad 39) (ad 40) (ad 41) (ad 42) (ad 43) (ad 44) (ad 45) H.size) (cwV 1 hts gv_L_law_X12_count_144 rfl rfl rfl (by decide +kernel) ⟨Nat.le_of_ble_eq_true rfl, Nat.le_of_ble_eq_true rfl⟩) ⟨z_blind, va_recv hK hP (ci := 12) (q0 := 0) rfl rfl, z_pre hZ hP hD [0] rfl (by decide)⟩ rfl rfl hl.1 rfl (lv_room (Nat.le_of_ble_eq_true rfl)) dL_law_855 ⟨Nat.le_of_ble_eq_true rfl, Nat.le_of_ble_eq_true rfl⟩) hP hD hS hA [0] [] rfl rfl (by decide) (by decide) (fun _ H locs hP hD hS => ?_)
  have hP : va_P (dC, dI) vwCl [] H := hP
  have hD : va_D A [] := hD
  refine lv_icmp_eq (tgt := 863) hx hb dL_law_858 (by decide) (fun hc => ?_) (fun hc => ?_)
  rotate_left; exact absurd hc (by decide)
  exact hend _ _ hS
set_option maxHeartbeats 4000000 in
set_option maxRecDepth 100000 in
theorem lc_31_67 {p : Program} {l : Launch} {e : Env} {s : State} {m : MethodId} {below : List Frame} {meth : Method} {c : Code} {b : Nat} {xs : Nat → Int32} {dC : Nat → ClassId} {dI : Nat → Nat → Nat} {cI cQ : ClassId} {A : Nat → Prop} {Q : State → Prop} (hx : p.tables.exec = Jvm.exec) (hb : c.code = cL_law) (hml : c.maxLocals = 4) (hown : s.vm.findClass RL = some m.cls) (hts : ∀ w ∈ vsL, w.before #[Value.ref b] s = true) (hX : va_X b 3 xs s s.heap) (hbl : b < s.heap.size) (hbA : ¬ A b) (hA : ∀ q : Nat, s.heap.size ≤ q → A q) (hZ : zK dC dI cI cQ s) {ad : Nat → Nat} {H : Heap} {locs : List Loc} {ls : Array Slot} (hP : va_P (dC, dI) vwCl (zF cI cQ ad) H) (hD : va_D A (zF cI cQ ad)) (hS : va_S A s.heap H locs) (hl : lv_has ls 4 [(3, .int 0), (2, .ref (ad 27)), (1, .ref (ad 0)), (0, .ref b)]) (hxs1 : xs 1 = 7) (hend : ∀ (H : Heap) (locs : List Loc), va_S A s.heap H locs → W p l e room_1 s m #[Value.ref b] below meth c H locs 46 1336 Q (F0 m 863 ls [])) : W p l e room_1 s m #[Value.ref b] below meth c H locs 46 1336 Q (F0 m 840 ls []) := by
  have hP := hP.sub (ws' := [((ad 0), .inr (11, [.ref (ad 1), .ref (ad 10), .int 0, .ref (ad 19), .ref (ad 20), .ref (ad 23), .ref (ad 25), .int 0, .ref (ad 26)])), ((ad 1), .inr (7, [.ref (ad 2), .ref (ad 3), .ref (ad 4), .int 0, .ref (ad 5), .ref (ad 6), .ref (ad 7), .ref (ad 8), .int 0, .int 0, .int 10, .ref (ad 9)])), ((ad 27), .inr (12, [.ref (ad 28), .ref (ad 29), .ref (ad 30), .ref (ad 31), .ref (ad 32), .ref (ad 33), .ref (ad 34), .ref (ad 35), .ref (ad 36), .int 0, .int 0, .int 10, .int 0, .int 0, .int (-9), .int 0, .ref (ad 37), .ref (ad 38), .ref (ad 39), .ref (ad 40), .int 0, .int 0, .int 0, .ref (ad 41), .int 0, .int 0, .int 0, .int (-9), .int 0, .ref (ad 42), .int 0, .int 0, .int 0, .ref (ad 43), .ref (ad 44), .ref (ad 45), .int 0, .int 0]))]) [0, 1, 27] rfl
  have hD := hD.sub (ws' := [((ad 0), .inr (11, [.ref (ad 1), .ref (ad 10), .int 0, .ref (ad 19), .ref (ad 20), .ref (ad 23), .ref (ad 25), .int 0, .ref (ad 26)])), ((ad 1), .inr (7, [.ref (ad 2), .ref (ad 3), .ref (ad 4), .int 0, .ref (ad 5), .ref (ad 6), .ref (ad 7), .ref (ad 8), .int 0, .int 0, .int 10, .ref (ad 9)])), ((ad 27), .inr (12, [.ref (ad 28), .ref (ad 29), .ref (ad 30), .ref (ad 31), .ref (ad 32), .ref (ad 33), .ref (ad 34), .ref (ad 35), .ref (ad 36), .int 0, .int 0, .int 10, .int 0, .int 0, .int (-9), .int 0, .ref (ad 37), .ref (ad 38), .ref (ad 39), .ref (ad 40), .int 0, .int 0, .int 0, .ref (ad 41), .int 0, .int 0, .int 0, .int (-9), .int 0, .ref (ad 42), .int 0, .int 0, .int 0, .ref (ad 43), .ref (ad 44), .ref (ad 45), .int 0, .int 0]))]) [0, 1, 27] (by decide) rfl
  have hK := hZ.1
  refine lv_aload_n hx hb dL_law_840 rfl (lv_at hl 2 rfl) ?_
  refine lv_aload_n hx hb dL_law_841 rfl (lv_at hl 3 rfl) ?_
  refine lv_iload_n hx hb dL_law_842 rfl (lv_at hl 0 rfl) ?_
  refine lv_iconst (v := 1) hx hb dL_law_843 (by decide) ?_
  refine lv_iadd hx hb dL_law_844 ?_
  refine lv_topi (fun y1 ey1 => ?_)
  obtain rfl : y1 = 1 := ey1.trans (by decide)
  refine va_sld hx hb hX hbl hbA hS (by unfold vp_in; decide) dL_law_845 ?_
  refine lv_topi (fun y2 ey2 => ?_)
  obtain rfl : 7 = y2 := (ey2.trans hxs1).symm
  refine z_calli (wc := [((ad 0), .inr (11, [.ref (ad 1), .ref (ad 10), .int 0, .ref (ad 19), .ref (ad 20), .ref (ad 23), .ref (ad 25), .int 0, .ref (ad 26)])), ((ad 1), .inr (7, [.ref (ad 2), .ref (ad 3), .ref (ad 4), .int 0, .ref (ad 5), .ref (ad 6), .ref (ad 7), .ref (ad 8), .int 0, .int 0, .int 10, .ref (ad 9)]))]) (wr := [((ad 27), .inr (12, [.ref (ad 28), .ref (ad 29), .ref (ad 30), .ref (ad 31), .ref (ad 32), .ref (ad 33), .ref (ad 34), .ref (ad 35), .ref (ad 36), .int 0, .int 0, .int 10, .int 0, .int 0, .int (-9), .int 0, .ref (ad 37), .ref (ad 38), .ref (ad 39), .ref (ad 40), .int 0, .int 0, .int 0, .ref (ad 41), .int 0, .int 0, .int 0, .int (-9), .int 0, .ref (ad 42), .int 0, .int 0, .int 0, .ref (ad 43), .ref (ad 44), .ref (ad 45), .int 0, .int 0]))]) (w1 := (fun _ => [])) (va_runV (As := [.int 7]) (rest := []) ⟨hx, hb, hml, hown, hts⟩ (kX11_count_8 l dC dI cI cQ (ad 0) (ad 1) (ad 10) (ad 19) (ad 20) (ad 23) (ad 25) (ad 26) (ad 2) (ad 3) (ad 4) (ad 5) (ad 6) (ad 7) (ad 8) (ad 9) H.size) (cwV 1 hts gv_L_law_X11_count_141 rfl rfl rfl (by decide +kernel) ⟨Nat.le_of_ble_eq_true rfl, Nat.le_of_ble_eq_true rfl⟩) ⟨z_blind, va_recv hK hP (ci := 11) (q0 := 0) rfl rfl, z_pre hZ hP hD [0, 1] rfl (by decide)⟩ rfl rfl hl.1 rfl (lv_room (Nat.le_of_ble_eq_true rfl)) dL_law_846 ⟨Nat.le_of_ble_eq_true rfl, Nat.le_of_ble_eq_true rfl⟩) hP hD hS hA [0, 1] [2] rfl rfl (by decide) (by decide) (fun _ H locs hP hD hS => ?_)
  have hP : va_P (dC, dI) vwCl [((ad 27), .inr (12, [.ref (ad 28), .ref (ad 29), .ref (ad 30), .ref (ad 31), .ref (ad 32), .ref (ad 33), .ref (ad 34), .ref (ad 35), .ref (ad 36), .int 0, .int 0, .int 10, .int 0, .int 0, .int (-9), .int 0, .ref (ad 37), .ref (ad 38), .ref (ad 39), .ref (ad 40), .int 0, .int 0, .int 0, .ref (ad 41), .int 0, .int 0, .int 0, .int (-9), .int 0, .ref (ad 42), .int 0, .int 0, .int 0, .ref (ad 43), .ref (ad 44), .ref (ad 45), .int 0, .int 0]))] H := hP
  have hD : va_D A [((ad 27), .inr (12, [.ref (ad 28), .ref (ad 29), .ref (ad 30), .ref (ad 31), .ref (ad 32), .ref (ad 33), .ref (ad 34), .ref (ad 35), .ref (ad 36), .int 0, .int 0, .int 10, .int 0, .int 0, .int (-9), .int 0, .ref (ad 37), .ref (ad 38), .ref (ad 39), .ref (ad 40), .int 0, .int 0, .int 0, .ref (ad 41), .int 0, .int 0, .int 0, .int (-9), .int 0, .ref (ad 42), .int 0, .int 0, .int 0, .ref (ad 43), .ref (ad 44), .ref (ad 45), .int 0, .int 0]))] := hD
  refine lv_aload_n hx hb dL_law_849 rfl (lv_at hl 1 rfl) ?_
  refine lv_aload_n hx hb dL_law_850 rfl (lv_at hl 3 rfl) ?_
  refine lv_iload_n hx hb dL_law_851 rfl (lv_at hl 0 rfl) ?_
  refine lv_iconst (v := 1) hx hb dL_law_852 (by decide) ?_
  refine lv_iadd hx hb dL_law_853 ?_
  refine lv_topi (fun y4 ey4 => ?_)
  obtain rfl : y4 = 1 := ey4.trans (by decide)
  refine va_sld hx hb hX hbl hbA hS (by unfold vp_in; decide) dL_law_854 ?_
  refine lv_topi (fun y5 ey5 => ?_)
  obtain rfl : 7 = y5 := (ey5.trans hxs1).symm
  refine z_calli (wc := [((ad 27), .inr (12, [.ref (ad 28), .ref (ad 29), .ref (ad 30), .ref (ad 31), .ref (ad 32), .ref (ad 33), .ref (ad 34), .ref (ad 35), .ref (ad 36), .int 0, .int 0, .int 10, .int 0, .int 0, .int (-9), .int 0, .ref (ad 37), .ref (ad 38), .ref (ad 39), .ref (ad 40), .int 0, .int 0, .int 0, .ref (ad 41), .int 0, .int 0, .int 0, .int (-9), .int 0, .ref (ad 42), .int 0, .int 0, .int 0, .ref (ad 43), .ref (ad 44), .ref (ad 45), .int 0, .int 0]))]) (wr := []) (w1 := (fun _ => [])) (va_runV (As := [.int 7]) (rest := [.int 10]) ⟨hx, hb, hml, hown, hts⟩ (kX12_count_8 l dC dI cI cQ (ad 27) (ad 28) (ad 29) (ad 30) (ad 31) (ad 32) (ad 33) (ad 34) (ad 35) (ad 36) (ad 37) (ad 38) (ad 39) (ad 40) (ad 41) (ad 42) (ad 43) (ad 44) (ad 45) H.size) (cwV 1 hts gv_L_law_X12_count_144 rfl rfl rfl (by decide +kernel) ⟨Nat.le_of_ble_eq_true rfl, Nat.le_of_ble_eq_true rfl⟩) ⟨z_blind, va_recv hK hP (ci := 12) (q0 := 0) rfl rfl, z_pre hZ hP hD [0] rfl (by decide)⟩ rfl rfl hl.1 rfl (lv_room (Nat.le_of_ble_eq_true rfl)) dL_law_855 ⟨Nat.le_of_ble_eq_true rfl, Nat.le_of_ble_eq_true rfl⟩) hP hD hS hA [0] [] rfl rfl (by decide) (by decide) (fun _ H locs hP hD hS => ?_)
  have hP : va_P (dC, dI) vwCl [] H := hP
  have hD : va_D A [] := hD
  refine lv_icmp_eq (tgt := 863) hx hb dL_law_858 (by decide) (fun hc => ?_) (fun hc => ?_)
  rotate_left; exact absurd hc (by decide)
  exact hend _ _ hS
set_option maxHeartbeats 4000000 in
set_option maxRecDepth 100000 in
theorem lc_31_68 {p : Program} {l : Launch} {e : Env} {s : State} {m : MethodId} {below : List Frame} {meth : Method} {c : Code} {b : Nat} {xs : Nat → Int32} {dC : Nat → ClassId} {dI : Nat → Nat → Nat} {cI cQ : ClassId} {A : Nat → Prop} {Q : State → Prop} (hx : p.tables.exec = Jvm.exec) (hb : c.code = cL_law) (hml : c.maxLocals = 4) (hown : s.vm.findClass RL = some m.cls) (hts : ∀ w ∈ vsL, w.before #[Value.ref b] s = true) (hX : va_X b 3 xs s s.heap) (hbl : b < s.heap.size) (hbA : ¬ A b) (hA : ∀ q : Nat, s.heap.size ≤ q → A q) (hZ : zK dC dI cI cQ s) {ad : Nat → Nat} {H : Heap} {locs : List Loc} {ls : Array Slot} (hP : va_P (dC, dI) vwCl (zF cI cQ ad) H) (hD : va_D A (zF cI cQ ad)) (hS : va_S A s.heap H locs) (hl : lv_has ls 4 [(3, .int 0), (2, .ref (ad 27)), (1, .ref (ad 0)), (0, .ref b)]) (sa : Int32) (hsal : 8 ≤ sa.toInt) (hsah : sa.toInt ≤ 10) (hxs1 : xs 1 = sa) (hend : ∀ (H : Heap) (locs : List Loc), va_S A s.heap H locs → W p l e room_1 s m #[Value.ref b] below meth c H locs 46 1336 Q (F0 m 863 ls [])) : W p l e room_1 s m #[Value.ref b] below meth c H locs 46 1336 Q (F0 m 840 ls []) := by
  have hP := hP.sub (ws' := [((ad 0), .inr (11, [.ref (ad 1), .ref (ad 10), .int 0, .ref (ad 19), .ref (ad 20), .ref (ad 23), .ref (ad 25), .int 0, .ref (ad 26)])), ((ad 27), .inr (12, [.ref (ad 28), .ref (ad 29), .ref (ad 30), .ref (ad 31), .ref (ad 32), .ref (ad 33), .ref (ad 34), .ref (ad 35), .ref (ad 36), .int 0, .int 0, .int 10, .int 0, .int 0, .int (-9), .int 0, .ref (ad 37), .ref (ad 38), .ref (ad 39), .ref (ad 40), .int 0, .int 0, .int 0, .ref (ad 41), .int 0, .int 0, .int 0, .int (-9), .int 0, .ref (ad 42), .int 0, .int 0, .int 0, .ref (ad 43), .ref (ad 44), .ref (ad 45), .int 0, .int 0]))]) [0, 27] rfl
  have hD := hD.sub (ws' := [((ad 0), .inr (11, [.ref (ad 1), .ref (ad 10), .int 0, .ref (ad 19), .ref (ad 20), .ref (ad 23), .ref (ad 25), .int 0, .ref (ad 26)])), ((ad 27), .inr (12, [.ref (ad 28), .ref (ad 29), .ref (ad 30), .ref (ad 31), .ref (ad 32), .ref (ad 33), .ref (ad 34), .ref (ad 35), .ref (ad 36), .int 0, .int 0, .int 10, .int 0, .int 0, .int (-9), .int 0, .ref (ad 37), .ref (ad 38), .ref (ad 39), .ref (ad 40), .int 0, .int 0, .int 0, .ref (ad 41), .int 0, .int 0, .int 0, .int (-9), .int 0, .ref (ad 42), .int 0, .int 0, .int 0, .ref (ad 43), .ref (ad 44), .ref (ad 45), .int 0, .int 0]))]) [0, 27] (by decide) rfl
  have hK := hZ.1
  refine lv_aload_n hx hb dL_law_840 rfl (lv_at hl 2 rfl) ?_
  refine lv_aload_n hx hb dL_law_841 rfl (lv_at hl 3 rfl) ?_
  refine lv_iload_n hx hb dL_law_842 rfl (lv_at hl 0 rfl) ?_
  refine lv_iconst (v := 1) hx hb dL_law_843 (by decide) ?_
  refine lv_iadd hx hb dL_law_844 ?_
  refine lv_topi (fun y1 ey1 => ?_)
  obtain rfl : y1 = 1 := ey1.trans (by decide)
  refine va_sld hx hb hX hbl hbA hS (by unfold vp_in; decide) dL_law_845 ?_
  refine lv_topi (fun y2 ey2 => ?_)
  obtain rfl : sa = y2 := (ey2.trans hxs1).symm
  refine z_calli (wc := []) (wr := [((ad 0), .inr (11, [.ref (ad 1), .ref (ad 10), .int 0, .ref (ad 19), .ref (ad 20), .ref (ad 23), .ref (ad 25), .int 0, .ref (ad 26)])), ((ad 27), .inr (12, [.ref (ad 28), .ref (ad 29), .ref (ad 30), .ref (ad 31), .ref (ad 32), .ref (ad 33), .ref (ad 34), .ref (ad 35), .ref (ad 36), .int 0, .int 0, .int 10, .int 0, .int 0, .int (-9), .int 0, .ref (ad 37), .ref (ad 38), .ref (ad 39), .ref (ad 40), .int 0, .int 0, .int 0, .ref (ad 41), .int 0, .int 0, .int 0, .int (-9), .int 0, .ref (ad 42), .int 0, .int 0, .int 0, .ref (ad 43), .ref (ad 44), .ref (ad 45), .int 0, .int 0]))]) (w1 := (fun _ => [])) (va_runV (As := [.int sa]) (rest := []) ⟨hx, hb, hml, hown, hts⟩ (kX11_count_9 l dC dI cI cQ (ad 0) sa hsal hsah H.size) (cwV 1 hts gv_L_law_X11_count_141 rfl rfl rfl (by decide +kernel) ⟨Nat.le_of_ble_eq_true rfl, Nat.le_of_ble_eq_true rfl⟩) ⟨z_blind, va_recv hK hP (ci := 11) (q0 := 0) rfl rfl, z_pre hZ hP hD [] rfl (by decide)⟩ rfl rfl hl.1 rfl (lv_room (Nat.le_of_ble_eq_true rfl)) dL_law_846 ⟨Nat.le_of_ble_eq_true rfl, Nat.le_of_ble_eq_true rfl⟩) hP hD hS hA [] [0, 1] rfl rfl (by decide) (by decide) (fun _ H locs hP hD hS => ?_)
  have hP : va_P (dC, dI) vwCl [((ad 0), .inr (11, [.ref (ad 1), .ref (ad 10), .int 0, .ref (ad 19), .ref (ad 20), .ref (ad 23), .ref (ad 25), .int 0, .ref (ad 26)])), ((ad 27), .inr (12, [.ref (ad 28), .ref (ad 29), .ref (ad 30), .ref (ad 31), .ref (ad 32), .ref (ad 33), .ref (ad 34), .ref (ad 35), .ref (ad 36), .int 0, .int 0, .int 10, .int 0, .int 0, .int (-9), .int 0, .ref (ad 37), .ref (ad 38), .ref (ad 39), .ref (ad 40), .int 0, .int 0, .int 0, .ref (ad 41), .int 0, .int 0, .int 0, .int (-9), .int 0, .ref (ad 42), .int 0, .int 0, .int 0, .ref (ad 43), .ref (ad 44), .ref (ad 45), .int 0, .int 0]))] H := hP
  have hD : va_D A [((ad 0), .inr (11, [.ref (ad 1), .ref (ad 10), .int 0, .ref (ad 19), .ref (ad 20), .ref (ad 23), .ref (ad 25), .int 0, .ref (ad 26)])), ((ad 27), .inr (12, [.ref (ad 28), .ref (ad 29), .ref (ad 30), .ref (ad 31), .ref (ad 32), .ref (ad 33), .ref (ad 34), .ref (ad 35), .ref (ad 36), .int 0, .int 0, .int 10, .int 0, .int 0, .int (-9), .int 0, .ref (ad 37), .ref (ad 38), .ref (ad 39), .ref (ad 40), .int 0, .int 0, .int 0, .ref (ad 41), .int 0, .int 0, .int 0, .int (-9), .int 0, .ref (ad 42), .int 0, .int 0, .int 0, .ref (ad 43), .ref (ad 44), .ref (ad 45), .int 0, .int 0]))] := hD
  refine lv_aload_n hx hb dL_law_849 rfl (lv_at hl 1 rfl) ?_
  refine lv_aload_n hx hb dL_law_850 rfl (lv_at hl 3 rfl) ?_
  refine lv_iload_n hx hb dL_law_851 rfl (lv_at hl 0 rfl) ?_
  refine lv_iconst (v := 1) hx hb dL_law_852 (by decide) ?_
  refine lv_iadd hx hb dL_law_853 ?_
  refine lv_topi (fun y4 ey4 => ?_)
  obtain rfl : y4 = 1 := ey4.trans (by decide)
  refine va_sld hx hb hX hbl hbA hS (by unfold vp_in; decide) dL_law_854 ?_
  refine lv_topi (fun y5 ey5 => ?_)
  obtain rfl : sa = y5 := (ey5.trans hxs1).symm
  refine z_calli (wc := []) (wr := [((ad 0), .inr (11, [.ref (ad 1), .ref (ad 10), .int 0, .ref (ad 19), .ref (ad 20), .ref (ad 23), .ref (ad 25), .int 0, .ref (ad 26)])), ((ad 27), .inr (12, [.ref (ad 28), .ref (ad 29), .ref (ad 30), .ref (ad 31), .ref (ad 32), .ref (ad 33), .ref (ad 34), .ref (ad 35), .ref (ad 36), .int 0, .int 0, .int 10, .int 0, .int 0, .int (-9), .int 0, .ref (ad 37), .ref (ad 38), .ref (ad 39), .ref (ad 40), .int 0, .int 0, .int 0, .ref (ad 41), .int 0, .int 0, .int 0, .int (-9), .int 0, .ref (ad 42), .int 0, .int 0, .int 0, .ref (ad 43), .ref (ad 44), .ref (ad 45), .int 0, .int 0]))]) (w1 := (fun _ => [])) (va_runV (As := [.int sa]) (rest := [.int (-9)]) ⟨hx, hb, hml, hown, hts⟩ (kX12_count_9 l dC dI cI cQ (ad 27) sa hsal hsah H.size) (cwV 1 hts gv_L_law_X12_count_144 rfl rfl rfl (by decide +kernel) ⟨Nat.le_of_ble_eq_true rfl, Nat.le_of_ble_eq_true rfl⟩) ⟨z_blind, va_recv hK hP (ci := 12) (q0 := 1) rfl rfl, z_pre hZ hP hD [] rfl (by decide)⟩ rfl rfl hl.1 rfl (lv_room (Nat.le_of_ble_eq_true rfl)) dL_law_855 ⟨Nat.le_of_ble_eq_true rfl, Nat.le_of_ble_eq_true rfl⟩) hP hD hS hA [] [0, 1] rfl rfl (by decide) (by decide) (fun _ H locs hP hD hS => ?_)
  have hP : va_P (dC, dI) vwCl [((ad 0), .inr (11, [.ref (ad 1), .ref (ad 10), .int 0, .ref (ad 19), .ref (ad 20), .ref (ad 23), .ref (ad 25), .int 0, .ref (ad 26)])), ((ad 27), .inr (12, [.ref (ad 28), .ref (ad 29), .ref (ad 30), .ref (ad 31), .ref (ad 32), .ref (ad 33), .ref (ad 34), .ref (ad 35), .ref (ad 36), .int 0, .int 0, .int 10, .int 0, .int 0, .int (-9), .int 0, .ref (ad 37), .ref (ad 38), .ref (ad 39), .ref (ad 40), .int 0, .int 0, .int 0, .ref (ad 41), .int 0, .int 0, .int 0, .int (-9), .int 0, .ref (ad 42), .int 0, .int 0, .int 0, .ref (ad 43), .ref (ad 44), .ref (ad 45), .int 0, .int 0]))] H := hP
  have hD : va_D A [((ad 0), .inr (11, [.ref (ad 1), .ref (ad 10), .int 0, .ref (ad 19), .ref (ad 20), .ref (ad 23), .ref (ad 25), .int 0, .ref (ad 26)])), ((ad 27), .inr (12, [.ref (ad 28), .ref (ad 29), .ref (ad 30), .ref (ad 31), .ref (ad 32), .ref (ad 33), .ref (ad 34), .ref (ad 35), .ref (ad 36), .int 0, .int 0, .int 10, .int 0, .int 0, .int (-9), .int 0, .ref (ad 37), .ref (ad 38), .ref (ad 39), .ref (ad 40), .int 0, .int 0, .int 0, .ref (ad 41), .int 0, .int 0, .int 0, .int (-9), .int 0, .ref (ad 42), .int 0, .int 0, .int 0, .ref (ad 43), .ref (ad 44), .ref (ad 45), .int 0, .int 0]))] := hD
  refine lv_icmp_eq (tgt := 863) hx hb dL_law_858 (by decide) (fun hc => ?_) (fun hc => ?_)
  rotate_left; exact absurd hc (by decide)
  exact hend _ _ hS
set_option maxHeartbeats 4000000 in
set_option maxRecDepth 100000 in
theorem lc_31_69 {p : Program} {l : Launch} {e : Env} {s : State} {m : MethodId} {below : List Frame} {meth : Method} {c : Code} {b : Nat} {xs : Nat → Int32} {dC : Nat → ClassId} {dI : Nat → Nat → Nat} {cI cQ : ClassId} {A : Nat → Prop} {Q : State → Prop} (hx : p.tables.exec = Jvm.exec) (hb : c.code = cL_law) (hml : c.maxLocals = 4) (hown : s.vm.findClass RL = some m.cls) (hts : ∀ w ∈ vsL, w.before #[Value.ref b] s = true) (hX : va_X b 3 xs s s.heap) (hbl : b < s.heap.size) (hbA : ¬ A b) (hA : ∀ q : Nat, s.heap.size ≤ q → A q) (hZ : zK dC dI cI cQ s) {ad : Nat → Nat} {H : Heap} {locs : List Loc} {ls : Array Slot} (hP : va_P (dC, dI) vwCl (zF cI cQ ad) H) (hD : va_D A (zF cI cQ ad)) (hS : va_S A s.heap H locs) (hl : lv_has ls 4 [(3, .int 0), (2, .ref (ad 27)), (1, .ref (ad 0)), (0, .ref b)]) (hxs1 : xs 1 = 11) (hend : ∀ (H : Heap) (locs : List Loc), va_S A s.heap H locs → W p l e room_1 s m #[Value.ref b] below meth c H locs 46 1336 Q (F0 m 863 ls [])) : W p l e room_1 s m #[Value.ref b] below meth c H locs 46 1336 Q (F0 m 840 ls []) := by
  have hP := hP.sub (ws' := [((ad 0), .inr (11, [.ref (ad 1), .ref (ad 10), .int 0, .ref (ad 19), .ref (ad 20), .ref (ad 23), .ref (ad 25), .int 0, .ref (ad 26)])), ((ad 26), .inl (cI, 7, .inl (fun _ => 0))), ((ad 27), .inr (12, [.ref (ad 28), .ref (ad 29), .ref (ad 30), .ref (ad 31), .ref (ad 32), .ref (ad 33), .ref (ad 34), .ref (ad 35), .ref (ad 36), .int 0, .int 0, .int 10, .int 0, .int 0, .int (-9), .int 0, .ref (ad 37), .ref (ad 38), .ref (ad 39), .ref (ad 40), .int 0, .int 0, .int 0, .ref (ad 41), .int 0, .int 0, .int 0, .int (-9), .int 0, .ref (ad 42), .int 0, .int 0, .int 0, .ref (ad 43), .ref (ad 44), .ref (ad 45), .int 0, .int 0])), ((ad 28), .inl (cI, 7, .inl (fun _ => 0)))]) [0, 26, 27, 28] rfl
  have hD := hD.sub (ws' := [((ad 0), .inr (11, [.ref (ad 1), .ref (ad 10), .int 0, .ref (ad 19), .ref (ad 20), .ref (ad 23), .ref (ad 25), .int 0, .ref (ad 26)])), ((ad 26), .inl (cI, 7, .inl (fun _ => 0))), ((ad 27), .inr (12, [.ref (ad 28), .ref (ad 29), .ref (ad 30), .ref (ad 31), .ref (ad 32), .ref (ad 33), .ref (ad 34), .ref (ad 35), .ref (ad 36), .int 0, .int 0, .int 10, .int 0, .int 0, .int (-9), .int 0, .ref (ad 37), .ref (ad 38), .ref (ad 39), .ref (ad 40), .int 0, .int 0, .int 0, .ref (ad 41), .int 0, .int 0, .int 0, .int (-9), .int 0, .ref (ad 42), .int 0, .int 0, .int 0, .ref (ad 43), .ref (ad 44), .ref (ad 45), .int 0, .int 0])), ((ad 28), .inl (cI, 7, .inl (fun _ => 0)))]) [0, 26, 27, 28] (by decide) rfl
  have hK := hZ.1
  refine lv_aload_n hx hb dL_law_840 rfl (lv_at hl 2 rfl) ?_
  refine lv_aload_n hx hb dL_law_841 rfl (lv_at hl 3 rfl) ?_
  refine lv_iload_n hx hb dL_law_842 rfl (lv_at hl 0 rfl) ?_
  refine lv_iconst (v := 1) hx hb dL_law_843 (by decide) ?_
  refine lv_iadd hx hb dL_law_844 ?_
  refine lv_topi (fun y1 ey1 => ?_)
  obtain rfl : y1 = 1 := ey1.trans (by decide)
  refine va_sld hx hb hX hbl hbA hS (by unfold vp_in; decide) dL_law_845 ?_
  refine lv_topi (fun y2 ey2 => ?_)
  obtain rfl : 11 = y2 := (ey2.trans hxs1).symm
  refine z_calli (wc := [((ad 0), .inr (11, [.ref (ad 1), .ref (ad 10), .int 0, .ref (ad 19), .ref (ad 20), .ref (ad 23), .ref (ad 25), .int 0, .ref (ad 26)])), ((ad 26), .inl (cI, 7, .inl (fun _ => 0)))]) (wr := [((ad 27), .inr (12, [.ref (ad 28), .ref (ad 29), .ref (ad 30), .ref (ad 31), .ref (ad 32), .ref (ad 33), .ref (ad 34), .ref (ad 35), .ref (ad 36), .int 0, .int 0, .int 10, .int 0, .int 0, .int (-9), .int 0, .ref (ad 37), .ref (ad 38), .ref (ad 39), .ref (ad 40), .int 0, .int 0, .int 0, .ref (ad 41), .int 0, .int 0, .int 0, .int (-9), .int 0, .ref (ad 42), .int 0, .int 0, .int 0, .ref (ad 43), .ref (ad 44), .ref (ad 45), .int 0, .int 0])), ((ad 28), .inl (cI, 7, .inl (fun _ => 0)))]) (w1 := (fun _ => [])) (va_runV (As := [.int 11]) (rest := []) ⟨hx, hb, hml, hown, hts⟩ (kX11_count_10 l dC dI cI cQ (ad 0) (ad 26) (ad 1) (ad 10) (ad 19) (ad 20) (ad 23) (ad 25) H.size) (cwV 1 hts gv_L_law_X11_count_141 rfl rfl rfl (by decide +kernel) ⟨Nat.le_of_ble_eq_true rfl, Nat.le_of_ble_eq_true rfl⟩) ⟨z_blind, va_recv hK hP (ci := 11) (q0 := 0) rfl rfl, z_pre hZ hP hD [0, 1] rfl (by decide)⟩ rfl rfl hl.1 rfl (lv_room (Nat.le_of_ble_eq_true rfl)) dL_law_846 ⟨Nat.le_of_ble_eq_true rfl, Nat.le_of_ble_eq_true rfl⟩) hP hD hS hA [0, 1] [2, 3] rfl rfl (by decide) (by decide) (fun _ H locs hP hD hS => ?_)
  have hP : va_P (dC, dI) vwCl [((ad 27), .inr (12, [.ref (ad 28), .ref (ad 29), .ref (ad 30), .ref (ad 31), .ref (ad 32), .ref (ad 33), .ref (ad 34), .ref (ad 35), .ref (ad 36), .int 0, .int 0, .int 10, .int 0, .int 0, .int (-9), .int 0, .ref (ad 37), .ref (ad 38), .ref (ad 39), .ref (ad 40), .int 0, .int 0, .int 0, .ref (ad 41), .int 0, .int 0, .int 0, .int (-9), .int 0, .ref (ad 42), .int 0, .int 0, .int 0, .ref (ad 43), .ref (ad 44), .ref (ad 45), .int 0, .int 0])), ((ad 28), .inl (cI, 7, .inl (fun _ => 0)))] H := hP
  have hD : va_D A [((ad 27), .inr (12, [.ref (ad 28), .ref (ad 29), .ref (ad 30), .ref (ad 31), .ref (ad 32), .ref (ad 33), .ref (ad 34), .ref (ad 35), .ref (ad 36), .int 0, .int 0, .int 10, .int 0, .int 0, .int (-9), .int 0, .ref (ad 37), .ref (ad 38), .ref (ad 39), .ref (ad 40), .int 0, .int 0, .int 0, .ref (ad 41), .int 0, .int 0, .int 0, .int (-9), .int 0, .ref (ad 42), .int 0, .int 0, .int 0, .ref (ad 43), .ref (ad 44), .ref (ad 45), .int 0, .int 0])), ((ad 28), .inl (cI, 7, .inl (fun _ => 0)))] := hD
  refine lv_aload_n hx hb dL_law_849 rfl (lv_at hl 1 rfl) ?_
  refine lv_aload_n hx hb dL_law_850 rfl (lv_at hl 3 rfl) ?_
  refine lv_iload_n hx hb dL_law_851 rfl (lv_at hl 0 rfl) ?_
  refine lv_iconst (v := 1) hx hb dL_law_852 (by decide) ?_
  refine lv_iadd hx hb dL_law_853 ?_
  refine lv_topi (fun y4 ey4 => ?_)
  obtain rfl : y4 = 1 := ey4.trans (by decide)
  refine va_sld hx hb hX hbl hbA hS (by unfold vp_in; decide) dL_law_854 ?_
  refine lv_topi (fun y5 ey5 => ?_)
  obtain rfl : 11 = y5 := (ey5.trans hxs1).symm
  refine z_calli (wc := [((ad 27), .inr (12, [.ref (ad 28), .ref (ad 29), .ref (ad 30), .ref (ad 31), .ref (ad 32), .ref (ad 33), .ref (ad 34), .ref (ad 35), .ref (ad 36), .int 0, .int 0, .int 10, .int 0, .int 0, .int (-9), .int 0, .ref (ad 37), .ref (ad 38), .ref (ad 39), .ref (ad 40), .int 0, .int 0, .int 0, .ref (ad 41), .int 0, .int 0, .int 0, .int (-9), .int 0, .ref (ad 42), .int 0, .int 0, .int 0, .ref (ad 43), .ref (ad 44), .ref (ad 45), .int 0, .int 0])), ((ad 28), .inl (cI, 7, .inl (fun _ => 0)))]) (wr := []) (w1 := (fun _ => [])) (va_runV (As := [.int 11]) (rest := [.int 0]) ⟨hx, hb, hml, hown, hts⟩ (kX12_count_10 l dC dI cI cQ (ad 27) (ad 28) (ad 29) (ad 30) (ad 31) (ad 32) (ad 33) (ad 34) (ad 35) (ad 36) (ad 37) (ad 38) (ad 39) (ad 40) (ad 41) (ad 42) (ad 43) (ad 44) (ad 45) H.size) (cwV 1 hts gv_L_law_X12_count_144 rfl rfl rfl (by decide +kernel) ⟨Nat.le_of_ble_eq_true rfl, Nat.le_of_ble_eq_true rfl⟩) ⟨z_blind, va_recv hK hP (ci := 12) (q0 := 0) rfl rfl, z_pre hZ hP hD [0, 1] rfl (by decide)⟩ rfl rfl hl.1 rfl (lv_room (Nat.le_of_ble_eq_true rfl)) dL_law_855 ⟨Nat.le_of_ble_eq_true rfl, Nat.le_of_ble_eq_true rfl⟩) hP hD hS hA [0, 1] [] rfl rfl (by decide) (by decide) (fun _ H locs hP hD hS => ?_)
  have hP : va_P (dC, dI) vwCl [] H := hP
  have hD : va_D A [] := hD
  refine lv_icmp_eq (tgt := 863) hx hb dL_law_858 (by decide) (fun hc => ?_) (fun hc => ?_)
  rotate_left; exact absurd hc (by decide)
  exact hend _ _ hS
set_option maxHeartbeats 4000000 in
set_option maxRecDepth 100000 in
theorem lc_31_70 {p : Program} {l : Launch} {e : Env} {s : State} {m : MethodId} {below : List Frame} {meth : Method} {c : Code} {b : Nat} {xs : Nat → Int32} {dC : Nat → ClassId} {dI : Nat → Nat → Nat} {cI cQ : ClassId} {A : Nat → Prop} {Q : State → Prop} (hx : p.tables.exec = Jvm.exec) (hb : c.code = cL_law) (hml : c.maxLocals = 4) (hown : s.vm.findClass RL = some m.cls) (hts : ∀ w ∈ vsL, w.before #[Value.ref b] s = true) (hX : va_X b 3 xs s s.heap) (hbl : b < s.heap.size) (hbA : ¬ A b) (hA : ∀ q : Nat, s.heap.size ≤ q → A q) (hZ : zK dC dI cI cQ s) {ad : Nat → Nat} {H : Heap} {locs : List Loc} {ls : Array Slot} (hP : va_P (dC, dI) vwCl (zF cI cQ ad) H) (hD : va_D A (zF cI cQ ad)) (hS : va_S A s.heap H locs) (hl : lv_has ls 4 [(3, .int 0), (2, .ref (ad 27)), (1, .ref (ad 0)), (0, .ref b)]) (hxs1 : xs 1 = 12) (hend : ∀ (H : Heap) (locs : List Loc), va_S A s.heap H locs → W p l e room_1 s m #[Value.ref b] below meth c H locs 46 1336 Q (F0 m 863 ls [])) : W p l e room_1 s m #[Value.ref b] below meth c H locs 46 1336 Q (F0 m 840 ls []) := by
  have hP := hP.sub (ws' := [((ad 0), .inr (11, [.ref (ad 1), .ref (ad 10), .int 0, .ref (ad 19), .ref (ad 20), .ref (ad 23), .ref (ad 25), .int 0, .ref (ad 26)])), ((ad 26), .inl (cI, 7, .inl (fun _ => 0))), ((ad 27), .inr (12, [.ref (ad 28), .ref (ad 29), .ref (ad 30), .ref (ad 31), .ref (ad 32), .ref (ad 33), .ref (ad 34), .ref (ad 35), .ref (ad 36), .int 0, .int 0, .int 10, .int 0, .int 0, .int (-9), .int 0, .ref (ad 37), .ref (ad 38), .ref (ad 39), .ref (ad 40), .int 0, .int 0, .int 0, .ref (ad 41), .int 0, .int 0, .int 0, .int (-9), .int 0, .ref (ad 42), .int 0, .int 0, .int 0, .ref (ad 43), .ref (ad 44), .ref (ad 45), .int 0, .int 0])), ((ad 28), .inl (cI, 7, .inl (fun _ => 0)))]) [0, 26, 27, 28] rfl
  have hD := hD.sub (ws' := [((ad 0), .inr (11, [.ref (ad 1), .ref (ad 10), .int 0, .ref (ad 19), .ref (ad 20), .ref (ad 23), .ref (ad 25), .int 0, .ref (ad 26)])), ((ad 26), .inl (cI, 7, .inl (fun _ => 0))), ((ad 27), .inr (12, [.ref (ad 28), .ref (ad 29), .ref (ad 30), .ref (ad 31), .ref (ad 32), .ref (ad 33), .ref (ad 34), .ref (ad 35), .ref (ad 36), .int 0, .int 0, .int 10, .int 0, .int 0, .int (-9), .int 0, .ref (ad 37), .ref (ad 38), .ref (ad 39), .ref (ad 40), .int 0, .int 0, .int 0, .ref (ad 41), .int 0, .int 0, .int 0, .int (-9), .int 0, .ref (ad 42), .int 0, .int 0, .int 0, .ref (ad 43), .ref (ad 44), .ref (ad 45), .int 0, .int 0])), ((ad 28), .inl (cI, 7, .inl (fun _ => 0)))]) [0, 26, 27, 28] (by decide) rfl
  have hK := hZ.1
  refine lv_aload_n hx hb dL_law_840 rfl (lv_at hl 2 rfl) ?_
  refine lv_aload_n hx hb dL_law_841 rfl (lv_at hl 3 rfl) ?_
  refine lv_iload_n hx hb dL_law_842 rfl (lv_at hl 0 rfl) ?_
  refine lv_iconst (v := 1) hx hb dL_law_843 (by decide) ?_
  refine lv_iadd hx hb dL_law_844 ?_
  refine lv_topi (fun y1 ey1 => ?_)
  obtain rfl : y1 = 1 := ey1.trans (by decide)
  refine va_sld hx hb hX hbl hbA hS (by unfold vp_in; decide) dL_law_845 ?_
  refine lv_topi (fun y2 ey2 => ?_)
  obtain rfl : 12 = y2 := (ey2.trans hxs1).symm
  refine z_calli (wc := [((ad 0), .inr (11, [.ref (ad 1), .ref (ad 10), .int 0, .ref (ad 19), .ref (ad 20), .ref (ad 23), .ref (ad 25), .int 0, .ref (ad 26)])), ((ad 26), .inl (cI, 7, .inl (fun _ => 0)))]) (wr := [((ad 27), .inr (12, [.ref (ad 28), .ref (ad 29), .ref (ad 30), .ref (ad 31), .ref (ad 32), .ref (ad 33), .ref (ad 34), .ref (ad 35), .ref (ad 36), .int 0, .int 0, .int 10, .int 0, .int 0, .int (-9), .int 0, .ref (ad 37), .ref (ad 38), .ref (ad 39), .ref (ad 40), .int 0, .int 0, .int 0, .ref (ad 41), .int 0, .int 0, .int 0, .int (-9), .int 0, .ref (ad 42), .int 0, .int 0, .int 0, .ref (ad 43), .ref (ad 44), .ref (ad 45), .int 0, .int 0])), ((ad 28), .inl (cI, 7, .inl (fun _ => 0)))]) (w1 := (fun _ => [])) (va_runV (As := [.int 12]) (rest := []) ⟨hx, hb, hml, hown, hts⟩ (kX11_count_11 l dC dI cI cQ (ad 0) (ad 26) (ad 1) (ad 10) (ad 19) (ad 20) (ad 23) (ad 25) H.size) (cwV 1 hts gv_L_law_X11_count_141 rfl rfl rfl (by decide +kernel) ⟨Nat.le_of_ble_eq_true rfl, Nat.le_of_ble_eq_true rfl⟩) ⟨z_blind, va_recv hK hP (ci := 11) (q0 := 0) rfl rfl, z_pre hZ hP hD [0, 1] rfl (by decide)⟩ rfl rfl hl.1 rfl (lv_room (Nat.le_of_ble_eq_true rfl)) dL_law_846 ⟨Nat.le_of_ble_eq_true rfl, Nat.le_of_ble_eq_true rfl⟩) hP hD hS hA [0, 1] [2, 3] rfl rfl (by decide) (by decide) (fun _ H locs hP hD hS => ?_)
  have hP : va_P (dC, dI) vwCl [((ad 27), .inr (12, [.ref (ad 28), .ref (ad 29), .ref (ad 30), .ref (ad 31), .ref (ad 32), .ref (ad 33), .ref (ad 34), .ref (ad 35), .ref (ad 36), .int 0, .int 0, .int 10, .int 0, .int 0, .int (-9), .int 0, .ref (ad 37), .ref (ad 38), .ref (ad 39), .ref (ad 40), .int 0, .int 0, .int 0, .ref (ad 41), .int 0, .int 0, .int 0, .int (-9), .int 0, .ref (ad 42), .int 0, .int 0, .int 0, .ref (ad 43), .ref (ad 44), .ref (ad 45), .int 0, .int 0])), ((ad 28), .inl (cI, 7, .inl (fun _ => 0)))] H := hP
  have hD : va_D A [((ad 27), .inr (12, [.ref (ad 28), .ref (ad 29), .ref (ad 30), .ref (ad 31), .ref (ad 32), .ref (ad 33), .ref (ad 34), .ref (ad 35), .ref (ad 36), .int 0, .int 0, .int 10, .int 0, .int 0, .int (-9), .int 0, .ref (ad 37), .ref (ad 38), .ref (ad 39), .ref (ad 40), .int 0, .int 0, .int 0, .ref (ad 41), .int 0, .int 0, .int 0, .int (-9), .int 0, .ref (ad 42), .int 0, .int 0, .int 0, .ref (ad 43), .ref (ad 44), .ref (ad 45), .int 0, .int 0])), ((ad 28), .inl (cI, 7, .inl (fun _ => 0)))] := hD
  refine lv_aload_n hx hb dL_law_849 rfl (lv_at hl 1 rfl) ?_
  refine lv_aload_n hx hb dL_law_850 rfl (lv_at hl 3 rfl) ?_
  refine lv_iload_n hx hb dL_law_851 rfl (lv_at hl 0 rfl) ?_
  refine lv_iconst (v := 1) hx hb dL_law_852 (by decide) ?_
  refine lv_iadd hx hb dL_law_853 ?_
  refine lv_topi (fun y4 ey4 => ?_)
  obtain rfl : y4 = 1 := ey4.trans (by decide)
  refine va_sld hx hb hX hbl hbA hS (by unfold vp_in; decide) dL_law_854 ?_
  refine lv_topi (fun y5 ey5 => ?_)
  obtain rfl : 12 = y5 := (ey5.trans hxs1).symm
  refine z_calli (wc := [((ad 27), .inr (12, [.ref (ad 28), .ref (ad 29), .ref (ad 30), .ref (ad 31), .ref (ad 32), .ref (ad 33), .ref (ad 34), .ref (ad 35), .ref (ad 36), .int 0, .int 0, .int 10, .int 0, .int 0, .int (-9), .int 0, .ref (ad 37), .ref (ad 38), .ref (ad 39), .ref (ad 40), .int 0, .int 0, .int 0, .ref (ad 41), .int 0, .int 0, .int 0, .int (-9), .int 0, .ref (ad 42), .int 0, .int 0, .int 0, .ref (ad 43), .ref (ad 44), .ref (ad 45), .int 0, .int 0])), ((ad 28), .inl (cI, 7, .inl (fun _ => 0)))]) (wr := []) (w1 := (fun _ => [])) (va_runV (As := [.int 12]) (rest := [.int 0]) ⟨hx, hb, hml, hown, hts⟩ (kX12_count_11 l dC dI cI cQ (ad 27) (ad 28) (ad 29) (ad 30) (ad 31) (ad 32) (ad 33) (ad 34) (ad 35) (ad 36) (ad 37) (ad 38) (ad 39) (ad 40) (ad 41) (ad 42) (ad 43) (ad 44) (ad 45) H.size) (cwV 1 hts gv_L_law_X12_count_144 rfl rfl rfl (by decide +kernel) ⟨Nat.le_of_ble_eq_true rfl, Nat.le_of_ble_eq_true rfl⟩) ⟨z_blind, va_recv hK hP (ci := 12) (q0 := 0) rfl rfl, z_pre hZ hP hD [0, 1] rfl (by decide)⟩ rfl rfl hl.1 rfl (lv_room (Nat.le_of_ble_eq_true rfl)) dL_law_855 ⟨Nat.le_of_ble_eq_true rfl, Nat.le_of_ble_eq_true rfl⟩) hP hD hS hA [0, 1] [] rfl rfl (by decide) (by decide) (fun _ H locs hP hD hS => ?_)
  have hP : va_P (dC, dI) vwCl [] H := hP
  have hD : va_D A [] := hD
  refine lv_icmp_eq (tgt := 863) hx hb dL_law_858 (by decide) (fun hc => ?_) (fun hc => ?_)
  rotate_left; exact absurd hc (by decide)
  exact hend _ _ hS
set_option maxHeartbeats 4000000 in
set_option maxRecDepth 100000 in
theorem lc_31_71 {p : Program} {l : Launch} {e : Env} {s : State} {m : MethodId} {below : List Frame} {meth : Method} {c : Code} {b : Nat} {xs : Nat → Int32} {dC : Nat → ClassId} {dI : Nat → Nat → Nat} {cI cQ : ClassId} {A : Nat → Prop} {Q : State → Prop} (hx : p.tables.exec = Jvm.exec) (hb : c.code = cL_law) (hml : c.maxLocals = 4) (hown : s.vm.findClass RL = some m.cls) (hts : ∀ w ∈ vsL, w.before #[Value.ref b] s = true) (hX : va_X b 3 xs s s.heap) (hbl : b < s.heap.size) (hbA : ¬ A b) (hA : ∀ q : Nat, s.heap.size ≤ q → A q) (hZ : zK dC dI cI cQ s) {ad : Nat → Nat} {H : Heap} {locs : List Loc} {ls : Array Slot} (hP : va_P (dC, dI) vwCl (zF cI cQ ad) H) (hD : va_D A (zF cI cQ ad)) (hS : va_S A s.heap H locs) (hl : lv_has ls 4 [(3, .int 0), (2, .ref (ad 27)), (1, .ref (ad 0)), (0, .ref b)]) (hxs1 : xs 1 = 13) (hend : ∀ (H : Heap) (locs : List Loc), va_S A s.heap H locs → W p l e room_1 s m #[Value.ref b] below meth c H locs 46 1336 Q (F0 m 863 ls [])) : W p l e room_1 s m #[Value.ref b] below meth c H locs 46 1336 Q (F0 m 840 ls []) := by
  have hP := hP.sub (ws' := [((ad 0), .inr (11, [.ref (ad 1), .ref (ad 10), .int 0, .ref (ad 19), .ref (ad 20), .ref (ad 23), .ref (ad 25), .int 0, .ref (ad 26)])), ((ad 26), .inl (cI, 7, .inl (fun _ => 0))), ((ad 27), .inr (12, [.ref (ad 28), .ref (ad 29), .ref (ad 30), .ref (ad 31), .ref (ad 32), .ref (ad 33), .ref (ad 34), .ref (ad 35), .ref (ad 36), .int 0, .int 0, .int 10, .int 0, .int 0, .int (-9), .int 0, .ref (ad 37), .ref (ad 38), .ref (ad 39), .ref (ad 40), .int 0, .int 0, .int 0, .ref (ad 41), .int 0, .int 0, .int 0, .int (-9), .int 0, .ref (ad 42), .int 0, .int 0, .int 0, .ref (ad 43), .ref (ad 44), .ref (ad 45), .int 0, .int 0])), ((ad 28), .inl (cI, 7, .inl (fun _ => 0)))]) [0, 26, 27, 28] rfl
  have hD := hD.sub (ws' := [((ad 0), .inr (11, [.ref (ad 1), .ref (ad 10), .int 0, .ref (ad 19), .ref (ad 20), .ref (ad 23), .ref (ad 25), .int 0, .ref (ad 26)])), ((ad 26), .inl (cI, 7, .inl (fun _ => 0))), ((ad 27), .inr (12, [.ref (ad 28), .ref (ad 29), .ref (ad 30), .ref (ad 31), .ref (ad 32), .ref (ad 33), .ref (ad 34), .ref (ad 35), .ref (ad 36), .int 0, .int 0, .int 10, .int 0, .int 0, .int (-9), .int 0, .ref (ad 37), .ref (ad 38), .ref (ad 39), .ref (ad 40), .int 0, .int 0, .int 0, .ref (ad 41), .int 0, .int 0, .int 0, .int (-9), .int 0, .ref (ad 42), .int 0, .int 0, .int 0, .ref (ad 43), .ref (ad 44), .ref (ad 45), .int 0, .int 0])), ((ad 28), .inl (cI, 7, .inl (fun _ => 0)))]) [0, 26, 27, 28] (by decide) rfl
  have hK := hZ.1
  refine lv_aload_n hx hb dL_law_840 rfl (lv_at hl 2 rfl) ?_
  refine lv_aload_n hx hb dL_law_841 rfl (lv_at hl 3 rfl) ?_
  refine lv_iload_n hx hb dL_law_842 rfl (lv_at hl 0 rfl) ?_
  refine lv_iconst (v := 1) hx hb dL_law_843 (by decide) ?_
  refine lv_iadd hx hb dL_law_844 ?_
  refine lv_topi (fun y1 ey1 => ?_)
  obtain rfl : y1 = 1 := ey1.trans (by decide)
  refine va_sld hx hb hX hbl hbA hS (by unfold vp_in; decide) dL_law_845 ?_
  refine lv_topi (fun y2 ey2 => ?_)
  obtain rfl : 13 = y2 := (ey2.trans hxs1).symm
  refine z_calli (wc := [((ad 0), .inr (11, [.ref (ad 1), .ref (ad 10), .int 0, .ref (ad 19), .ref (ad 20), .ref (ad 23), .ref (ad 25), .int 0, .ref (ad 26)])), ((ad 26), .inl (cI, 7, .inl (fun _ => 0)))]) (wr := [((ad 27), .inr (12, [.ref (ad 28), .ref (ad 29), .ref (ad 30), .ref (ad 31), .ref (ad 32), .ref (ad 33), .ref (ad 34), .ref (ad 35), .ref (ad 36), .int 0, .int 0, .int 10, .int 0, .int 0, .int (-9), .int 0, .ref (ad 37), .ref (ad 38), .ref (ad 39), .ref (ad 40), .int 0, .int 0, .int 0, .ref (ad 41), .int 0, .int 0, .int 0, .int (-9), .int 0, .ref (ad 42), .int 0, .int 0, .int 0, .ref (ad 43), .ref (ad 44), .ref (ad 45), .int 0, .int 0])), ((ad 28), .inl (cI, 7, .inl (fun _ => 0)))]) (w1 := (fun _ => [])) (va_runV (As := [.int 13]) (rest := []) ⟨hx, hb, hml, hown, hts⟩ (kX11_count_12 l dC dI cI cQ (ad 0) (ad 26) (ad 1) (ad 10) (ad 19) (ad 20) (ad 23) (ad 25) H.size) (cwV 1 hts gv_L_law_X11_count_141 rfl rfl rfl (by decide +kernel) ⟨Nat.le_of_ble_eq_true rfl, Nat.le_of_ble_eq_true rfl⟩) ⟨z_blind, va_recv hK hP (ci := 11) (q0 := 0) rfl rfl, z_pre hZ hP hD [0, 1] rfl (by decide)⟩ rfl rfl hl.1 rfl (lv_room (Nat.le_of_ble_eq_true rfl)) dL_law_846 ⟨Nat.le_of_ble_eq_true rfl, Nat.le_of_ble_eq_true rfl⟩) hP hD hS hA [0, 1] [2, 3] rfl rfl (by decide) (by decide) (fun _ H locs hP hD hS => ?_)
  have hP : va_P (dC, dI) vwCl [((ad 27), .inr (12, [.ref (ad 28), .ref (ad 29), .ref (ad 30), .ref (ad 31), .ref (ad 32), .ref (ad 33), .ref (ad 34), .ref (ad 35), .ref (ad 36), .int 0, .int 0, .int 10, .int 0, .int 0, .int (-9), .int 0, .ref (ad 37), .ref (ad 38), .ref (ad 39), .ref (ad 40), .int 0, .int 0, .int 0, .ref (ad 41), .int 0, .int 0, .int 0, .int (-9), .int 0, .ref (ad 42), .int 0, .int 0, .int 0, .ref (ad 43), .ref (ad 44), .ref (ad 45), .int 0, .int 0])), ((ad 28), .inl (cI, 7, .inl (fun _ => 0)))] H := hP
  have hD : va_D A [((ad 27), .inr (12, [.ref (ad 28), .ref (ad 29), .ref (ad 30), .ref (ad 31), .ref (ad 32), .ref (ad 33), .ref (ad 34), .ref (ad 35), .ref (ad 36), .int 0, .int 0, .int 10, .int 0, .int 0, .int (-9), .int 0, .ref (ad 37), .ref (ad 38), .ref (ad 39), .ref (ad 40), .int 0, .int 0, .int 0, .ref (ad 41), .int 0, .int 0, .int 0, .int (-9), .int 0, .ref (ad 42), .int 0, .int 0, .int 0, .ref (ad 43), .ref (ad 44), .ref (ad 45), .int 0, .int 0])), ((ad 28), .inl (cI, 7, .inl (fun _ => 0)))] := hD
  refine lv_aload_n hx hb dL_law_849 rfl (lv_at hl 1 rfl) ?_
  refine lv_aload_n hx hb dL_law_850 rfl (lv_at hl 3 rfl) ?_
  refine lv_iload_n hx hb dL_law_851 rfl (lv_at hl 0 rfl) ?_
  refine lv_iconst (v := 1) hx hb dL_law_852 (by decide) ?_
  refine lv_iadd hx hb dL_law_853 ?_
  refine lv_topi (fun y4 ey4 => ?_)
  obtain rfl : y4 = 1 := ey4.trans (by decide)
  refine va_sld hx hb hX hbl hbA hS (by unfold vp_in; decide) dL_law_854 ?_
  refine lv_topi (fun y5 ey5 => ?_)
  obtain rfl : 13 = y5 := (ey5.trans hxs1).symm
  refine z_calli (wc := [((ad 27), .inr (12, [.ref (ad 28), .ref (ad 29), .ref (ad 30), .ref (ad 31), .ref (ad 32), .ref (ad 33), .ref (ad 34), .ref (ad 35), .ref (ad 36), .int 0, .int 0, .int 10, .int 0, .int 0, .int (-9), .int 0, .ref (ad 37), .ref (ad 38), .ref (ad 39), .ref (ad 40), .int 0, .int 0, .int 0, .ref (ad 41), .int 0, .int 0, .int 0, .int (-9), .int 0, .ref (ad 42), .int 0, .int 0, .int 0, .ref (ad 43), .ref (ad 44), .ref (ad 45), .int 0, .int 0])), ((ad 28), .inl (cI, 7, .inl (fun _ => 0)))]) (wr := []) (w1 := (fun _ => [])) (va_runV (As := [.int 13]) (rest := [.int 0]) ⟨hx, hb, hml, hown, hts⟩ (kX12_count_12 l dC dI cI cQ (ad 27) (ad 28) (ad 29) (ad 30) (ad 31) (ad 32) (ad 33) (ad 34) (ad 35) (ad 36) (ad 37) (ad 38) (ad 39) (ad 40) (ad 41) (ad 42) (ad 43) (ad 44) (ad 45) H.size) (cwV 1 hts gv_L_law_X12_count_144 rfl rfl rfl (by decide +kernel) ⟨Nat.le_of_ble_eq_true rfl, Nat.le_of_ble_eq_true rfl⟩) ⟨z_blind, va_recv hK hP (ci := 12) (q0 := 0) rfl rfl, z_pre hZ hP hD [0, 1] rfl (by decide)⟩ rfl rfl hl.1 rfl (lv_room (Nat.le_of_ble_eq_true rfl)) dL_law_855 ⟨Nat.le_of_ble_eq_true rfl, Nat.le_of_ble_eq_true rfl⟩) hP hD hS hA [0, 1] [] rfl rfl (by decide) (by decide) (fun _ H locs hP hD hS => ?_)
  have hP : va_P (dC, dI) vwCl [] H := hP
  have hD : va_D A [] := hD
  refine lv_icmp_eq (tgt := 863) hx hb dL_law_858 (by decide) (fun hc => ?_) (fun hc => ?_)
  rotate_left; exact absurd hc (by decide)
  exact hend _ _ hS
set_option maxHeartbeats 4000000 in
set_option maxRecDepth 100000 in
theorem lc_31_72 {p : Program} {l : Launch} {e : Env} {s : State} {m : MethodId} {below : List Frame} {meth : Method} {c : Code} {b : Nat} {xs : Nat → Int32} {dC : Nat → ClassId} {dI : Nat → Nat → Nat} {cI cQ : ClassId} {A : Nat → Prop} {Q : State → Prop} (hx : p.tables.exec = Jvm.exec) (hb : c.code = cL_law) (hml : c.maxLocals = 4) (hown : s.vm.findClass RL = some m.cls) (hts : ∀ w ∈ vsL, w.before #[Value.ref b] s = true) (hX : va_X b 3 xs s s.heap) (hbl : b < s.heap.size) (hbA : ¬ A b) (hA : ∀ q : Nat, s.heap.size ≤ q → A q) (hZ : zK dC dI cI cQ s) {ad : Nat → Nat} {H : Heap} {locs : List Loc} {ls : Array Slot} (hP : va_P (dC, dI) vwCl (zF cI cQ ad) H) (hD : va_D A (zF cI cQ ad)) (hS : va_S A s.heap H locs) (hl : lv_has ls 4 [(3, .int 0), (2, .ref (ad 27)), (1, .ref (ad 0)), (0, .ref b)]) (hxs1 : xs 1 = 14) (hend : ∀ (H : Heap) (locs : List Loc), va_S A s.heap H locs → W p l e room_1 s m #[Value.ref b] below meth c H locs 46 1336 Q (F0 m 863 ls [])) : W p l e room_1 s m #[Value.ref b] below meth c H locs 46 1336 Q (F0 m 840 ls []) := by
  have hP := hP.sub (ws' := [((ad 0), .inr (11, [.ref (ad 1), .ref (ad 10), .int 0, .ref (ad 19), .ref (ad 20), .ref (ad 23), .ref (ad 25), .int 0, .ref (ad 26)])), ((ad 26), .inl (cI, 7, .inl (fun _ => 0))), ((ad 27), .inr (12, [.ref (ad 28), .ref (ad 29), .ref (ad 30), .ref (ad 31), .ref (ad 32), .ref (ad 33), .ref (ad 34), .ref (ad 35), .ref (ad 36), .int 0, .int 0, .int 10, .int 0, .int 0, .int (-9), .int 0, .ref (ad 37), .ref (ad 38), .ref (ad 39), .ref (ad 40), .int 0, .int 0, .int 0, .ref (ad 41), .int 0, .int 0, .int 0, .int (-9), .int 0, .ref (ad 42), .int 0, .int 0, .int 0, .ref (ad 43), .ref (ad 44), .ref (ad 45), .int 0, .int 0])), ((ad 28), .inl (cI, 7, .inl (fun _ => 0)))]) [0, 26, 27, 28] rfl
  have hD := hD.sub (ws' := [((ad 0), .inr (11, [.ref (ad 1), .ref (ad 10), .int 0, .ref (ad 19), .ref (ad 20), .ref (ad 23), .ref (ad 25), .int 0, .ref (ad 26)])), ((ad 26), .inl (cI, 7, .inl (fun _ => 0))), ((ad 27), .inr (12, [.ref (ad 28), .ref (ad 29), .ref (ad 30), .ref (ad 31), .ref (ad 32), .ref (ad 33), .ref (ad 34), .ref (ad 35), .ref (ad 36), .int 0, .int 0, .int 10, .int 0, .int 0, .int (-9), .int 0, .ref (ad 37), .ref (ad 38), .ref (ad 39), .ref (ad 40), .int 0, .int 0, .int 0, .ref (ad 41), .int 0, .int 0, .int 0, .int (-9), .int 0, .ref (ad 42), .int 0, .int 0, .int 0, .ref (ad 43), .ref (ad 44), .ref (ad 45), .int 0, .int 0])), ((ad 28), .inl (cI, 7, .inl (fun _ => 0)))]) [0, 26, 27, 28] (by decide) rfl
  have hK := hZ.1
  refine lv_aload_n hx hb dL_law_840 rfl (lv_at hl 2 rfl) ?_
  refine lv_aload_n hx hb dL_law_841 rfl (lv_at hl 3 rfl) ?_
  refine lv_iload_n hx hb dL_law_842 rfl (lv_at hl 0 rfl) ?_
  refine lv_iconst (v := 1) hx hb dL_law_843 (by decide) ?_
  refine lv_iadd hx hb dL_law_844 ?_
  refine lv_topi (fun y1 ey1 => ?_)
  obtain rfl : y1 = 1 := ey1.trans (by decide)
  refine va_sld hx hb hX hbl hbA hS (by unfold vp_in; decide) dL_law_845 ?_
  refine lv_topi (fun y2 ey2 => ?_)
  obtain rfl : 14 = y2 := (ey2.trans hxs1).symm
  refine z_calli (wc := [((ad 0), .inr (11, [.ref (ad 1), .ref (ad 10), .int 0, .ref (ad 19), .ref (ad 20), .ref (ad 23), .ref (ad 25), .int 0, .ref (ad 26)])), ((ad 26), .inl (cI, 7, .inl (fun _ => 0)))]) (wr := [((ad 27), .inr (12, [.ref (ad 28), .ref (ad 29), .ref (ad 30), .ref (ad 31), .ref (ad 32), .ref (ad 33), .ref (ad 34), .ref (ad 35), .ref (ad 36), .int 0, .int 0, .int 10, .int 0, .int 0, .int (-9), .int 0, .ref (ad 37), .ref (ad 38), .ref (ad 39), .ref (ad 40), .int 0, .int 0, .int 0, .ref (ad 41), .int 0, .int 0, .int 0, .int (-9), .int 0, .ref (ad 42), .int 0, .int 0, .int 0, .ref (ad 43), .ref (ad 44), .ref (ad 45), .int 0, .int 0])), ((ad 28), .inl (cI, 7, .inl (fun _ => 0)))]) (w1 := (fun _ => [])) (va_runV (As := [.int 14]) (rest := []) ⟨hx, hb, hml, hown, hts⟩ (kX11_count_13 l dC dI cI cQ (ad 0) (ad 26) (ad 1) (ad 10) (ad 19) (ad 20) (ad 23) (ad 25) H.size) (cwV 1 hts gv_L_law_X11_count_141 rfl rfl rfl (by decide +kernel) ⟨Nat.le_of_ble_eq_true rfl, Nat.le_of_ble_eq_true rfl⟩) ⟨z_blind, va_recv hK hP (ci := 11) (q0 := 0) rfl rfl, z_pre hZ hP hD [0, 1] rfl (by decide)⟩ rfl rfl hl.1 rfl (lv_room (Nat.le_of_ble_eq_true rfl)) dL_law_846 ⟨Nat.le_of_ble_eq_true rfl, Nat.le_of_ble_eq_true rfl⟩) hP hD hS hA [0, 1] [2, 3] rfl rfl (by decide) (by decide) (fun _ H locs hP hD hS => ?_)
  have hP : va_P (dC, dI) vwCl [((ad 27), .inr (12, [.ref (ad 28), .ref (ad 29), .ref (ad 30), .ref (ad 31), .ref (ad 32), .ref (ad 33), .ref (ad 34), .ref (ad 35), .ref (ad 36), .int 0, .int 0, .int 10, .int 0, .int 0, .int (-9), .int 0, .ref (ad 37), .ref (ad 38), .ref (ad 39), .ref (ad 40), .int 0, .int 0, .int 0, .ref (ad 41), .int 0, .int 0, .int 0, .int (-9), .int 0, .ref (ad 42), .int 0, .int 0, .int 0, .ref (ad 43), .ref (ad 44), .ref (ad 45), .int 0, .int 0])), ((ad 28), .inl (cI, 7, .inl (fun _ => 0)))] H := hP
  have hD : va_D A [((ad 27), .inr (12, [.ref (ad 28), .ref (ad 29), .ref (ad 30), .ref (ad 31), .ref (ad 32), .ref (ad 33), .ref (ad 34), .ref (ad 35), .ref (ad 36), .int 0, .int 0, .int 10, .int 0, .int 0, .int (-9), .int 0, .ref (ad 37), .ref (ad 38), .ref (ad 39), .ref (ad 40), .int 0, .int 0, .int 0, .ref (ad 41), .int 0, .int 0, .int 0, .int (-9), .int 0, .ref (ad 42), .int 0, .int 0, .int 0, .ref (ad 43), .ref (ad 44), .ref (ad 45), .int 0, .int 0])), ((ad 28), .inl (cI, 7, .inl (fun _ => 0)))] := hD
  refine lv_aload_n hx hb dL_law_849 rfl (lv_at hl 1 rfl) ?_
  refine lv_aload_n hx hb dL_law_850 rfl (lv_at hl 3 rfl) ?_
  refine lv_iload_n hx hb dL_law_851 rfl (lv_at hl 0 rfl) ?_
  refine lv_iconst (v := 1) hx hb dL_law_852 (by decide) ?_
  refine lv_iadd hx hb dL_law_853 ?_
  refine lv_topi (fun y4 ey4 => ?_)
  obtain rfl : y4 = 1 := ey4.trans (by decide)
  refine va_sld hx hb hX hbl hbA hS (by unfold vp_in; decide) dL_law_854 ?_
  refine lv_topi (fun y5 ey5 => ?_)
  obtain rfl : 14 = y5 := (ey5.trans hxs1).symm
  refine z_calli (wc := [((ad 27), .inr (12, [.ref (ad 28), .ref (ad 29), .ref (ad 30), .ref (ad 31), .ref (ad 32), .ref (ad 33), .ref (ad 34), .ref (ad 35), .ref (ad 36), .int 0, .int 0, .int 10, .int 0, .int 0, .int (-9), .int 0, .ref (ad 37), .ref (ad 38), .ref (ad 39), .ref (ad 40), .int 0, .int 0, .int 0, .ref (ad 41), .int 0, .int 0, .int 0, .int (-9), .int 0, .ref (ad 42), .int 0, .int 0, .int 0, .ref (ad 43), .ref (ad 44), .ref (ad 45), .int 0, .int 0])), ((ad 28), .inl (cI, 7, .inl (fun _ => 0)))]) (wr := []) (w1 := (fun _ => [])) (va_runV (As := [.int 14]) (rest := [.int 0]) ⟨hx, hb, hml, hown, hts⟩ (kX12_count_13 l dC dI cI cQ (ad 27) (ad 28) (ad 29) (ad 30) (ad 31) (ad 32) (ad 33) (ad 34) (ad 35) (ad 36) (ad 37) (ad 38) (ad 39) (ad 40) (ad 41) (ad 42) (ad 43) (ad 44) (ad 45) H.size) (cwV 1 hts gv_L_law_X12_count_144 rfl rfl rfl (by decide +kernel) ⟨Nat.le_of_ble_eq_true rfl, Nat.le_of_ble_eq_true rfl⟩) ⟨z_blind, va_recv hK hP (ci := 12) (q0 := 0) rfl rfl, z_pre hZ hP hD [0, 1] rfl (by decide)⟩ rfl rfl hl.1 rfl (lv_room (Nat.le_of_ble_eq_true rfl)) dL_law_855 ⟨Nat.le_of_ble_eq_true rfl, Nat.le_of_ble_eq_true rfl⟩) hP hD hS hA [0, 1] [] rfl rfl (by decide) (by decide) (fun _ H locs hP hD hS => ?_)
  have hP : va_P (dC, dI) vwCl [] H := hP
  have hD : va_D A [] := hD
  refine lv_icmp_eq (tgt := 863) hx hb dL_law_858 (by decide) (fun hc => ?_) (fun hc => ?_)
  rotate_left; exact absurd hc (by decide)
  exact hend _ _ hS
set_option maxHeartbeats 4000000 in
set_option maxRecDepth 100000 in
theorem lc_31_73 {p : Program} {l : Launch} {e : Env} {s : State} {m : MethodId} {below : List Frame} {meth : Method} {c : Code} {b : Nat} {xs : Nat → Int32} {dC : Nat → ClassId} {dI : Nat → Nat → Nat} {cI cQ : ClassId} {A : Nat → Prop} {Q : State → Prop} (hx : p.tables.exec = Jvm.exec) (hb : c.code = cL_law) (hml : c.maxLocals = 4) (hown : s.vm.findClass RL = some m.cls) (hts : ∀ w ∈ vsL, w.before #[Value.ref b] s = true) (hX : va_X b 3 xs s s.heap) (hbl : b < s.heap.size) (hbA : ¬ A b) (hA : ∀ q : Nat, s.heap.size ≤ q → A q) (hZ : zK dC dI cI cQ s) {ad : Nat → Nat} {H : Heap} {locs : List Loc} {ls : Array Slot} (hP : va_P (dC, dI) vwCl (zF cI cQ ad) H) (hD : va_D A (zF cI cQ ad)) (hS : va_S A s.heap H locs) (hl : lv_has ls 4 [(3, .int 0), (2, .ref (ad 27)), (1, .ref (ad 0)), (0, .ref b)]) (hxs1 : xs 1 = 15) (hend : ∀ (H : Heap) (locs : List Loc), va_S A s.heap H locs → W p l e room_1 s m #[Value.ref b] below meth c H locs 46 1336 Q (F0 m 863 ls [])) : W p l e room_1 s m #[Value.ref b] below meth c H locs 46 1336 Q (F0 m 840 ls []) := by
  have hP := hP.sub (ws' := [((ad 0), .inr (11, [.ref (ad 1), .ref (ad 10), .int 0, .ref (ad 19), .ref (ad 20), .ref (ad 23), .ref (ad 25), .int 0, .ref (ad 26)])), ((ad 26), .inl (cI, 7, .inl (fun _ => 0))), ((ad 27), .inr (12, [.ref (ad 28), .ref (ad 29), .ref (ad 30), .ref (ad 31), .ref (ad 32), .ref (ad 33), .ref (ad 34), .ref (ad 35), .ref (ad 36), .int 0, .int 0, .int 10, .int 0, .int 0, .int (-9), .int 0, .ref (ad 37), .ref (ad 38), .ref (ad 39), .ref (ad 40), .int 0, .int 0, .int 0, .ref (ad 41), .int 0, .int 0, .int 0, .int (-9), .int 0, .ref (ad 42), .int 0, .int 0, .int 0, .ref (ad 43), .ref (ad 44), .ref (ad 45), .int 0, .int 0])), ((ad 28), .inl (cI, 7, .inl (fun _ => 0)))]) [0, 26, 27, 28] rfl
  have hD := hD.sub (ws' := [((ad 0), .inr (11, [.ref (ad 1), .ref (ad 10), .int 0, .ref (ad 19), .ref (ad 20), .ref (ad 23), .ref (ad 25), .int 0, .ref (ad 26)])), ((ad 26), .inl (cI, 7, .inl (fun _ => 0))), ((ad 27), .inr (12, [.ref (ad 28), .ref (ad 29), .ref (ad 30), .ref (ad 31), .ref (ad 32), .ref (ad 33), .ref (ad 34), .ref (ad 35), .ref (ad 36), .int 0, .int 0, .int 10, .int 0, .int 0, .int (-9), .int 0, .ref (ad 37), .ref (ad 38), .ref (ad 39), .ref (ad 40), .int 0, .int 0, .int 0, .ref (ad 41), .int 0, .int 0, .int 0, .int (-9), .int 0, .ref (ad 42), .int 0, .int 0, .int 0, .ref (ad 43), .ref (ad 44), .ref (ad 45), .int 0, .int 0])), ((ad 28), .inl (cI, 7, .inl (fun _ => 0)))]) [0, 26, 27, 28] (by decide) rfl
  have hK := hZ.1
  refine lv_aload_n hx hb dL_law_840 rfl (lv_at hl 2 rfl) ?_
  refine lv_aload_n hx hb dL_law_841 rfl (lv_at hl 3 rfl) ?_
  refine lv_iload_n hx hb dL_law_842 rfl (lv_at hl 0 rfl) ?_
  refine lv_iconst (v := 1) hx hb dL_law_843 (by decide) ?_
  refine lv_iadd hx hb dL_law_844 ?_
  refine lv_topi (fun y1 ey1 => ?_)
  obtain rfl : y1 = 1 := ey1.trans (by decide)
  refine va_sld hx hb hX hbl hbA hS (by unfold vp_in; decide) dL_law_845 ?_
  refine lv_topi (fun y2 ey2 => ?_)
  obtain rfl : 15 = y2 := (ey2.trans hxs1).symm
  refine z_calli (wc := [((ad 0), .inr (11, [.ref (ad 1), .ref (ad 10), .int 0, .ref (ad 19), .ref (ad 20), .ref (ad 23), .ref (ad 25), .int 0, .ref (ad 26)])), ((ad 26), .inl (cI, 7, .inl (fun _ => 0)))]) (wr := [((ad 27), .inr (12, [.ref (ad 28), .ref (ad 29), .ref (ad 30), .ref (ad 31), .ref (ad 32), .ref (ad 33), .ref (ad 34), .ref (ad 35), .ref (ad 36), .int 0, .int 0, .int 10, .int 0, .int 0, .int (-9), .int 0, .ref (ad 37), .ref (ad 38), .ref (ad 39), .ref (ad 40), .int 0, .int 0, .int 0, .ref (ad 41), .int 0, .int 0, .int 0, .int (-9), .int 0, .ref (ad 42), .int 0, .int 0, .int 0, .ref (ad 43), .ref (ad 44), .ref (ad 45), .int 0, .int 0])), ((ad 28), .inl (cI, 7, .inl (fun _ => 0)))]) (w1 := (fun _ => [])) (va_runV (As := [.int 15]) (rest := []) ⟨hx, hb, hml, hown, hts⟩ (kX11_count_14 l dC dI cI cQ (ad 0) (ad 26) (ad 1) (ad 10) (ad 19) (ad 20) (ad 23) (ad 25) H.size) (cwV 1 hts gv_L_law_X11_count_141 rfl rfl rfl (by decide +kernel) ⟨Nat.le_of_ble_eq_true rfl, Nat.le_of_ble_eq_true rfl⟩) ⟨z_blind, va_recv hK hP (ci := 11) (q0 := 0) rfl rfl, z_pre hZ hP hD [0, 1] rfl (by decide)⟩ rfl rfl hl.1 rfl (lv_room (Nat.le_of_ble_eq_true rfl)) dL_law_846 ⟨Nat.le_of_ble_eq_true rfl, Nat.le_of_ble_eq_true rfl⟩) hP hD hS hA [0, 1] [2, 3] rfl rfl (by decide) (by decide) (fun _ H locs hP hD hS => ?_)
  have hP : va_P (dC, dI) vwCl [((ad 27), .inr (12, [.ref (ad 28), .ref (ad 29), .ref (ad 30), .ref (ad 31), .ref (ad 32), .ref (ad 33), .ref (ad 34), .ref (ad 35), .ref (ad 36), .int 0, .int 0, .int 10, .int 0, .int 0, .int (-9), .int 0, .ref (ad 37), .ref (ad 38), .ref (ad 39), .ref (ad 40), .int 0, .int 0, .int 0, .ref (ad 41), .int 0, .int 0, .int 0, .int (-9), .int 0, .ref (ad 42), .int 0, .int 0, .int 0, .ref (ad 43), .ref (ad 44), .ref (ad 45), .int 0, .int 0])), ((ad 28), .inl (cI, 7, .inl (fun _ => 0)))] H := hP
  have hD : va_D A [((ad 27), .inr (12, [.ref (ad 28), .ref (ad 29), .ref (ad 30), .ref (ad 31), .ref (ad 32), .ref (ad 33), .ref (ad 34), .ref (ad 35), .ref (ad 36), .int 0, .int 0, .int 10, .int 0, .int 0, .int (-9), .int 0, .ref (ad 37), .ref (ad 38), .ref (ad 39), .ref (ad 40), .int 0, .int 0, .int 0, .ref (ad 41), .int 0, .int 0, .int 0, .int (-9), .int 0, .ref (ad 42), .int 0, .int 0, .int 0, .ref (ad 43), .ref (ad 44), .ref (ad 45), .int 0, .int 0])), ((ad 28), .inl (cI, 7, .inl (fun _ => 0)))] := hD
  refine lv_aload_n hx hb dL_law_849 rfl (lv_at hl 1 rfl) ?_
  refine lv_aload_n hx hb dL_law_850 rfl (lv_at hl 3 rfl) ?_
  refine lv_iload_n hx hb dL_law_851 rfl (lv_at hl 0 rfl) ?_
  refine lv_iconst (v := 1) hx hb dL_law_852 (by decide) ?_
  refine lv_iadd hx hb dL_law_853 ?_
  refine lv_topi (fun y4 ey4 => ?_)
  obtain rfl : y4 = 1 := ey4.trans (by decide)
  refine va_sld hx hb hX hbl hbA hS (by unfold vp_in; decide) dL_law_854 ?_
  refine lv_topi (fun y5 ey5 => ?_)
  obtain rfl : 15 = y5 := (ey5.trans hxs1).symm
  refine z_calli (wc := [((ad 27), .inr (12, [.ref (ad 28), .ref (ad 29), .ref (ad 30), .ref (ad 31), .ref (ad 32), .ref (ad 33), .ref (ad 34), .ref (ad 35), .ref (ad 36), .int 0, .int 0, .int 10, .int 0, .int 0, .int (-9), .int 0, .ref (ad 37), .ref (ad 38), .ref (ad 39), .ref (ad 40), .int 0, .int 0, .int 0, .ref (ad 41), .int 0, .int 0, .int 0, .int (-9), .int 0, .ref (ad 42), .int 0, .int 0, .int 0, .ref (ad 43), .ref (ad 44), .ref (ad 45), .int 0, .int 0])), ((ad 28), .inl (cI, 7, .inl (fun _ => 0)))]) (wr := []) (w1 := (fun _ => [])) (va_runV (As := [.int 15]) (rest := [.int 0]) ⟨hx, hb, hml, hown, hts⟩ (kX12_count_14 l dC dI cI cQ (ad 27) (ad 28) (ad 29) (ad 30) (ad 31) (ad 32) (ad 33) (ad 34) (ad 35) (ad 36) (ad 37) (ad 38) (ad 39) (ad 40) (ad 41) (ad 42) (ad 43) (ad 44) (ad 45) H.size) (cwV 1 hts gv_L_law_X12_count_144 rfl rfl rfl (by decide +kernel) ⟨Nat.le_of_ble_eq_true rfl, Nat.le_of_ble_eq_true rfl⟩) ⟨z_blind, va_recv hK hP (ci := 12) (q0 := 0) rfl rfl, z_pre hZ hP hD [0, 1] rfl (by decide)⟩ rfl rfl hl.1 rfl (lv_room (Nat.le_of_ble_eq_true rfl)) dL_law_855 ⟨Nat.le_of_ble_eq_true rfl, Nat.le_of_ble_eq_true rfl⟩) hP hD hS hA [0, 1] [] rfl rfl (by decide) (by decide) (fun _ H locs hP hD hS => ?_)
  have hP : va_P (dC, dI) vwCl [] H := hP
  have hD : va_D A [] := hD
  refine lv_icmp_eq (tgt := 863) hx hb dL_law_858 (by decide) (fun hc => ?_) (fun hc => ?_)
  rotate_left; exact absurd hc (by decide)
  exact hend _ _ hS
set_option maxHeartbeats 4000000 in
set_option maxRecDepth 100000 in
theorem lc_31_74 {p : Program} {l : Launch} {e : Env} {s : State} {m : MethodId} {below : List Frame} {meth : Method} {c : Code} {b : Nat} {xs : Nat → Int32} {dC : Nat → ClassId} {dI : Nat → Nat → Nat} {cI cQ : ClassId} {A : Nat → Prop} {Q : State → Prop} (hx : p.tables.exec = Jvm.exec) (hb : c.code = cL_law) (hml : c.maxLocals = 4) (hown : s.vm.findClass RL = some m.cls) (hts : ∀ w ∈ vsL, w.before #[Value.ref b] s = true) (hX : va_X b 3 xs s s.heap) (hbl : b < s.heap.size) (hbA : ¬ A b) (hA : ∀ q : Nat, s.heap.size ≤ q → A q) (hZ : zK dC dI cI cQ s) {ad : Nat → Nat} {H : Heap} {locs : List Loc} {ls : Array Slot} (hP : va_P (dC, dI) vwCl (zF cI cQ ad) H) (hD : va_D A (zF cI cQ ad)) (hS : va_S A s.heap H locs) (hl : lv_has ls 4 [(3, .int 0), (2, .ref (ad 27)), (1, .ref (ad 0)), (0, .ref b)]) (hxs1 : xs 1 = 16) (hend : ∀ (H : Heap) (locs : List Loc), va_S A s.heap H locs → W p l e room_1 s m #[Value.ref b] below meth c H locs 46 1336 Q (F0 m 863 ls [])) : W p l e room_1 s m #[Value.ref b] below meth c H locs 46 1336 Q (F0 m 840 ls []) := by
  have hP := hP.sub (ws' := [((ad 0), .inr (11, [.ref (ad 1), .ref (ad 10), .int 0, .ref (ad 19), .ref (ad 20), .ref (ad 23), .ref (ad 25), .int 0, .ref (ad 26)])), ((ad 26), .inl (cI, 7, .inl (fun _ => 0))), ((ad 27), .inr (12, [.ref (ad 28), .ref (ad 29), .ref (ad 30), .ref (ad 31), .ref (ad 32), .ref (ad 33), .ref (ad 34), .ref (ad 35), .ref (ad 36), .int 0, .int 0, .int 10, .int 0, .int 0, .int (-9), .int 0, .ref (ad 37), .ref (ad 38), .ref (ad 39), .ref (ad 40), .int 0, .int 0, .int 0, .ref (ad 41), .int 0, .int 0, .int 0, .int (-9), .int 0, .ref (ad 42), .int 0, .int 0, .int 0, .ref (ad 43), .ref (ad 44), .ref (ad 45), .int 0, .int 0])), ((ad 28), .inl (cI, 7, .inl (fun _ => 0)))]) [0, 26, 27, 28] rfl
  have hD := hD.sub (ws' := [((ad 0), .inr (11, [.ref (ad 1), .ref (ad 10), .int 0, .ref (ad 19), .ref (ad 20), .ref (ad 23), .ref (ad 25), .int 0, .ref (ad 26)])), ((ad 26), .inl (cI, 7, .inl (fun _ => 0))), ((ad 27), .inr (12, [.ref (ad 28), .ref (ad 29), .ref (ad 30), .ref (ad 31), .ref (ad 32), .ref (ad 33), .ref (ad 34), .ref (ad 35), .ref (ad 36), .int 0, .int 0, .int 10, .int 0, .int 0, .int (-9), .int 0, .ref (ad 37), .ref (ad 38), .ref (ad 39), .ref (ad 40), .int 0, .int 0, .int 0, .ref (ad 41), .int 0, .int 0, .int 0, .int (-9), .int 0, .ref (ad 42), .int 0, .int 0, .int 0, .ref (ad 43), .ref (ad 44), .ref (ad 45), .int 0, .int 0])), ((ad 28), .inl (cI, 7, .inl (fun _ => 0)))]) [0, 26, 27, 28] (by decide) rfl
  have hK := hZ.1
  refine lv_aload_n hx hb dL_law_840 rfl (lv_at hl 2 rfl) ?_
  refine lv_aload_n hx hb dL_law_841 rfl (lv_at hl 3 rfl) ?_
  refine lv_iload_n hx hb dL_law_842 rfl (lv_at hl 0 rfl) ?_
  refine lv_iconst (v := 1) hx hb dL_law_843 (by decide) ?_
  refine lv_iadd hx hb dL_law_844 ?_
  refine lv_topi (fun y1 ey1 => ?_)
  obtain rfl : y1 = 1 := ey1.trans (by decide)
  refine va_sld hx hb hX hbl hbA hS (by unfold vp_in; decide) dL_law_845 ?_
  refine lv_topi (fun y2 ey2 => ?_)
  obtain rfl : 16 = y2 := (ey2.trans hxs1).symm
  refine z_calli (wc := [((ad 0), .inr (11, [.ref (ad 1), .ref (ad 10), .int 0, .ref (ad 19), .ref (ad 20), .ref (ad 23), .ref (ad 25), .int 0, .ref (ad 26)])), ((ad 26), .inl (cI, 7, .inl (fun _ => 0)))]) (wr := [((ad 27), .inr (12, [.ref (ad 28), .ref (ad 29), .ref (ad 30), .ref (ad 31), .ref (ad 32), .ref (ad 33), .ref (ad 34), .ref (ad 35), .ref (ad 36), .int 0, .int 0, .int 10, .int 0, .int 0, .int (-9), .int 0, .ref (ad 37), .ref (ad 38), .ref (ad 39), .ref (ad 40), .int 0, .int 0, .int 0, .ref (ad 41), .int 0, .int 0, .int 0, .int (-9), .int 0, .ref (ad 42), .int 0, .int 0, .int 0, .ref (ad 43), .ref (ad 44), .ref (ad 45), .int 0, .int 0])), ((ad 28), .inl (cI, 7, .inl (fun _ => 0)))]) (w1 := (fun _ => [])) (va_runV (As := [.int 16]) (rest := []) ⟨hx, hb, hml, hown, hts⟩ (kX11_count_15 l dC dI cI cQ (ad 0) (ad 26) (ad 1) (ad 10) (ad 19) (ad 20) (ad 23) (ad 25) H.size) (cwV 1 hts gv_L_law_X11_count_141 rfl rfl rfl (by decide +kernel) ⟨Nat.le_of_ble_eq_true rfl, Nat.le_of_ble_eq_true rfl⟩) ⟨z_blind, va_recv hK hP (ci := 11) (q0 := 0) rfl rfl, z_pre hZ hP hD [0, 1] rfl (by decide)⟩ rfl rfl hl.1 rfl (lv_room (Nat.le_of_ble_eq_true rfl)) dL_law_846 ⟨Nat.le_of_ble_eq_true rfl, Nat.le_of_ble_eq_true rfl⟩) hP hD hS hA [0, 1] [2, 3] rfl rfl (by decide) (by decide) (fun _ H locs hP hD hS => ?_)
  have hP : va_P (dC, dI) vwCl [((ad 27), .inr (12, [.ref (ad 28), .ref (ad 29), .ref (ad 30), .ref (ad 31), .ref (ad 32), .ref (ad 33), .ref (ad 34), .ref (ad 35), .ref (ad 36), .int 0, .int 0, .int 10, .int 0, .int 0, .int (-9), .int 0, .ref (ad 37), .ref (ad 38), .ref (ad 39), .ref (ad 40), .int 0, .int 0, .int 0, .ref (ad 41), .int 0, .int 0, .int 0, .int (-9), .int 0, .ref (ad 42), .int 0, .int 0, .int 0, .ref (ad 43), .ref (ad 44), .ref (ad 45), .int 0, .int 0])), ((ad 28), .inl (cI, 7, .inl (fun _ => 0)))] H := hP
  have hD : va_D A [((ad 27), .inr (12, [.ref (ad 28), .ref (ad 29), .ref (ad 30), .ref (ad 31), .ref (ad 32), .ref (ad 33), .ref (ad 34), .ref (ad 35), .ref (ad 36), .int 0, .int 0, .int 10, .int 0, .int 0, .int (-9), .int 0, .ref (ad 37), .ref (ad 38), .ref (ad 39), .ref (ad 40), .int 0, .int 0, .int 0, .ref (ad 41), .int 0, .int 0, .int 0, .int (-9), .int 0, .ref (ad 42), .int 0, .int 0, .int 0, .ref (ad 43), .ref (ad 44), .ref (ad 45), .int 0, .int 0])), ((ad 28), .inl (cI, 7, .inl (fun _ => 0)))] := hD
  refine lv_aload_n hx hb dL_law_849 rfl (lv_at hl 1 rfl) ?_
  refine lv_aload_n hx hb dL_law_850 rfl (lv_at hl 3 rfl) ?_
  refine lv_iload_n hx hb dL_law_851 rfl (lv_at hl 0 rfl) ?_
  refine lv_iconst (v := 1) hx hb dL_law_852 (by decide) ?_
  refine lv_iadd hx hb dL_law_853 ?_
  refine lv_topi (fun y4 ey4 => ?_)
  obtain rfl : y4 = 1 := ey4.trans (by decide)
  refine va_sld hx hb hX hbl hbA hS (by unfold vp_in; decide) dL_law_854 ?_
  refine lv_topi (fun y5 ey5 => ?_)
  obtain rfl : 16 = y5 := (ey5.trans hxs1).symm
  refine z_calli (wc := [((ad 27), .inr (12, [.ref (ad 28), .ref (ad 29), .ref (ad 30), .ref (ad 31), .ref (ad 32), .ref (ad 33), .ref (ad 34), .ref (ad 35), .ref (ad 36), .int 0, .int 0, .int 10, .int 0, .int 0, .int (-9), .int 0, .ref (ad 37), .ref (ad 38), .ref (ad 39), .ref (ad 40), .int 0, .int 0, .int 0, .ref (ad 41), .int 0, .int 0, .int 0, .int (-9), .int 0, .ref (ad 42), .int 0, .int 0, .int 0, .ref (ad 43), .ref (ad 44), .ref (ad 45), .int 0, .int 0])), ((ad 28), .inl (cI, 7, .inl (fun _ => 0)))]) (wr := []) (w1 := (fun _ => [])) (va_runV (As := [.int 16]) (rest := [.int 0]) ⟨hx, hb, hml, hown, hts⟩ (kX12_count_15 l dC dI cI cQ (ad 27) (ad 28) (ad 29) (ad 30) (ad 31) (ad 32) (ad 33) (ad 34) (ad 35) (ad 36) (ad 37) (ad 38) (ad 39) (ad 40) (ad 41) (ad 42) (ad 43) (ad 44) (ad 45) H.size) (cwV 1 hts gv_L_law_X12_count_144 rfl rfl rfl (by decide +kernel) ⟨Nat.le_of_ble_eq_true rfl, Nat.le_of_ble_eq_true rfl⟩) ⟨z_blind, va_recv hK hP (ci := 12) (q0 := 0) rfl rfl, z_pre hZ hP hD [0, 1] rfl (by decide)⟩ rfl rfl hl.1 rfl (lv_room (Nat.le_of_ble_eq_true rfl)) dL_law_855 ⟨Nat.le_of_ble_eq_true rfl, Nat.le_of_ble_eq_true rfl⟩) hP hD hS hA [0, 1] [] rfl rfl (by decide) (by decide) (fun _ H locs hP hD hS => ?_)
  have hP : va_P (dC, dI) vwCl [] H := hP
  have hD : va_D A [] := hD
  refine lv_icmp_eq (tgt := 863) hx hb dL_law_858 (by decide) (fun hc => ?_) (fun hc => ?_)
  rotate_left; exact absurd hc (by decide)
  exact hend _ _ hS
set_option maxHeartbeats 4000000 in
set_option maxRecDepth 100000 in
theorem lc_31_75 {p : Program} {l : Launch} {e : Env} {s : State} {m : MethodId} {below : List Frame} {meth : Method} {c : Code} {b : Nat} {xs : Nat → Int32} {dC : Nat → ClassId} {dI : Nat → Nat → Nat} {cI cQ : ClassId} {A : Nat → Prop} {Q : State → Prop} (hx : p.tables.exec = Jvm.exec) (hb : c.code = cL_law) (hml : c.maxLocals = 4) (hown : s.vm.findClass RL = some m.cls) (hts : ∀ w ∈ vsL, w.before #[Value.ref b] s = true) (hX : va_X b 3 xs s s.heap) (hbl : b < s.heap.size) (hbA : ¬ A b) (hA : ∀ q : Nat, s.heap.size ≤ q → A q) (hZ : zK dC dI cI cQ s) {ad : Nat → Nat} {H : Heap} {locs : List Loc} {ls : Array Slot} (hP : va_P (dC, dI) vwCl (zF cI cQ ad) H) (hD : va_D A (zF cI cQ ad)) (hS : va_S A s.heap H locs) (hl : lv_has ls 4 [(3, .int 0), (2, .ref (ad 27)), (1, .ref (ad 0)), (0, .ref b)]) (sa : Int32) (hsal : 17 ≤ sa.toInt) (hsah : sa.toInt ≤ 2147483647) (hxs1 : xs 1 = sa) (hend : ∀ (H : Heap) (locs : List Loc), va_S A s.heap H locs → W p l e room_1 s m #[Value.ref b] below meth c H locs 46 1336 Q (F0 m 863 ls [])) : W p l e room_1 s m #[Value.ref b] below meth c H locs 46 1336 Q (F0 m 840 ls []) := by
  have hP := hP.sub (ws' := [((ad 0), .inr (11, [.ref (ad 1), .ref (ad 10), .int 0, .ref (ad 19), .ref (ad 20), .ref (ad 23), .ref (ad 25), .int 0, .ref (ad 26)])), ((ad 27), .inr (12, [.ref (ad 28), .ref (ad 29), .ref (ad 30), .ref (ad 31), .ref (ad 32), .ref (ad 33), .ref (ad 34), .ref (ad 35), .ref (ad 36), .int 0, .int 0, .int 10, .int 0, .int 0, .int (-9), .int 0, .ref (ad 37), .ref (ad 38), .ref (ad 39), .ref (ad 40), .int 0, .int 0, .int 0, .ref (ad 41), .int 0, .int 0, .int 0, .int (-9), .int 0, .ref (ad 42), .int 0, .int 0, .int 0, .ref (ad 43), .ref (ad 44), .ref (ad 45), .int 0, .int 0]))]) [0, 27] rfl
  have hD := hD.sub (ws' := [((ad 0), .inr (11, [.ref (ad 1), .ref (ad 10), .int 0, .ref (ad 19), .ref (ad 20), .ref (ad 23), .ref (ad 25), .int 0, .ref (ad 26)])), ((ad 27), .inr (12, [.ref (ad 28), .ref (ad 29), .ref (ad 30), .ref (ad 31), .ref (ad 32), .ref (ad 33), .ref (ad 34), .ref (ad 35), .ref (ad 36), .int 0, .int 0, .int 10, .int 0, .int 0, .int (-9), .int 0, .ref (ad 37), .ref (ad 38), .ref (ad 39), .ref (ad 40), .int 0, .int 0, .int 0, .ref (ad 41), .int 0, .int 0, .int 0, .int (-9), .int 0, .ref (ad 42), .int 0, .int 0, .int 0, .ref (ad 43), .ref (ad 44), .ref (ad 45), .int 0, .int 0]))]) [0, 27] (by decide) rfl
  have hK := hZ.1
  refine lv_aload_n hx hb dL_law_840 rfl (lv_at hl 2 rfl) ?_
  refine lv_aload_n hx hb dL_law_841 rfl (lv_at hl 3 rfl) ?_
  refine lv_iload_n hx hb dL_law_842 rfl (lv_at hl 0 rfl) ?_
  refine lv_iconst (v := 1) hx hb dL_law_843 (by decide) ?_
  refine lv_iadd hx hb dL_law_844 ?_
  refine lv_topi (fun y1 ey1 => ?_)
  obtain rfl : y1 = 1 := ey1.trans (by decide)
  refine va_sld hx hb hX hbl hbA hS (by unfold vp_in; decide) dL_law_845 ?_
  refine lv_topi (fun y2 ey2 => ?_)
  obtain rfl : sa = y2 := (ey2.trans hxs1).symm
  refine z_calli (wc := []) (wr := [((ad 0), .inr (11, [.ref (ad 1), .ref (ad 10), .int 0, .ref (ad 19), .ref (ad 20), .ref (ad 23), .ref (ad 25), .int 0, .ref (ad 26)])), ((ad 27), .inr (12, [.ref (ad 28), .ref (ad 29), .ref (ad 30), .ref (ad 31), .ref (ad 32), .ref (ad 33), .ref (ad 34), .ref (ad 35), .ref (ad 36), .int 0, .int 0, .int 10, .int 0, .int 0, .int (-9), .int 0, .ref (ad 37), .ref (ad 38), .ref (ad 39), .ref (ad 40), .int 0, .int 0, .int 0, .ref (ad 41), .int 0, .int 0, .int 0, .int (-9), .int 0, .ref (ad 42), .int 0, .int 0, .int 0, .ref (ad 43), .ref (ad 44), .ref (ad 45), .int 0, .int 0]))]) (w1 := (fun _ => [])) (va_runV (As := [.int sa]) (rest := []) ⟨hx, hb, hml, hown, hts⟩ (kX11_count_16 l dC dI cI cQ (ad 0) sa hsal hsah H.size) (cwV 1 hts gv_L_law_X11_count_141 rfl rfl rfl (by decide +kernel) ⟨Nat.le_of_ble_eq_true rfl, Nat.le_of_ble_eq_true rfl⟩) ⟨z_blind, va_recv hK hP (ci := 11) (q0 := 0) rfl rfl, z_pre hZ hP hD [] rfl (by decide)⟩ rfl rfl hl.1 rfl (lv_room (Nat.le_of_ble_eq_true rfl)) dL_law_846 ⟨Nat.le_of_ble_eq_true rfl, Nat.le_of_ble_eq_true rfl⟩) hP hD hS hA [] [0, 1] rfl rfl (by decide) (by decide) (fun _ H locs hP hD hS => ?_)
  have hP : va_P (dC, dI) vwCl [((ad 0), .inr (11, [.ref (ad 1), .ref (ad 10), .int 0, .ref (ad 19), .ref (ad 20), .ref (ad 23), .ref (ad 25), .int 0, .ref (ad 26)])), ((ad 27), .inr (12, [.ref (ad 28), .ref (ad 29), .ref (ad 30), .ref (ad 31), .ref (ad 32), .ref (ad 33), .ref (ad 34), .ref (ad 35), .ref (ad 36), .int 0, .int 0, .int 10, .int 0, .int 0, .int (-9), .int 0, .ref (ad 37), .ref (ad 38), .ref (ad 39), .ref (ad 40), .int 0, .int 0, .int 0, .ref (ad 41), .int 0, .int 0, .int 0, .int (-9), .int 0, .ref (ad 42), .int 0, .int 0, .int 0, .ref (ad 43), .ref (ad 44), .ref (ad 45), .int 0, .int 0]))] H := hP
  have hD : va_D A [((ad 0), .inr (11, [.ref (ad 1), .ref (ad 10), .int 0, .ref (ad 19), .ref (ad 20), .ref (ad 23), .ref (ad 25), .int 0, .ref (ad 26)])), ((ad 27), .inr (12, [.ref (ad 28), .ref (ad 29), .ref (ad 30), .ref (ad 31), .ref (ad 32), .ref (ad 33), .ref (ad 34), .ref (ad 35), .ref (ad 36), .int 0, .int 0, .int 10, .int 0, .int 0, .int (-9), .int 0, .ref (ad 37), .ref (ad 38), .ref (ad 39), .ref (ad 40), .int 0, .int 0, .int 0, .ref (ad 41), .int 0, .int 0, .int 0, .int (-9), .int 0, .ref (ad 42), .int 0, .int 0, .int 0, .ref (ad 43), .ref (ad 44), .ref (ad 45), .int 0, .int 0]))] := hD
  refine lv_aload_n hx hb dL_law_849 rfl (lv_at hl 1 rfl) ?_
  refine lv_aload_n hx hb dL_law_850 rfl (lv_at hl 3 rfl) ?_
  refine lv_iload_n hx hb dL_law_851 rfl (lv_at hl 0 rfl) ?_
  refine lv_iconst (v := 1) hx hb dL_law_852 (by decide) ?_
  refine lv_iadd hx hb dL_law_853 ?_
  refine lv_topi (fun y4 ey4 => ?_)
  obtain rfl : y4 = 1 := ey4.trans (by decide)
  refine va_sld hx hb hX hbl hbA hS (by unfold vp_in; decide) dL_law_854 ?_
  refine lv_topi (fun y5 ey5 => ?_)
  obtain rfl : sa = y5 := (ey5.trans hxs1).symm
  refine z_calli (wc := []) (wr := [((ad 0), .inr (11, [.ref (ad 1), .ref (ad 10), .int 0, .ref (ad 19), .ref (ad 20), .ref (ad 23), .ref (ad 25), .int 0, .ref (ad 26)])), ((ad 27), .inr (12, [.ref (ad 28), .ref (ad 29), .ref (ad 30), .ref (ad 31), .ref (ad 32), .ref (ad 33), .ref (ad 34), .ref (ad 35), .ref (ad 36), .int 0, .int 0, .int 10, .int 0, .int 0, .int (-9), .int 0, .ref (ad 37), .ref (ad 38), .ref (ad 39), .ref (ad 40), .int 0, .int 0, .int 0, .ref (ad 41), .int 0, .int 0, .int 0, .int (-9), .int 0, .ref (ad 42), .int 0, .int 0, .int 0, .ref (ad 43), .ref (ad 44), .ref (ad 45), .int 0, .int 0]))]) (w1 := (fun _ => [])) (va_runV (As := [.int sa]) (rest := [.int (-9)]) ⟨hx, hb, hml, hown, hts⟩ (kX12_count_16 l dC dI cI cQ (ad 27) sa hsal hsah H.size) (cwV 1 hts gv_L_law_X12_count_144 rfl rfl rfl (by decide +kernel) ⟨Nat.le_of_ble_eq_true rfl, Nat.le_of_ble_eq_true rfl⟩) ⟨z_blind, va_recv hK hP (ci := 12) (q0 := 1) rfl rfl, z_pre hZ hP hD [] rfl (by decide)⟩ rfl rfl hl.1 rfl (lv_room (Nat.le_of_ble_eq_true rfl)) dL_law_855 ⟨Nat.le_of_ble_eq_true rfl, Nat.le_of_ble_eq_true rfl⟩) hP hD hS hA [] [0, 1] rfl rfl (by decide) (by decide) (fun _ H locs hP hD hS => ?_)
  have hP : va_P (dC, dI) vwCl [((ad 0), .inr (11, [.ref (ad 1), .ref (ad 10), .int 0, .ref (ad 19), .ref (ad 20), .ref (ad 23), .ref (ad 25), .int 0, .ref (ad 26)])), ((ad 27), .inr (12, [.ref (ad 28), .ref (ad 29), .ref (ad 30), .ref (ad 31), .ref (ad 32), .ref (ad 33), .ref (ad 34), .ref (ad 35), .ref (ad 36), .int 0, .int 0, .int 10, .int 0, .int 0, .int (-9), .int 0, .ref (ad 37), .ref (ad 38), .ref (ad 39), .ref (ad 40), .int 0, .int 0, .int 0, .ref (ad 41), .int 0, .int 0, .int 0, .int (-9), .int 0, .ref (ad 42), .int 0, .int 0, .int 0, .ref (ad 43), .ref (ad 44), .ref (ad 45), .int 0, .int 0]))] H := hP
  have hD : va_D A [((ad 0), .inr (11, [.ref (ad 1), .ref (ad 10), .int 0, .ref (ad 19), .ref (ad 20), .ref (ad 23), .ref (ad 25), .int 0, .ref (ad 26)])), ((ad 27), .inr (12, [.ref (ad 28), .ref (ad 29), .ref (ad 30), .ref (ad 31), .ref (ad 32), .ref (ad 33), .ref (ad 34), .ref (ad 35), .ref (ad 36), .int 0, .int 0, .int 10, .int 0, .int 0, .int (-9), .int 0, .ref (ad 37), .ref (ad 38), .ref (ad 39), .ref (ad 40), .int 0, .int 0, .int 0, .ref (ad 41), .int 0, .int 0, .int 0, .int (-9), .int 0, .ref (ad 42), .int 0, .int 0, .int 0, .ref (ad 43), .ref (ad 44), .ref (ad 45), .int 0, .int 0]))] := hD
  refine lv_icmp_eq (tgt := 863) hx hb dL_law_858 (by decide) (fun hc => ?_) (fun hc => ?_)
  rotate_left; exact absurd hc (by decide)
  exact hend _ _ hS
set_option maxHeartbeats 4000000 in
theorem lk_31 {p : Program} {l : Launch} {e : Env} {s : State} {m : MethodId} {below : List Frame} {meth : Method} {c : Code} {b : Nat} {xs : Nat → Int32} {dC : Nat → ClassId} {dI : Nat → Nat → Nat} {cI cQ : ClassId} {A : Nat → Prop} {Q : State → Prop} (hx : p.tables.exec = Jvm.exec) (hb : c.code = cL_law) (hml : c.maxLocals = 4) (hown : s.vm.findClass RL = some m.cls) (hts : ∀ w ∈ vsL, w.before #[Value.ref b] s = true) (hX : va_X b 3 xs s s.heap) (hbl : b < s.heap.size) (hbA : ¬ A b) (hA : ∀ q : Nat, s.heap.size ≤ q → A q) (hZ : zK dC dI cI cQ s) {ad : Nat → Nat} {H : Heap} {locs : List Loc} {ls : Array Slot} (hP : va_P (dC, dI) vwCl (zF cI cQ ad) H) (hD : va_D A (zF cI cQ ad)) (hS : va_S A s.heap H locs) (hl : lv_has ls 4 [(3, .int 0), (2, .ref (ad 27)), (1, .ref (ad 0)), (0, .ref b)]) (sa : Int32) (hxs1 : xs 1 = sa) (hend : ∀ (H : Heap) (locs : List Loc), va_S A s.heap H locs → W p l e room_1 s m #[Value.ref b] below meth c H locs 46 1336 Q (F0 m 863 ls [])) : W p l e room_1 s m #[Value.ref b] below meth c H locs 46 1336 Q (F0 m 840 ls []) := by
  have hsal : -2147483648 ≤ sa.toInt := z_lo sa
  have hsah : sa.toInt ≤ 2147483647 := z_hi sa
  rcases Int.lt_or_le sa.toInt 0 with hc | hc
  · have hsah : sa.toInt ≤ -1 := by omega
    exact lc_31_59 hx hb hml hown hts hX hbl hbA hA hZ hP hD hS hl sa hsal hsah hxs1 hend
  · have hsal : 0 ≤ sa.toInt := hc
    rcases Int.lt_or_le sa.toInt 8 with hc | hc
    · have hsah : sa.toInt ≤ 7 := by omega
      rcases Int.lt_or_le sa.toInt 1 with hc | hc
      · have hsah : sa.toInt ≤ 0 := by omega
        obtain rfl : sa = 0 := (fa_eq _ _).mpr (by rw [show (0 : Int32).toInt = 0 from by decide]; omega)
        exact lc_31_60 hx hb hml hown hts hX hbl hbA hA hZ hP hD hS hl hxs1 hend
      · have hsal : 1 ≤ sa.toInt := hc
        rcases Int.lt_or_le sa.toInt 2 with hc | hc
        · have hsah : sa.toInt ≤ 1 := by omega
          obtain rfl : sa = 1 := (fa_eq _ _).mpr (by rw [show (1 : Int32).toInt = 1 from by decide]; omega)
          exact lc_31_61 hx hb hml hown hts hX hbl hbA hA hZ hP hD hS hl hxs1 hend
        · have hsal : 2 ≤ sa.toInt := hc
          rcases Int.lt_or_le sa.toInt 3 with hc | hc
          · have hsah : sa.toInt ≤ 2 := by omega
            obtain rfl : sa = 2 := (fa_eq _ _).mpr (by rw [show (2 : Int32).toInt = 2 from by decide]; omega)
            exact lc_31_62 hx hb hml hown hts hX hbl hbA hA hZ hP hD hS hl hxs1 hend
          · have hsal : 3 ≤ sa.toInt := hc
            rcases Int.lt_or_le sa.toInt 4 with hc | hc
            · have hsah : sa.toInt ≤ 3 := by omega
              obtain rfl : sa = 3 := (fa_eq _ _).mpr (by rw [show (3 : Int32).toInt = 3 from by decide]; omega)
              exact lc_31_63 hx hb hml hown hts hX hbl hbA hA hZ hP hD hS hl hxs1 hend
            · have hsal : 4 ≤ sa.toInt := hc
              rcases Int.lt_or_le sa.toInt 5 with hc | hc
              · have hsah : sa.toInt ≤ 4 := by omega
                obtain rfl : sa = 4 := (fa_eq _ _).mpr (by rw [show (4 : Int32).toInt = 4 from by decide]; omega)
                exact lc_31_64 hx hb hml hown hts hX hbl hbA hA hZ hP hD hS hl hxs1 hend
              · have hsal : 5 ≤ sa.toInt := hc
                rcases Int.lt_or_le sa.toInt 6 with hc | hc
                · have hsah : sa.toInt ≤ 5 := by omega
                  obtain rfl : sa = 5 := (fa_eq _ _).mpr (by rw [show (5 : Int32).toInt = 5 from by decide]; omega)
                  exact lc_31_65 hx hb hml hown hts hX hbl hbA hA hZ hP hD hS hl hxs1 hend
                · have hsal : 6 ≤ sa.toInt := hc
                  rcases Int.lt_or_le sa.toInt 7 with hc | hc
                  · have hsah : sa.toInt ≤ 6 := by omega
                    obtain rfl : sa = 6 := (fa_eq _ _).mpr (by rw [show (6 : Int32).toInt = 6 from by decide]; omega)
                    exact lc_31_66 hx hb hml hown hts hX hbl hbA hA hZ hP hD hS hl hxs1 hend
                  · have hsal : 7 ≤ sa.toInt := hc
                    obtain rfl : sa = 7 := (fa_eq _ _).mpr (by rw [show (7 : Int32).toInt = 7 from by decide]; omega)
                    exact lc_31_67 hx hb hml hown hts hX hbl hbA hA hZ hP hD hS hl hxs1 hend
    · have hsal : 8 ≤ sa.toInt := hc
      rcases Int.lt_or_le sa.toInt 11 with hc | hc
      · have hsah : sa.toInt ≤ 10 := by omega
        exact lc_31_68 hx hb hml hown hts hX hbl hbA hA hZ hP hD hS hl sa hsal hsah hxs1 hend
      · have hsal : 11 ≤ sa.toInt := hc
        rcases Int.lt_or_le sa.toInt 17 with hc | hc
        · have hsah : sa.toInt ≤ 16 := by omega
          rcases Int.lt_or_le sa.toInt 12 with hc | hc
          · have hsah : sa.toInt ≤ 11 := by omega
            obtain rfl : sa = 11 := (fa_eq _ _).mpr (by rw [show (11 : Int32).toInt = 11 from by decide]; omega)
            exact lc_31_69 hx hb hml hown hts hX hbl hbA hA hZ hP hD hS hl hxs1 hend
          · have hsal : 12 ≤ sa.toInt := hc
            rcases Int.lt_or_le sa.toInt 13 with hc | hc
            · have hsah : sa.toInt ≤ 12 := by omega
              obtain rfl : sa = 12 := (fa_eq _ _).mpr (by rw [show (12 : Int32).toInt = 12 from by decide]; omega)
              exact lc_31_70 hx hb hml hown hts hX hbl hbA hA hZ hP hD hS hl hxs1 hend
            · have hsal : 13 ≤ sa.toInt := hc
              rcases Int.lt_or_le sa.toInt 14 with hc | hc
              · have hsah : sa.toInt ≤ 13 := by omega
                obtain rfl : sa = 13 := (fa_eq _ _).mpr (by rw [show (13 : Int32).toInt = 13 from by decide]; omega)
                exact lc_31_71 hx hb hml hown hts hX hbl hbA hA hZ hP hD hS hl hxs1 hend
              · have hsal : 14 ≤ sa.toInt := hc
                rcases Int.lt_or_le sa.toInt 15 with hc | hc
                · have hsah : sa.toInt ≤ 14 := by omega
                  obtain rfl : sa = 14 := (fa_eq _ _).mpr (by rw [show (14 : Int32).toInt = 14 from by decide]; omega)
                  exact lc_31_72 hx hb hml hown hts hX hbl hbA hA hZ hP hD hS hl hxs1 hend
                · have hsal : 15 ≤ sa.toInt := hc
                  rcases Int.lt_or_le sa.toInt 16 with hc | hc
                  · have hsah : sa.toInt ≤ 15 := by omega
                    obtain rfl : sa = 15 := (fa_eq _ _).mpr (by rw [show (15 : Int32).toInt = 15 from by decide]; omega)
                    exact lc_31_73 hx hb hml hown hts hX hbl hbA hA hZ hP hD hS hl hxs1 hend
                  · have hsal : 16 ≤ sa.toInt := hc
                    obtain rfl : sa = 16 := (fa_eq _ _).mpr (by rw [show (16 : Int32).toInt = 16 from by decide]; omega)
                    exact lc_31_74 hx hb hml hown hts hX hbl hbA hA hZ hP hD hS hl hxs1 hend
        · have hsal : 17 ≤ sa.toInt := hc
          exact lc_31_75 hx hb hml hown hts hX hbl hbA hA hZ hP hD hS hl sa hsal hsah hxs1 hend
