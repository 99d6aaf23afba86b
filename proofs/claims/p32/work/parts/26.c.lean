set_option maxRecDepth 20000 in
theorem edX12_mendOf_0 : decode cX12_mendOf 0 = .ok (.aload_n 0, 1) ∧ decode cX12_mendOf 1 = .ok (.iload_n 1, 1) ∧ decode cX12_mendOf 2 = .ok (.invokevirtual 169, 3) ∧ decode cX12_mendOf 5 = .ok (.ifCond .eq 11, 3) ∧ decode cX12_mendOf 8 = .ok (.aload_n 0, 1) ∧ decode cX12_mendOf 9 = .ok (.iload_n 1, 1) ∧ decode cX12_mendOf 10 = .ok (.invokevirtual 241, 3) ∧ decode cX12_mendOf 13 = .ok (.goto 8, 3) ∧ decode cX12_mendOf 16 = .ok (.aload_n 0, 1) ∧ decode cX12_mendOf 17 = .ok (.iconst (-1), 1) ∧ decode cX12_mendOf 18 = .ok (.invokevirtual 89, 3) ∧ decode cX12_mendOf 21 = .ok (.ireturn, 1) := by decide +kernel
theorem dX12_mendOf_0 : decode cX12_mendOf 0 = .ok (.aload_n 0, 1) := edX12_mendOf_0.1
theorem dX12_mendOf_1 : decode cX12_mendOf 1 = .ok (.iload_n 1, 1) := edX12_mendOf_0.2.1
theorem dX12_mendOf_2 : decode cX12_mendOf 2 = .ok (.invokevirtual 169, 3) := edX12_mendOf_0.2.2.1
theorem dX12_mendOf_5 : decode cX12_mendOf 5 = .ok (.ifCond .eq 11, 3) := edX12_mendOf_0.2.2.2.1
theorem dX12_mendOf_8 : decode cX12_mendOf 8 = .ok (.aload_n 0, 1) := edX12_mendOf_0.2.2.2.2.1
theorem dX12_mendOf_9 : decode cX12_mendOf 9 = .ok (.iload_n 1, 1) := edX12_mendOf_0.2.2.2.2.2.1
theorem dX12_mendOf_10 : decode cX12_mendOf 10 = .ok (.invokevirtual 241, 3) := edX12_mendOf_0.2.2.2.2.2.2.1
theorem dX12_mendOf_13 : decode cX12_mendOf 13 = .ok (.goto 8, 3) := edX12_mendOf_0.2.2.2.2.2.2.2.1
theorem dX12_mendOf_16 : decode cX12_mendOf 16 = .ok (.aload_n 0, 1) := edX12_mendOf_0.2.2.2.2.2.2.2.2.1
theorem dX12_mendOf_17 : decode cX12_mendOf 17 = .ok (.iconst (-1), 1) := edX12_mendOf_0.2.2.2.2.2.2.2.2.2.1
theorem dX12_mendOf_18 : decode cX12_mendOf 18 = .ok (.invokevirtual 89, 3) := edX12_mendOf_0.2.2.2.2.2.2.2.2.2.2.1
theorem dX12_mendOf_21 : decode cX12_mendOf 21 = .ok (.ireturn, 1) := edX12_mendOf_0.2.2.2.2.2.2.2.2.2.2.2
noncomputable def voX12_mendOf : List Cond := [.methodLink RX12 169 yX12_isLine, .instanceMethod yX12_isLine, .selects RX12 yX12_isLine yX12_isLine, .initialized RX12, .methodLink RX12 89 yX12_no, .instanceMethod yX12_no, .selects RX12 yX12_no yX12_no, .methodLink RX12 241 yX12_mendsOf, .instanceMethod yX12_mendsOf, .selects RX12 yX12_mendsOf yX12_mendsOf]
noncomputable def vsX12_mendOf : List Cond := .code yX12_mendOf cX12_mendOf 2 (some .int) :: (voX12_mendOf ++ (vsX12_isLine ++ (vsX12_no ++ (vsX12_mendsOf))))
theorem zgX12_mendOf : zGd vsX12_mendOf := z_gdC rfl (z_gdA (z_gdO (by decide +kernel) : zGd voX12_mendOf) (z_gdA zgX12_isLine (z_gdA zgX12_no (zgX12_mendsOf))))
theorem gw_X12_mendOf_X12_isLine : GoodIn vsX12_mendOf vsX12_isLine := z_gdI (fun _ h => List.mem_cons_of_mem _ (List.mem_append_right _ (List.mem_append_left _ h))) zgX12_isLine
set_option maxRecDepth 20000 in
theorem gv_X12_mendOf_X12_isLine_169 : GoodIn vsX12_mendOf (wsV RX12 169 RX12 yX12_isLine vsX12_isLine) := goodIn_app (goodIn_of _ (by decide +kernel)) gw_X12_mendOf_X12_isLine
theorem gw_X12_mendOf_X12_no : GoodIn vsX12_mendOf vsX12_no := z_gdI (fun _ h => List.mem_cons_of_mem _ (List.mem_append_right _ (List.mem_append_right _ (List.mem_append_left _ h)))) zgX12_no
set_option maxRecDepth 20000 in
theorem gv_X12_mendOf_X12_no_89 : GoodIn vsX12_mendOf (wsV RX12 89 RX12 yX12_no vsX12_no) := goodIn_app (goodIn_of _ (by decide +kernel)) gw_X12_mendOf_X12_no
theorem gw_X12_mendOf_X12_mendsOf : GoodIn vsX12_mendOf vsX12_mendsOf := z_gdI (fun _ h => List.mem_cons_of_mem _ (List.mem_append_right _ (List.mem_append_right _ (List.mem_append_right _ (h))))) zgX12_mendsOf
set_option maxRecDepth 20000 in
theorem gv_X12_mendOf_X12_mendsOf_241 : GoodIn vsX12_mendOf (wsV RX12 241 RX12 yX12_mendsOf vsX12_mendsOf) := goodIn_app (goodIn_of _ (by decide +kernel)) gw_X12_mendOf_X12_mendsOf
set_option maxHeartbeats 4000000 in
set_option maxRecDepth 100000 in
theorem wX12_mendOf (l : Launch) (dC : Nat → ClassId) (dI : Nat → Nat → Nat) (cI cQ : ClassId) (ha0 ha0_0 ha0_5 ha0_6 ha0_8 ha0_1 ha0_2 ha0_3 ha0_4 ha0_7 ha0_16 ha0_17 ha0_18 ha0_19 ha0_23 ha0_29 ha0_33 ha0_34 ha0_35 : Nat) (fa0_0 : Nat → Int32) (fa0_5 : Nat → Int32) (hBfa0_5 : ∀ k, 0 ≤ (fa0_5 k).toInt ∧ (fa0_5 k).toInt ≤ 4) (fa0_6 : Nat → Int32) (hBfa0_6 : ∀ k, 0 ≤ (fa0_6 k).toInt ∧ (fa0_6 k).toInt ≤ 9) (fa0_8 : Nat → Int32) (ia0_9 : Int32) (hia0_9l : 0 ≤ ia0_9.toInt) (hia0_9h : ia0_9.toInt ≤ 5) (ia0_10 : Int32) (hia0_10l : 0 ≤ ia0_10.toInt) (hia0_10h : ia0_10.toInt ≤ 12) (ia0_11 : Int32) (ia0_12 : Int32) (ia0_13 : Int32) (ia0_14 : Int32) (hia0_14l : (-9) ≤ ia0_14.toInt) (hia0_14h : ia0_14.toInt ≤ 11) (ia0_15 : Int32) (ia0_20 : Int32) (hia0_20l : 0 ≤ ia0_20.toInt) (hia0_20h : ia0_20.toInt ≤ 80) (ia0_21 : Int32) (hia0_21l : 0 ≤ ia0_21.toInt) (hia0_21h : ia0_21.toInt ≤ 80) (ia0_22 : Int32) (hia0_22l : 0 ≤ ia0_22.toInt) (hia0_22h : ia0_22.toInt ≤ 40) (ia0_24 : Int32) (hia0_24l : 0 ≤ ia0_24.toInt) (hia0_24h : ia0_24.toInt ≤ 1) (ia0_25 : Int32) (hia0_25l : 0 ≤ ia0_25.toInt) (hia0_25h : ia0_25.toInt ≤ 1) (ia0_26 : Int32) (hia0_26l : 0 ≤ ia0_26.toInt) (hia0_26h : ia0_26.toInt ≤ 300) (ia0_27 : Int32) (hia0_27l : (-9) ≤ ia0_27.toInt) (hia0_27h : ia0_27.toInt ≤ 11) (ia0_28 : Int32) (ia0_30 : Int32) (hia0_30l : 0 ≤ ia0_30.toInt) (hia0_30h : ia0_30.toInt ≤ 60) (ia0_31 : Int32) (ia0_32 : Int32) (hia0_32l : 0 ≤ ia0_32.toInt) (hia0_32h : ia0_32.toInt ≤ 1) (ia0_36 : Int32) (hia0_36l : 0 ≤ ia0_36.toInt) (hia0_36h : ia0_36.toInt ≤ 12) (ia0_37 : Int32) (p1 : Int32) (sz : Nat) : Met l yX12_mendOf vsX12_mendOf ({ frames := 4, cells := 0, slots := 0, locals := 92 }) (va_Pc [.ref ha0, .int p1] (zB dC dI cI cQ [(ha0_0, .inl (cI, 7, .inl fa0_0)), (ha0_5, .inl (cI, 12, .inl fa0_5)), (ha0_6, .inl (cI, 12, .inl fa0_6)), (ha0_8, .inl (cI, 60, .inl fa0_8)), (ha0, .inr (12, [.ref ha0_0, .ref ha0_1, .ref ha0_2, .ref ha0_3, .ref ha0_4, .ref ha0_5, .ref ha0_6, .ref ha0_7, .ref ha0_8, .int ia0_9, .int ia0_10, .int ia0_11, .int ia0_12, .int ia0_13, .int ia0_14, .int ia0_15, .ref ha0_16, .ref ha0_17, .ref ha0_18, .ref ha0_19, .int ia0_20, .int ia0_21, .int ia0_22, .ref ha0_23, .int ia0_24, .int ia0_25, .int ia0_26, .int ia0_27, .int ia0_28, .ref ha0_29, .int ia0_30, .int ia0_31, .int ia0_32, .ref ha0_33, .ref ha0_34, .ref ha0_35, .int ia0_36, .int ia0_37]))] sz)) (zWi dC dI (va_A [(ha0_0, .inl (cI, 7, .inl fa0_0)), (ha0_5, .inl (cI, 12, .inl fa0_5)), (ha0_6, .inl (cI, 12, .inl fa0_6)), (ha0_8, .inl (cI, 60, .inl fa0_8)), (ha0, .inr (12, [.ref ha0_0, .ref ha0_1, .ref ha0_2, .ref ha0_3, .ref ha0_4, .ref ha0_5, .ref ha0_6, .ref ha0_7, .ref ha0_8, .int ia0_9, .int ia0_10, .int ia0_11, .int ia0_12, .int ia0_13, .int ia0_14, .int ia0_15, .ref ha0_16, .ref ha0_17, .ref ha0_18, .ref ha0_19, .int ia0_20, .int ia0_21, .int ia0_22, .ref ha0_23, .int ia0_24, .int ia0_25, .int ia0_26, .int ia0_27, .int ia0_28, .ref ha0_29, .int ia0_30, .int ia0_31, .int ia0_32, .ref ha0_33, .ref ha0_34, .ref ha0_35, .int ia0_36, .int ia0_37]))] sz) (fun u => [(ha0_0, .inl (cI, 7, .inl (u.2 0))), (ha0_5, .inl (cI, 12, .inl fa0_5)), (ha0_6, .inl (cI, 12, .inl fa0_6)), (ha0_8, .inl (cI, 60, .inl fa0_8)), (ha0, .inr (12, [.ref ha0_0, .ref ha0_1, .ref ha0_2, .ref ha0_3, .ref ha0_4, .ref ha0_5, .ref ha0_6, .ref ha0_7, .ref ha0_8, .int ia0_9, .int ia0_10, .int ia0_11, .int ia0_12, .int ia0_13, .int ia0_14, .int ia0_15, .ref ha0_16, .ref ha0_17, .ref ha0_18, .ref ha0_19, .int ia0_20, .int ia0_21, .int ia0_22, .ref ha0_23, .int ia0_24, .int ia0_25, .int ia0_26, .int ia0_27, .int ia0_28, .ref ha0_29, .int ia0_30, .int ia0_31, .int ia0_32, .ref ha0_33, .ref ha0_34, .ref ha0_35, .int ia0_36, .int ia0_37]))]) (fun r u => ((-9) ≤ r.toInt ∧ r.toInt ≤ 5) ∧ ((zMoP ia0_10.toInt (fun r => ia0_27.toInt = -9 → r = zMw fa0_8 fa0_5 fa0_6 ia0_10.toInt p1.toInt) p1.toInt r.toInt)))) 0 0 (va_A [(ha0_0, .inl (cI, 7, .inl fa0_0)), (ha0_5, .inl (cI, 12, .inl fa0_5)), (ha0_6, .inl (cI, 12, .inl fa0_6)), (ha0_8, .inl (cI, 60, .inl fa0_8)), (ha0, .inr (12, [.ref ha0_0, .ref ha0_1, .ref ha0_2, .ref ha0_3, .ref ha0_4, .ref ha0_5, .ref ha0_6, .ref ha0_7, .ref ha0_8, .int ia0_9, .int ia0_10, .int ia0_11, .int ia0_12, .int ia0_13, .int ia0_14, .int ia0_15, .ref ha0_16, .ref ha0_17, .ref ha0_18, .ref ha0_19, .int ia0_20, .int ia0_21, .int ia0_22, .ref ha0_23, .int ia0_24, .int ia0_25, .int ia0_26, .int ia0_27, .int ia0_28, .ref ha0_29, .int ia0_30, .int ia0_31, .int ia0_32, .ref ha0_33, .ref ha0_34, .ref ha0_35, .int ia0_36, .int ia0_37]))] sz) := by
  refine Met.ofW (cc := cX12_mendOf) (maxL := 2) (ret := (some .int)) (by decide) rfl ?_
  intro p e s m args below meth c s₁ B hml hv
  obtain ⟨rfl, hsz, hP, hZ, hD0⟩ := hv
  obtain ⟨hK, hAO, hN⟩ := id hZ
  have hx := B.exec
  have hb := B.bytes
  have hr := B.returns
  have hts := atoms_spec (ws := vsX12_mendOf) B.pre
  have hown : s.vm.findClass RX12 = some m.cls := findClass_of_methodNamed B.named
  have hlocks := B.notSynchronized
  have hlt0 : ((-9) : Int32).toInt = (-9) := by decide
  have hlt1 : ((-6) : Int32).toInt = (-6) := by decide
  have hlt2 : ((-4) : Int32).toInt = (-4) := by decide
  have hlt3 : ((-3) : Int32).toInt = (-3) := by decide
  have hlt4 : ((-2) : Int32).toInt = (-2) := by decide
  have hlt5 : ((-1) : Int32).toInt = (-1) := by decide
  have hlt6 : (0 : Int32).toInt = 0 := by decide
  have hlt7 : (1 : Int32).toInt = 1 := by decide
  subst hsz
  have hD := hD0.self (sz := s.heap.size)
  generalize hAe : va_A [(ha0_0, .inl (cI, 7, .inl fa0_0)), (ha0_5, .inl (cI, 12, .inl fa0_5)), (ha0_6, .inl (cI, 12, .inl fa0_6)), (ha0_8, .inl (cI, 60, .inl fa0_8)), (ha0, .inr (12, [.ref ha0_0, .ref ha0_1, .ref ha0_2, .ref ha0_3, .ref ha0_4, .ref ha0_5, .ref ha0_6, .ref ha0_7, .ref ha0_8, .int ia0_9, .int ia0_10, .int ia0_11, .int ia0_12, .int ia0_13, .int ia0_14, .int ia0_15, .ref ha0_16, .ref ha0_17, .ref ha0_18, .ref ha0_19, .int ia0_20, .int ia0_21, .int ia0_22, .ref ha0_23, .int ia0_24, .int ia0_25, .int ia0_26, .int ia0_27, .int ia0_28, .ref ha0_29, .int ia0_30, .int ia0_31, .int ia0_32, .ref ha0_33, .ref ha0_34, .ref ha0_35, .int ia0_36, .int ia0_37]))] s.heap.size = A at hD ⊢
  have hA : ∀ q : Nat, s.heap.size ≤ q → A q := fun q h => by rw [← hAe]; exact Or.inr h
  have hS : va_S A s.heap s.heap [] := va_S.rf
  have hP : va_P (dC, dI) vwCl [(ha0_0, .inl (cI, 7, .inl fa0_0)), (ha0_5, .inl (cI, 12, .inl fa0_5)), (ha0_6, .inl (cI, 12, .inl fa0_6)), (ha0_8, .inl (cI, 60, .inl fa0_8)), (ha0, .inr (12, [.ref ha0_0, .ref ha0_1, .ref ha0_2, .ref ha0_3, .ref ha0_4, .ref ha0_5, .ref ha0_6, .ref ha0_7, .ref ha0_8, .int ia0_9, .int ia0_10, .int ia0_11, .int ia0_12, .int ia0_13, .int ia0_14, .int ia0_15, .ref ha0_16, .ref ha0_17, .ref ha0_18, .ref ha0_19, .int ia0_20, .int ia0_21, .int ia0_22, .ref ha0_23, .int ia0_24, .int ia0_25, .int ia0_26, .int ia0_27, .int ia0_28, .ref ha0_29, .int ia0_30, .int ia0_31, .int ia0_32, .ref ha0_33, .ref ha0_34, .ref ha0_35, .int ia0_36, .int ia0_37]))] s.heap := hP
  have hp1l := z_lo p1
  have hp1h := z_hi p1
  have hl := lv_entry ([.ref ha0, .int p1]) (n := 2) (Nat.le_of_ble_eq_true rfl)
  rw [lg_entry_eq]
  generalize (lg_sl ([.ref ha0, .int p1]) ++ List.replicate (2 - (lg_sl ([.ref ha0, .int p1])).length) Slot.unset).toArray = ls at hl ⊢
  have hl : lv_has ls 2 [(0, .ref ha0), (1, .int p1)] := hl
  refine lv_aload_n hx hb dX12_mendOf_0 rfl (lv_at hl 0 rfl) ?_
  refine lv_iload_n hx hb dX12_mendOf_1 rfl (lv_at hl 1 rfl) ?_
  refine z_rdi (va_runV (As := [.int p1]) (rest := []) ⟨hx, hb, hml, hown, hts⟩ (rX12_isLine l dC dI cI cQ ha0 ha0_0 ha0_1 ha0_2 ha0_3 ha0_4 ha0_5 ha0_6 ha0_7 ha0_8 ha0_16 ha0_17 ha0_18 ha0_19 ha0_23 ha0_29 ha0_33 ha0_34 ha0_35 ia0_9 hia0_9l hia0_9h ia0_10 hia0_10l hia0_10h ia0_11 ia0_12 ia0_13 ia0_14 hia0_14l hia0_14h ia0_15 ia0_20 hia0_20l hia0_20h ia0_21 hia0_21l hia0_21h ia0_22 hia0_22l hia0_22h ia0_24 hia0_24l hia0_24h ia0_25 hia0_25l hia0_25h ia0_26 hia0_26l hia0_26h ia0_27 hia0_27l hia0_27h ia0_28 ia0_30 hia0_30l hia0_30h ia0_31 ia0_32 hia0_32l hia0_32h ia0_36 hia0_36l hia0_36h ia0_37 p1) (cwV 1 hts gv_X12_mendOf_X12_isLine_169 rfl rfl rfl (by decide +kernel) ⟨Nat.le_of_ble_eq_true rfl, Nat.le_of_ble_eq_true rfl⟩) ⟨z_blindR, va_recv hK hP (ci := 12) (q0 := 4) rfl rfl, z_preR hZ hP [4] rfl⟩ rfl rfl hl.1 rfl (lv_room (Nat.le_of_ble_eq_true rfl)) dX12_mendOf_2 ⟨Nat.le_of_ble_eq_true rfl, Nat.le_of_ble_eq_true rfl⟩) (fun y1 hy1 => ?_)
  obtain ⟨hy1_0, hy1_1, hy1_2⟩ := hy1
  refine lv_if_eq (tgt := 16) hx hb dX12_mendOf_5 (by decide) (fun hc => ?_) (fun hc => ?_)
  · have q2 : y1.toInt = 0 := z_eq rfl (by decide) hc
    refine lv_aload_n hx hb dX12_mendOf_16 rfl (lv_at hl 0 rfl) ?_
    refine lv_iconst (v := (-1)) hx hb dX12_mendOf_17 (by decide) ?_
    refine z_cwi (wc := [(ha0_0, .inl (cI, 7, .inl fa0_0)), (ha0, .inr (12, [.ref ha0_0, .ref ha0_1, .ref ha0_2, .ref ha0_3, .ref ha0_4, .ref ha0_5, .ref ha0_6, .ref ha0_7, .ref ha0_8, .int ia0_9, .int ia0_10, .int ia0_11, .int ia0_12, .int ia0_13, .int ia0_14, .int ia0_15, .ref ha0_16, .ref ha0_17, .ref ha0_18, .ref ha0_19, .int ia0_20, .int ia0_21, .int ia0_22, .ref ha0_23, .int ia0_24, .int ia0_25, .int ia0_26, .int ia0_27, .int ia0_28, .ref ha0_29, .int ia0_30, .int ia0_31, .int ia0_32, .ref ha0_33, .ref ha0_34, .ref ha0_35, .int ia0_36, .int ia0_37]))]) (wr := [(ha0_5, .inl (cI, 12, .inl fa0_5)), (ha0_6, .inl (cI, 12, .inl fa0_6)), (ha0_8, .inl (cI, 60, .inl fa0_8))]) (w1 := fun u4 => [(ha0_0, .inl (cI, 7, .inl (u4.2 0))), (ha0, .inr (12, [.ref ha0_0, .ref ha0_1, .ref ha0_2, .ref ha0_3, .ref ha0_4, .ref ha0_5, .ref ha0_6, .ref ha0_7, .ref ha0_8, .int ia0_9, .int ia0_10, .int ia0_11, .int ia0_12, .int ia0_13, .int ia0_14, .int ia0_15, .ref ha0_16, .ref ha0_17, .ref ha0_18, .ref ha0_19, .int ia0_20, .int ia0_21, .int ia0_22, .ref ha0_23, .int ia0_24, .int ia0_25, .int ia0_26, .int ia0_27, .int ia0_28, .ref ha0_29, .int ia0_30, .int ia0_31, .int ia0_32, .ref ha0_33, .ref ha0_34, .ref ha0_35, .int ia0_36, .int ia0_37]))]) (va_runV (As := [.int (-1)]) (rest := []) ⟨hx, hb, hml, hown, hts⟩ (wX12_no l dC dI cI cQ ha0 ha0_0 ha0_1 ha0_2 ha0_3 ha0_4 ha0_5 ha0_6 ha0_7 ha0_8 ha0_16 ha0_17 ha0_18 ha0_19 ha0_23 ha0_29 ha0_33 ha0_34 ha0_35 fa0_0 ia0_9 hia0_9l hia0_9h ia0_10 hia0_10l hia0_10h ia0_11 ia0_12 ia0_13 ia0_14 hia0_14l hia0_14h ia0_15 ia0_20 hia0_20l hia0_20h ia0_21 hia0_21l hia0_21h ia0_22 hia0_22l hia0_22h ia0_24 hia0_24l hia0_24h ia0_25 hia0_25l hia0_25h ia0_26 hia0_26l hia0_26h ia0_27 hia0_27l hia0_27h ia0_28 ia0_30 hia0_30l hia0_30h ia0_31 ia0_32 hia0_32l hia0_32h ia0_36 hia0_36l hia0_36h ia0_37 (-1) (by decide) (by decide) s.heap.size) (cwV 1 hts gv_X12_mendOf_X12_no_89 rfl rfl rfl (by decide +kernel) ⟨Nat.le_of_ble_eq_true rfl, Nat.le_of_ble_eq_true rfl⟩) ⟨z_blind, va_recv hK hP (ci := 12) (q0 := 4) rfl rfl, z_pre hZ hP hD [0, 4] rfl (by decide +kernel)⟩ rfl rfl hl.1 rfl (lv_room (Nat.le_of_ble_eq_true rfl)) dX12_mendOf_18 ⟨Nat.le_of_ble_eq_true rfl, Nat.le_of_ble_eq_true rfl⟩) hP hD hS hA [0, 4] [1, 2, 3] rfl rfl (by decide +kernel) (by decide +kernel) (fun y3 u4 H locs hpo hP hD hS => ?_)
    generalize hgf5 : u4.2 0 = f5 at hP hD hpo
    have hP : va_P (dC, dI) vwCl [(ha0_5, .inl (cI, 12, .inl fa0_5)), (ha0_6, .inl (cI, 12, .inl fa0_6)), (ha0_8, .inl (cI, 60, .inl fa0_8)), (ha0_0, .inl (cI, 7, .inl f5)), (ha0, .inr (12, [.ref ha0_0, .ref ha0_1, .ref ha0_2, .ref ha0_3, .ref ha0_4, .ref ha0_5, .ref ha0_6, .ref ha0_7, .ref ha0_8, .int ia0_9, .int ia0_10, .int ia0_11, .int ia0_12, .int ia0_13, .int ia0_14, .int ia0_15, .ref ha0_16, .ref ha0_17, .ref ha0_18, .ref ha0_19, .int ia0_20, .int ia0_21, .int ia0_22, .ref ha0_23, .int ia0_24, .int ia0_25, .int ia0_26, .int ia0_27, .int ia0_28, .ref ha0_29, .int ia0_30, .int ia0_31, .int ia0_32, .ref ha0_33, .ref ha0_34, .ref ha0_35, .int ia0_36, .int ia0_37]))] H := hP
    have hD : va_D A [(ha0_5, .inl (cI, 12, .inl fa0_5)), (ha0_6, .inl (cI, 12, .inl fa0_6)), (ha0_8, .inl (cI, 60, .inl fa0_8)), (ha0_0, .inl (cI, 7, .inl f5)), (ha0, .inr (12, [.ref ha0_0, .ref ha0_1, .ref ha0_2, .ref ha0_3, .ref ha0_4, .ref ha0_5, .ref ha0_6, .ref ha0_7, .ref ha0_8, .int ia0_9, .int ia0_10, .int ia0_11, .int ia0_12, .int ia0_13, .int ia0_14, .int ia0_15, .ref ha0_16, .ref ha0_17, .ref ha0_18, .ref ha0_19, .int ia0_20, .int ia0_21, .int ia0_22, .ref ha0_23, .int ia0_24, .int ia0_25, .int ia0_26, .int ia0_27, .int ia0_28, .ref ha0_29, .int ia0_30, .int ia0_31, .int ia0_32, .ref ha0_33, .ref ha0_34, .ref ha0_35, .int ia0_36, .int ia0_37]))] := hD
    obtain ⟨hy3r, hy3po⟩ := hpo
    obtain ⟨hy3l, hy3h⟩ := hy3r
    have hP9 := hP.sub (ws' := [(ha0_0, .inl (cI, 7, .inl f5)), (ha0_5, .inl (cI, 12, .inl fa0_5)), (ha0_6, .inl (cI, 12, .inl fa0_6)), (ha0_8, .inl (cI, 60, .inl fa0_8)), (ha0, .inr (12, [.ref ha0_0, .ref ha0_1, .ref ha0_2, .ref ha0_3, .ref ha0_4, .ref ha0_5, .ref ha0_6, .ref ha0_7, .ref ha0_8, .int ia0_9, .int ia0_10, .int ia0_11, .int ia0_12, .int ia0_13, .int ia0_14, .int ia0_15, .ref ha0_16, .ref ha0_17, .ref ha0_18, .ref ha0_19, .int ia0_20, .int ia0_21, .int ia0_22, .ref ha0_23, .int ia0_24, .int ia0_25, .int ia0_26, .int ia0_27, .int ia0_28, .ref ha0_29, .int ia0_30, .int ia0_31, .int ia0_32, .ref ha0_33, .ref ha0_34, .ref ha0_35, .int ia0_36, .int ia0_37]))]) [3, 0, 1, 2, 4] rfl
    have hD9 := hD.sub (ws' := [(ha0_0, .inl (cI, 7, .inl f5)), (ha0_5, .inl (cI, 12, .inl fa0_5)), (ha0_6, .inl (cI, 12, .inl fa0_6)), (ha0_8, .inl (cI, 60, .inl fa0_8)), (ha0, .inr (12, [.ref ha0_0, .ref ha0_1, .ref ha0_2, .ref ha0_3, .ref ha0_4, .ref ha0_5, .ref ha0_6, .ref ha0_7, .ref ha0_8, .int ia0_9, .int ia0_10, .int ia0_11, .int ia0_12, .int ia0_13, .int ia0_14, .int ia0_15, .ref ha0_16, .ref ha0_17, .ref ha0_18, .ref ha0_19, .int ia0_20, .int ia0_21, .int ia0_22, .ref ha0_23, .int ia0_24, .int ia0_25, .int ia0_26, .int ia0_27, .int ia0_28, .ref ha0_29, .int ia0_30, .int ia0_31, .int ia0_32, .ref ha0_33, .ref ha0_34, .ref ha0_35, .int ia0_36, .int ia0_37]))]) [3, 0, 1, 2, 4] (by decide) rfl
    have hpo : (zMoP ia0_10.toInt (fun r => ia0_27.toInt = -9 → r = zMw fa0_8 fa0_5 fa0_6 ia0_10.toInt p1.toInt) p1.toInt (y3 : Int32).toInt) := by exact Or.inl ⟨by omega, by omega⟩
    exact W.iret (v := y3) hx hb hr (fun t ht hW => ⟨⟨y3, (fun k => [].getD k 0, fun k => [f5].getD k (fun _ => 0)), rfl, (show ((-9) ≤ (y3 : Int32).toInt ∧ (y3 : Int32).toInt ≤ 5) ∧ ((zMoP ia0_10.toInt (fun r => ia0_27.toInt = -9 → r = zMw fa0_8 fa0_5 fa0_6 ia0_10.toInt p1.toInt) p1.toInt (y3 : Int32).toInt)) from ⟨⟨by first | decide | omega, by first | decide | omega⟩, hpo⟩), by rw [ht]; exact hP9, hD9⟩, hS.F ht⟩) hS.2.2 dX12_mendOf_21
  · have q6 : y1.toInt ≠ 0 := z_ne rfl (by decide) hc
    refine lv_aload_n hx hb dX12_mendOf_8 rfl (lv_at hl 0 rfl) ?_
    refine lv_iload_n hx hb dX12_mendOf_9 rfl (lv_at hl 1 rfl) ?_
    refine z_rdi (va_runV (As := [.int p1]) (rest := []) ⟨hx, hb, hml, hown, hts⟩ (rX12_mendsOf l dC dI cI cQ ha0 ha0_5 ha0_6 ha0_8 ha0_0 ha0_1 ha0_2 ha0_3 ha0_4 ha0_7 ha0_16 ha0_17 ha0_18 ha0_19 ha0_23 ha0_29 ha0_33 ha0_34 ha0_35 fa0_5 hBfa0_5 fa0_6 hBfa0_6 fa0_8 ia0_9 hia0_9l hia0_9h ia0_10 hia0_10l hia0_10h ia0_11 ia0_12 ia0_13 ia0_14 hia0_14l hia0_14h ia0_15 ia0_20 hia0_20l hia0_20h ia0_21 hia0_21l hia0_21h ia0_22 hia0_22l hia0_22h ia0_24 hia0_24l hia0_24h ia0_25 hia0_25l hia0_25h ia0_26 hia0_26l hia0_26h ia0_27 hia0_27l hia0_27h ia0_28 ia0_30 hia0_30l hia0_30h ia0_31 ia0_32 hia0_32l hia0_32h ia0_36 hia0_36l hia0_36h ia0_37 p1 (by first | decide | omega) (by first | decide | omega)) (cwV 1 hts gv_X12_mendOf_X12_mendsOf_241 rfl rfl rfl (by decide +kernel) ⟨Nat.le_of_ble_eq_true rfl, Nat.le_of_ble_eq_true rfl⟩) ⟨z_blindR, va_recv hK hP (ci := 12) (q0 := 4) rfl rfl, z_preR hZ hP [1, 2, 3, 4] rfl⟩ rfl rfl hl.1 rfl (lv_room (Nat.le_of_ble_eq_true rfl)) dX12_mendOf_10 ⟨Nat.le_of_ble_eq_true rfl, Nat.le_of_ble_eq_true rfl⟩) (fun y7 hy7 => ?_)
    obtain ⟨hy7_0, hy7_1, hy7_2⟩ := hy7
    obtain ⟨hy7a, hy7b⟩ := hy7_2
    refine lv_goto (tgt := 21) hx hb dX12_mendOf_13 (by decide) ?_
    have hP9 := hP.sub (ws' := [(ha0_0, .inl (cI, 7, .inl fa0_0)), (ha0_5, .inl (cI, 12, .inl fa0_5)), (ha0_6, .inl (cI, 12, .inl fa0_6)), (ha0_8, .inl (cI, 60, .inl fa0_8)), (ha0, .inr (12, [.ref ha0_0, .ref ha0_1, .ref ha0_2, .ref ha0_3, .ref ha0_4, .ref ha0_5, .ref ha0_6, .ref ha0_7, .ref ha0_8, .int ia0_9, .int ia0_10, .int ia0_11, .int ia0_12, .int ia0_13, .int ia0_14, .int ia0_15, .ref ha0_16, .ref ha0_17, .ref ha0_18, .ref ha0_19, .int ia0_20, .int ia0_21, .int ia0_22, .ref ha0_23, .int ia0_24, .int ia0_25, .int ia0_26, .int ia0_27, .int ia0_28, .ref ha0_29, .int ia0_30, .int ia0_31, .int ia0_32, .ref ha0_33, .ref ha0_34, .ref ha0_35, .int ia0_36, .int ia0_37]))]) [0, 1, 2, 3, 4] rfl
    have hD9 := hD.sub (ws' := [(ha0_0, .inl (cI, 7, .inl fa0_0)), (ha0_5, .inl (cI, 12, .inl fa0_5)), (ha0_6, .inl (cI, 12, .inl fa0_6)), (ha0_8, .inl (cI, 60, .inl fa0_8)), (ha0, .inr (12, [.ref ha0_0, .ref ha0_1, .ref ha0_2, .ref ha0_3, .ref ha0_4, .ref ha0_5, .ref ha0_6, .ref ha0_7, .ref ha0_8, .int ia0_9, .int ia0_10, .int ia0_11, .int ia0_12, .int ia0_13, .int ia0_14, .int ia0_15, .ref ha0_16, .ref ha0_17, .ref ha0_18, .ref ha0_19, .int ia0_20, .int ia0_21, .int ia0_22, .ref ha0_23, .int ia0_24, .int ia0_25, .int ia0_26, .int ia0_27, .int ia0_28, .ref ha0_29, .int ia0_30, .int ia0_31, .int ia0_32, .ref ha0_33, .ref ha0_34, .ref ha0_35, .int ia0_36, .int ia0_37]))]) [0, 1, 2, 3, 4] (by decide) rfl
    have hpo : (zMoP ia0_10.toInt (fun r => ia0_27.toInt = -9 → r = zMw fa0_8 fa0_5 fa0_6 ia0_10.toInt p1.toInt) p1.toInt (y7 : Int32).toInt) := by exact Or.inr ⟨by omega, by omega, hy7b⟩
    exact W.iret (v := y7) hx hb hr (fun t ht hW => ⟨⟨y7, (fun k => [].getD k 0, fun k => [fa0_0].getD k (fun _ => 0)), rfl, (show ((-9) ≤ (y7 : Int32).toInt ∧ (y7 : Int32).toInt ≤ 5) ∧ ((zMoP ia0_10.toInt (fun r => ia0_27.toInt = -9 → r = zMw fa0_8 fa0_5 fa0_6 ia0_10.toInt p1.toInt) p1.toInt (y7 : Int32).toInt)) from ⟨⟨by first | decide | omega, by first | decide | omega⟩, hpo⟩), by rw [ht]; exact hP9, hD9⟩, hS.F ht⟩) hS.2.2 dX12_mendOf_21
set_option maxRecDepth 20000 in
theorem edX12_doesFit_0 : decode cX12_doesFit 0 = .ok (.iconst 1, 1) ∧ decode cX12_doesFit 1 = .ok (.istore_n 1, 1) ∧ decode cX12_doesFit 2 = .ok (.iload_n 1, 1) ∧ decode cX12_doesFit 3 = .ok (.aload_n 0, 1) ∧ decode cX12_doesFit 4 = .ok (.getfield 79, 3) ∧ decode cX12_doesFit 7 = .ok (.if_icmp .ge 32, 3) ∧ decode cX12_doesFit 10 = .ok (.aload_n 0, 1) ∧ decode cX12_doesFit 11 = .ok (.aload_n 0, 1) ∧ decode cX12_doesFit 12 = .ok (.getfield 68, 3) ∧ decode cX12_doesFit 15 = .ok (.iload_n 1, 1) ∧ decode cX12_doesFit 16 = .ok (.iaload, 1) ∧ decode cX12_doesFit 17 = .ok (.aload_n 0, 1) := by decide +kernel
theorem dX12_doesFit_0 : decode cX12_doesFit 0 = .ok (.iconst 1, 1) := edX12_doesFit_0.1
theorem dX12_doesFit_1 : decode cX12_doesFit 1 = .ok (.istore_n 1, 1) := edX12_doesFit_0.2.1
theorem dX12_doesFit_2 : decode cX12_doesFit 2 = .ok (.iload_n 1, 1) := edX12_doesFit_0.2.2.1
theorem dX12_doesFit_3 : decode cX12_doesFit 3 = .ok (.aload_n 0, 1) := edX12_doesFit_0.2.2.2.1
theorem dX12_doesFit_4 : decode cX12_doesFit 4 = .ok (.getfield 79, 3) := edX12_doesFit_0.2.2.2.2.1
theorem dX12_doesFit_7 : decode cX12_doesFit 7 = .ok (.if_icmp .ge 32, 3) := edX12_doesFit_0.2.2.2.2.2.1
theorem dX12_doesFit_10 : decode cX12_doesFit 10 = .ok (.aload_n 0, 1) := edX12_doesFit_0.2.2.2.2.2.2.1
theorem dX12_doesFit_11 : decode cX12_doesFit 11 = .ok (.aload_n 0, 1) := edX12_doesFit_0.2.2.2.2.2.2.2.1
theorem dX12_doesFit_12 : decode cX12_doesFit 12 = .ok (.getfield 68, 3) := edX12_doesFit_0.2.2.2.2.2.2.2.2.1
theorem dX12_doesFit_15 : decode cX12_doesFit 15 = .ok (.iload_n 1, 1) := edX12_doesFit_0.2.2.2.2.2.2.2.2.2.1
theorem dX12_doesFit_16 : decode cX12_doesFit 16 = .ok (.iaload, 1) := edX12_doesFit_0.2.2.2.2.2.2.2.2.2.2.1
theorem dX12_doesFit_17 : decode cX12_doesFit 17 = .ok (.aload_n 0, 1) := edX12_doesFit_0.2.2.2.2.2.2.2.2.2.2.2
set_option maxRecDepth 20000 in
theorem edX12_doesFit_18 : decode cX12_doesFit 18 = .ok (.getfield 68, 3) ∧ decode cX12_doesFit 21 = .ok (.iload_n 1, 1) ∧ decode cX12_doesFit 22 = .ok (.iconst 1, 1) ∧ decode cX12_doesFit 23 = .ok (.isub, 1) ∧ decode cX12_doesFit 24 = .ok (.iaload, 1) ∧ decode cX12_doesFit 25 = .ok (.invokevirtual 188, 3) ∧ decode cX12_doesFit 28 = .ok (.ifCond .ne 5, 3) ∧ decode cX12_doesFit 31 = .ok (.iconst 0, 1) ∧ decode cX12_doesFit 32 = .ok (.ireturn, 1) ∧ decode cX12_doesFit 33 = .ok (.iinc 1 1, 3) ∧ decode cX12_doesFit 36 = .ok (.goto (-34), 3) ∧ decode cX12_doesFit 39 = .ok (.iconst 1, 1) := by decide +kernel
theorem dX12_doesFit_18 : decode cX12_doesFit 18 = .ok (.getfield 68, 3) := edX12_doesFit_18.1
theorem dX12_doesFit_21 : decode cX12_doesFit 21 = .ok (.iload_n 1, 1) := edX12_doesFit_18.2.1
theorem dX12_doesFit_22 : decode cX12_doesFit 22 = .ok (.iconst 1, 1) := edX12_doesFit_18.2.2.1
theorem dX12_doesFit_23 : decode cX12_doesFit 23 = .ok (.isub, 1) := edX12_doesFit_18.2.2.2.1
theorem dX12_doesFit_24 : decode cX12_doesFit 24 = .ok (.iaload, 1) := edX12_doesFit_18.2.2.2.2.1
theorem dX12_doesFit_25 : decode cX12_doesFit 25 = .ok (.invokevirtual 188, 3) := edX12_doesFit_18.2.2.2.2.2.1
theorem dX12_doesFit_28 : decode cX12_doesFit 28 = .ok (.ifCond .ne 5, 3) := edX12_doesFit_18.2.2.2.2.2.2.1
theorem dX12_doesFit_31 : decode cX12_doesFit 31 = .ok (.iconst 0, 1) := edX12_doesFit_18.2.2.2.2.2.2.2.1
theorem dX12_doesFit_32 : decode cX12_doesFit 32 = .ok (.ireturn, 1) := edX12_doesFit_18.2.2.2.2.2.2.2.2.1
theorem dX12_doesFit_33 : decode cX12_doesFit 33 = .ok (.iinc 1 1, 3) := edX12_doesFit_18.2.2.2.2.2.2.2.2.2.1
theorem dX12_doesFit_36 : decode cX12_doesFit 36 = .ok (.goto (-34), 3) := edX12_doesFit_18.2.2.2.2.2.2.2.2.2.2.1
theorem dX12_doesFit_39 : decode cX12_doesFit 39 = .ok (.iconst 1, 1) := edX12_doesFit_18.2.2.2.2.2.2.2.2.2.2.2
theorem dX12_doesFit_40 : decode cX12_doesFit 40 = .ok (.ireturn, 1) := by decide +kernel
noncomputable def voX12_doesFit : List Cond := [.fieldLink RX12 79 "EachOnHisCueModel" "lines" "I", .fieldLink RX12 68 "EachOnHisCueModel" "order" "[I", .methodLink RX12 188 yX12_isCued, .instanceMethod yX12_isCued, .selects RX12 yX12_isCued yX12_isCued, .initialized RX12]
noncomputable def vsX12_doesFit : List Cond := .code yX12_doesFit cX12_doesFit 2 (some .boolean) :: (voX12_doesFit ++ (vsX12_isCued ++ (wsX120)))
theorem zgX12_doesFit : zGd vsX12_doesFit := z_gdC rfl (z_gdA (z_gdO (by decide +kernel) : zGd voX12_doesFit) (z_gdA zgX12_isCued (zgX12)))
theorem in_X12_doesFit_X12 : ∀ w ∈ wsX120, w ∈ vsX12_doesFit := fun _ h => List.mem_cons_of_mem _ (List.mem_append_right _ (List.mem_append_right _ (h)))
theorem gw_X12_doesFit_X12_isCued : GoodIn vsX12_doesFit vsX12_isCued := z_gdI (fun _ h => List.mem_cons_of_mem _ (List.mem_append_right _ (List.mem_append_left _ h))) zgX12_isCued
set_option maxRecDepth 20000 in
theorem gv_X12_doesFit_X12_isCued_188 : GoodIn vsX12_doesFit (wsV RX12 188 RX12 yX12_isCued vsX12_isCued) := goodIn_app (goodIn_of _ (by decide +kernel)) gw_X12_doesFit_X12_isCued
set_option maxHeartbeats 4000000 in
set_option maxRecDepth 100000 in
theorem rX12_doesFit (l : Launch) (dC : Nat → ClassId) (dI : Nat → Nat → Nat) (cI cQ : ClassId) (ha0 ha0_1 ha0_2 ha0_4 ha0_5 ha0_6 ha0_8 ha0_34 ha0_0 ha0_3 ha0_7 ha0_16 ha0_17 ha0_18 ha0_19 ha0_23 ha0_29 ha0_33 ha0_35 : Nat) (fa0_1 : Nat → Int32) (fa0_2 : Nat → Int32) (fa0_4 : Nat → Int32) (hBfa0_4 : ∀ k, 0 ≤ (fa0_4 k).toInt ∧ (fa0_4 k).toInt ≤ 4) (fa0_5 : Nat → Int32) (hBfa0_5 : ∀ k, 0 ≤ (fa0_5 k).toInt ∧ (fa0_5 k).toInt ≤ 4) (fa0_6 : Nat → Int32) (hBfa0_6 : ∀ k, 0 ≤ (fa0_6 k).toInt ∧ (fa0_6 k).toInt ≤ 9) (fa0_8 : Nat → Int32) (fa0_34 : Nat → Int32) (hBfa0_34 : ∀ k, 0 ≤ (fa0_34 k).toInt ∧ (fa0_34 k).toInt ≤ 11) (ia0_9 : Int32) (hia0_9l : 0 ≤ ia0_9.toInt) (hia0_9h : ia0_9.toInt ≤ 5) (ia0_10 : Int32) (hia0_10l : 0 ≤ ia0_10.toInt) (hia0_10h : ia0_10.toInt ≤ 12) (ia0_11 : Int32) (ia0_12 : Int32) (ia0_13 : Int32) (ia0_14 : Int32) (hia0_14l : (-9) ≤ ia0_14.toInt) (hia0_14h : ia0_14.toInt ≤ 11) (ia0_15 : Int32) (ia0_20 : Int32) (hia0_20l : 0 ≤ ia0_20.toInt) (hia0_20h : ia0_20.toInt ≤ 80) (ia0_21 : Int32) (hia0_21l : 0 ≤ ia0_21.toInt) (hia0_21h : ia0_21.toInt ≤ 80) (ia0_22 : Int32) (hia0_22l : 0 ≤ ia0_22.toInt) (hia0_22h : ia0_22.toInt ≤ 40) (ia0_24 : Int32) (hia0_24l : 0 ≤ ia0_24.toInt) (hia0_24h : ia0_24.toInt ≤ 1) (ia0_25 : Int32) (hia0_25l : 0 ≤ ia0_25.toInt) (hia0_25h : ia0_25.toInt ≤ 1) (ia0_26 : Int32) (hia0_26l : 0 ≤ ia0_26.toInt) (hia0_26h : ia0_26.toInt ≤ 300) (ia0_27 : Int32) (hia0_27l : (-9) ≤ ia0_27.toInt) (hia0_27h : ia0_27.toInt ≤ 11) (ia0_28 : Int32) (ia0_30 : Int32) (hia0_30l : 0 ≤ ia0_30.toInt) (hia0_30h : ia0_30.toInt ≤ 60) (ia0_31 : Int32) (ia0_32 : Int32) (hia0_32l : 0 ≤ ia0_32.toInt) (hia0_32h : ia0_32.toInt ≤ 1) (ia0_36 : Int32) (hia0_36l : 0 ≤ ia0_36.toInt) (hia0_36h : ia0_36.toInt ≤ 12) (ia0_37 : Int32) : Met l yX12_doesFit vsX12_doesFit ({ frames := 3, cells := 0, slots := 0, locals := 71 }) (va_Pc [.ref ha0] (zRB dC dI cI cQ [(ha0_1, .inl (cI, 5, .inl fa0_1)), (ha0_2, .inl (cI, 5, .inl fa0_2)), (ha0_4, .inl (cI, 12, .inl fa0_4)), (ha0_5, .inl (cI, 12, .inl fa0_5)), (ha0_6, .inl (cI, 12, .inl fa0_6)), (ha0_8, .inl (cI, 60, .inl fa0_8)), (ha0_34, .inl (cI, 12, .inl fa0_34)), (ha0, .inr (12, [.ref ha0_0, .ref ha0_1, .ref ha0_2, .ref ha0_3, .ref ha0_4, .ref ha0_5, .ref ha0_6, .ref ha0_7, .ref ha0_8, .int ia0_9, .int ia0_10, .int ia0_11, .int ia0_12, .int ia0_13, .int ia0_14, .int ia0_15, .ref ha0_16, .ref ha0_17, .ref ha0_18, .ref ha0_19, .int ia0_20, .int ia0_21, .int ia0_22, .ref ha0_23, .int ia0_24, .int ia0_25, .int ia0_26, .int ia0_27, .int ia0_28, .ref ha0_29, .int ia0_30, .int ia0_31, .int ia0_32, .ref ha0_33, .ref ha0_34, .ref ha0_35, .int ia0_36, .int ia0_37]))])) (vp_Si (fun r => 0 ≤ r.toInt ∧ r.toInt ≤ 1)) 0 0 (fun _ => False) := by
  refine Met.ofW (cc := cX12_doesFit) (maxL := 2) (ret := (some .boolean)) (by decide) rfl ?_
  intro p e s m args below meth c s₁ B hml hv
  obtain ⟨rfl, hP, hZ⟩ := hv
  obtain ⟨hK, hAO, hN⟩ := id hZ
  have hx := B.exec
  have hb := B.bytes
  have hr := B.returns
  have hts := atoms_spec (ws := vsX12_doesFit) B.pre
  have hown : s.vm.findClass RX12 = some m.cls := findClass_of_methodNamed B.named
  have hlocks := B.notSynchronized
  have hl := lv_entry ([.ref ha0]) (n := 2) (Nat.le_of_ble_eq_true rfl)
  rw [lg_entry_eq]
  generalize (lg_sl ([.ref ha0]) ++ List.replicate (2 - (lg_sl ([.ref ha0])).length) Slot.unset).toArray = ls at hl ⊢
  have hl : lv_has ls 2 [(0, .ref ha0)] := hl
  refine lv_iconst (v := 1) hx hb dX12_doesFit_0 (by decide) ?_
  refine lv_istore_n (lv' := [(1, .int 1), (0, .ref ha0)]) hx hb dX12_doesFit_1 rfl hl (by decide) rfl (fun ls hl => ?_)
  have hL74 : ∀ (n : Nat) (v1 : Int32) (ls : Array Slot), 1 ≤ v1.toInt → v1.toInt ≤ 12 → (12 - v1.toInt).toNat < n → lv_has ls 2 [(1, .int v1), (0, .ref ha0)] → W p l e (headSpec vsX12_doesFit ({ frames := 3, cells := 0, slots := 0, locals := 71 })).room s m ([.ref ha0] : List Value).toArray below meth c s.heap [] 0 0 (MQ below (vp_Si (fun r => 0 ≤ r.toInt ∧ r.toInt ≤ 1)) ([.ref ha0] : List Value).toArray s 0 0 (fun _ => False)) (F0 m 2 ls []) := by
    intro n
    induction n with
    | zero =>
      intro v1 ls hi75_0 hi75_1 hi75_m hl
      exact absurd hi75_m (Nat.not_lt_zero _)
    | succ n ih =>
      intro v1 ls hi75_0 hi75_1 hi75_m hl
      have ih76 := ih
      refine lv_iload_n hx hb dX12_doesFit_2 rfl (lv_at hl 0 rfl) ?_
      refine lv_aload_n hx hb dX12_doesFit_3 rfl (lv_at hl 1 rfl) ?_
      refine va_get (D := (dC, dI)) (ci := 12) (v := .int ia0_10) (C := RX12) (T := TX12) (N := 38) hx hb hts in_X12_doesFit_X12 hown hK hP 7 rfl rfl 10 (by decide) (hts (.fieldLink RX12 79 "EachOnHisCueModel" "lines" "I") (by decide +kernel)) (fun _ h9 => h9) rfl dX12_doesFit_4 ?_
      refine lv_icmp_ge (tgt := 39) hx hb dX12_doesFit_7 (by decide) (fun hc => ?_) (fun hc => ?_)
      · have q77 : ia0_10.toInt ≤ v1.toInt := z_le rfl rfl hc
        refine lv_iconst (v := 1) hx hb dX12_doesFit_39 (by decide) ?_
        exact W.zret (v := 1) hx hb hr (rfl) (fun t ht hW => ⟨1, rfl, ⟨by first | decide | omega, by first | decide | omega⟩, ht⟩) (fun _ h => absurd h List.not_mem_nil) dX12_doesFit_40
      · have q78 : v1.toInt < ia0_10.toInt := z_nle rfl rfl hc
        refine lv_aload_n hx hb dX12_doesFit_10 rfl (lv_at hl 1 rfl) ?_
        refine lv_aload_n hx hb dX12_doesFit_11 rfl (lv_at hl 1 rfl) ?_
        refine va_get (D := (dC, dI)) (ci := 12) (v := .ref ha0_34) (C := RX12) (T := TX12) (N := 38) hx hb hts in_X12_doesFit_X12 hown hK hP 7 rfl rfl 34 (by decide) (hts (.fieldLink RX12 68 "EachOnHisCueModel" "order" "[I") (by decide +kernel)) (fun _ h9 => h9) rfl dX12_doesFit_12 ?_
        refine lv_iload_n hx hb dX12_doesFit_15 rfl (lv_at hl 0 rfl) ?_
        refine va_iald hx hb hK hP 6 0 rfl rfl (z_in (by omega) (by omega)) dX12_doesFit_16 ?_
        refine lv_topi (fun y79 ey79 => ?_)
        have gy79 : y79.toInt = (fa0_34 (v1 : Int32).toNatClampNeg).toInt := by rw [ey79]
        have hy79 : 0 ≤ y79.toInt ∧ y79.toInt ≤ 11 := by rw [ey79]; exact hBfa0_34 _
        obtain ⟨hy79, hy79_⟩ := hy79
        refine lv_aload_n hx hb dX12_doesFit_17 rfl (lv_at hl 1 rfl) ?_
        refine va_get (D := (dC, dI)) (ci := 12) (v := .ref ha0_34) (C := RX12) (T := TX12) (N := 38) hx hb hts in_X12_doesFit_X12 hown hK hP 7 rfl rfl 34 (by decide) (hts (.fieldLink RX12 68 "EachOnHisCueModel" "order" "[I") (by decide +kernel)) (fun _ h9 => h9) rfl dX12_doesFit_18 ?_
        refine lv_iload_n hx hb dX12_doesFit_21 rfl (lv_at hl 0 rfl) ?_
        refine lv_iconst (v := 1) hx hb dX12_doesFit_22 (by decide) ?_
        refine lv_isub hx hb dX12_doesFit_23 ?_
        refine lv_topi (fun y80 ey80 => ?_)
        have hy80 : y80.toInt = v1.toInt - 1 := by rw [ey80]; exact z_sub rfl (by decide) (by omega) (by omega)
        refine va_iald hx hb hK hP 6 0 rfl rfl (z_in (by omega) (by omega)) dX12_doesFit_24 ?_
        refine lv_topi (fun y81 ey81 => ?_)
        have gy81 : y81.toInt = (fa0_34 (y80 : Int32).toNatClampNeg).toInt := by rw [ey81]
        have hy81 : 0 ≤ y81.toInt ∧ y81.toInt ≤ 11 := by rw [ey81]; exact hBfa0_34 _
        obtain ⟨hy81, hy81_⟩ := hy81
        refine z_rdi (va_runV (As := [.int y79, .int y81]) (rest := []) ⟨hx, hb, hml, hown, hts⟩ (rX12_isCued l dC dI cI cQ ha0 ha0_1 ha0_2 ha0_4 ha0_5 ha0_6 ha0_8 ha0_0 ha0_3 ha0_7 ha0_16 ha0_17 ha0_18 ha0_19 ha0_23 ha0_29 ha0_33 ha0_34 ha0_35 fa0_1 fa0_2 fa0_4 hBfa0_4 fa0_5 hBfa0_5 fa0_6 hBfa0_6 fa0_8 ia0_9 hia0_9l hia0_9h ia0_10 hia0_10l hia0_10h ia0_11 ia0_12 ia0_13 ia0_14 hia0_14l hia0_14h ia0_15 ia0_20 hia0_20l hia0_20h ia0_21 hia0_21l hia0_21h ia0_22 hia0_22l hia0_22h ia0_24 hia0_24l hia0_24h ia0_25 hia0_25l hia0_25h ia0_26 hia0_26l hia0_26h ia0_27 hia0_27l hia0_27h ia0_28 ia0_30 hia0_30l hia0_30h ia0_31 ia0_32 hia0_32l hia0_32h ia0_36 hia0_36l hia0_36h ia0_37 y79 hy79 hy79_ y81 hy81 hy81_) (cwV 2 hts gv_X12_doesFit_X12_isCued_188 rfl rfl rfl (by decide +kernel) ⟨Nat.le_of_ble_eq_true rfl, Nat.le_of_ble_eq_true rfl⟩) ⟨z_blindR, va_recv hK hP (ci := 12) (q0 := 7) rfl rfl, z_preR hZ hP [0, 1, 2, 3, 4, 5, 7] rfl⟩ rfl rfl hl.1 rfl (lv_room (Nat.le_of_ble_eq_true rfl)) dX12_doesFit_25 ⟨Nat.le_of_ble_eq_true rfl, Nat.le_of_ble_eq_true rfl⟩) (fun y82 hy82 => ?_)
        obtain ⟨hy82_0, hy82_1, hy82_2⟩ := hy82
        refine lv_if_ne (tgt := 33) hx hb dX12_doesFit_28 (by decide) (fun hc => ?_) (fun hc => ?_)
        · have q83 : y82.toInt ≠ 0 := z_ne rfl (by decide) hc
          obtain ⟨y84, ey84⟩ : ∃ y : Int32, y = v1 + 1 := ⟨_, rfl⟩
          refine lv_iinc (v := y84) (lv' := [(1, .int y84), (0, .ref ha0)]) hx hb dX12_doesFit_33 hl (k := 0) rfl (by rw [ey84]; rfl) (by decide) rfl (fun ls hl => ?_)
          have hy84 : y84.toInt = v1.toInt + 1 := by rw [ey84]; exact z_add rfl (by decide) (by omega) (by omega)
          refine lv_goto (tgt := 2) hx hb dX12_doesFit_36 (by decide) ?_
          exact ih76 y84 ls (by first | decide | omega) (by first | decide | omega) (by omega) (lv_sub hl [0, 1] rfl)
        · have q85 : y82.toInt = 0 := z_eq rfl (by decide) hc
          refine lv_iconst (v := 0) hx hb dX12_doesFit_31 (by decide) ?_
          exact W.zret (v := 0) hx hb hr (rfl) (fun t ht hW => ⟨0, rfl, ⟨by first | decide | omega, by first | decide | omega⟩, ht⟩) (fun _ h => absurd h List.not_mem_nil) dX12_doesFit_32
  exact hL74 ((12 - (1 : Int32).toInt).toNat + 1) 1 ls (by decide) (by decide) (by omega) hl
set_option maxRecDepth 20000 in
theorem edX12_count_0 : decode cX12_count 0 = .ok (.iload_n 1, 1) ∧ decode cX12_count 1 = .ok (.bipush 11, 2) ∧ decode cX12_count 3 = .ok (.bipush 16, 2) ∧ decode cX12_count 5 = .ok (.invokestatic 100, 3) ∧ decode cX12_count 8 = .ok (.ifCond .eq 13, 3) ∧ decode cX12_count 11 = .ok (.aload_n 0, 1) ∧ decode cX12_count 12 = .ok (.getfield 7, 3) ∧ decode cX12_count 15 = .ok (.iload_n 1, 1) ∧ decode cX12_count 16 = .ok (.bipush 10, 2) ∧ decode cX12_count 18 = .ok (.isub, 1) ∧ decode cX12_count 19 = .ok (.iaload, 1) ∧ decode cX12_count 20 = .ok (.ireturn, 1) := by decide +kernel
theorem dX12_count_0 : decode cX12_count 0 = .ok (.iload_n 1, 1) := edX12_count_0.1
theorem dX12_count_1 : decode cX12_count 1 = .ok (.bipush 11, 2) := edX12_count_0.2.1
theorem dX12_count_3 : decode cX12_count 3 = .ok (.bipush 16, 2) := edX12_count_0.2.2.1
theorem dX12_count_5 : decode cX12_count 5 = .ok (.invokestatic 100, 3) := edX12_count_0.2.2.2.1
theorem dX12_count_8 : decode cX12_count 8 = .ok (.ifCond .eq 13, 3) := edX12_count_0.2.2.2.2.1
theorem dX12_count_11 : decode cX12_count 11 = .ok (.aload_n 0, 1) := edX12_count_0.2.2.2.2.2.1
theorem dX12_count_12 : decode cX12_count 12 = .ok (.getfield 7, 3) := edX12_count_0.2.2.2.2.2.2.1
theorem dX12_count_15 : decode cX12_count 15 = .ok (.iload_n 1, 1) := edX12_count_0.2.2.2.2.2.2.2.1
theorem dX12_count_16 : decode cX12_count 16 = .ok (.bipush 10, 2) := edX12_count_0.2.2.2.2.2.2.2.2.1
theorem dX12_count_18 : decode cX12_count 18 = .ok (.isub, 1) := edX12_count_0.2.2.2.2.2.2.2.2.2.1
theorem dX12_count_19 : decode cX12_count 19 = .ok (.iaload, 1) := edX12_count_0.2.2.2.2.2.2.2.2.2.2.1
theorem dX12_count_20 : decode cX12_count 20 = .ok (.ireturn, 1) := edX12_count_0.2.2.2.2.2.2.2.2.2.2.2
set_option maxRecDepth 20000 in
theorem edX12_count_21 : decode cX12_count 21 = .ok (.iload_n 1, 1) ∧ decode cX12_count 22 = .ok (.tableswitch 86 0 7 #[46, 51, 56, 61, 66, 71, 76, 81], 46) ∧ decode cX12_count 68 = .ok (.aload_n 0, 1) ∧ decode cX12_count 69 = .ok (.getfield 76, 3) ∧ decode cX12_count 72 = .ok (.ireturn, 1) ∧ decode cX12_count 73 = .ok (.aload_n 0, 1) ∧ decode cX12_count 74 = .ok (.getfield 79, 3) ∧ decode cX12_count 77 = .ok (.ireturn, 1) ∧ decode cX12_count 78 = .ok (.aload_n 0, 1) ∧ decode cX12_count 79 = .ok (.getfield 157, 3) ∧ decode cX12_count 82 = .ok (.ireturn, 1) ∧ decode cX12_count 83 = .ok (.aload_n 0, 1) := by decide +kernel
theorem dX12_count_21 : decode cX12_count 21 = .ok (.iload_n 1, 1) := edX12_count_21.1
theorem dX12_count_22 : decode cX12_count 22 = .ok (.tableswitch 86 0 7 #[46, 51, 56, 61, 66, 71, 76, 81], 46) := edX12_count_21.2.1
theorem dX12_count_68 : decode cX12_count 68 = .ok (.aload_n 0, 1) := edX12_count_21.2.2.1
theorem dX12_count_69 : decode cX12_count 69 = .ok (.getfield 76, 3) := edX12_count_21.2.2.2.1
theorem dX12_count_72 : decode cX12_count 72 = .ok (.ireturn, 1) := edX12_count_21.2.2.2.2.1
theorem dX12_count_73 : decode cX12_count 73 = .ok (.aload_n 0, 1) := edX12_count_21.2.2.2.2.2.1
theorem dX12_count_74 : decode cX12_count 74 = .ok (.getfield 79, 3) := edX12_count_21.2.2.2.2.2.2.1
theorem dX12_count_77 : decode cX12_count 77 = .ok (.ireturn, 1) := edX12_count_21.2.2.2.2.2.2.2.1
theorem dX12_count_78 : decode cX12_count 78 = .ok (.aload_n 0, 1) := edX12_count_21.2.2.2.2.2.2.2.2.1
theorem dX12_count_79 : decode cX12_count 79 = .ok (.getfield 157, 3) := edX12_count_21.2.2.2.2.2.2.2.2.2.1
theorem dX12_count_82 : decode cX12_count 82 = .ok (.ireturn, 1) := edX12_count_21.2.2.2.2.2.2.2.2.2.2.1
theorem dX12_count_83 : decode cX12_count 83 = .ok (.aload_n 0, 1) := edX12_count_21.2.2.2.2.2.2.2.2.2.2.2
set_option maxRecDepth 20000 in
theorem edX12_count_84 : decode cX12_count 84 = .ok (.getfield 41, 3) ∧ decode cX12_count 87 = .ok (.ireturn, 1) ∧ decode cX12_count 88 = .ok (.aload_n 0, 1) ∧ decode cX12_count 89 = .ok (.invokevirtual 294, 3) ∧ decode cX12_count 92 = .ok (.ireturn, 1) ∧ decode cX12_count 93 = .ok (.aload_n 0, 1) ∧ decode cX12_count 94 = .ok (.getfield 86, 3) ∧ decode cX12_count 97 = .ok (.ireturn, 1) ∧ decode cX12_count 98 = .ok (.aload_n 0, 1) ∧ decode cX12_count 99 = .ok (.getfield 276, 3) ∧ decode cX12_count 102 = .ok (.ireturn, 1) ∧ decode cX12_count 103 = .ok (.aload_n 0, 1) := by decide +kernel
theorem dX12_count_84 : decode cX12_count 84 = .ok (.getfield 41, 3) := edX12_count_84.1
theorem dX12_count_87 : decode cX12_count 87 = .ok (.ireturn, 1) := edX12_count_84.2.1
theorem dX12_count_88 : decode cX12_count 88 = .ok (.aload_n 0, 1) := edX12_count_84.2.2.1
theorem dX12_count_89 : decode cX12_count 89 = .ok (.invokevirtual 294, 3) := edX12_count_84.2.2.2.1
theorem dX12_count_92 : decode cX12_count 92 = .ok (.ireturn, 1) := edX12_count_84.2.2.2.2.1
theorem dX12_count_93 : decode cX12_count 93 = .ok (.aload_n 0, 1) := edX12_count_84.2.2.2.2.2.1
theorem dX12_count_94 : decode cX12_count 94 = .ok (.getfield 86, 3) := edX12_count_84.2.2.2.2.2.2.1
theorem dX12_count_97 : decode cX12_count 97 = .ok (.ireturn, 1) := edX12_count_84.2.2.2.2.2.2.2.1
theorem dX12_count_98 : decode cX12_count 98 = .ok (.aload_n 0, 1) := edX12_count_84.2.2.2.2.2.2.2.2.1
theorem dX12_count_99 : decode cX12_count 99 = .ok (.getfield 276, 3) := edX12_count_84.2.2.2.2.2.2.2.2.2.1
theorem dX12_count_102 : decode cX12_count 102 = .ok (.ireturn, 1) := edX12_count_84.2.2.2.2.2.2.2.2.2.2.1
theorem dX12_count_103 : decode cX12_count 103 = .ok (.aload_n 0, 1) := edX12_count_84.2.2.2.2.2.2.2.2.2.2.2
set_option maxRecDepth 20000 in
theorem edX12_count_104 : decode cX12_count 104 = .ok (.getfield 37, 3) ∧ decode cX12_count 107 = .ok (.ireturn, 1) ∧ decode cX12_count 108 = .ok (.bipush (-9), 2) ∧ decode cX12_count 110 = .ok (.ireturn, 1) := by decide +kernel
theorem dX12_count_104 : decode cX12_count 104 = .ok (.getfield 37, 3) := edX12_count_104.1
theorem dX12_count_107 : decode cX12_count 107 = .ok (.ireturn, 1) := edX12_count_104.2.1
theorem dX12_count_108 : decode cX12_count 108 = .ok (.bipush (-9), 2) := edX12_count_104.2.2.1
theorem dX12_count_110 : decode cX12_count 110 = .ok (.ireturn, 1) := edX12_count_104.2.2.2
noncomputable def voX12_count : List Cond := [.fieldLink RX12 76 "EachOnHisCueModel" "players" "I", .fieldLink RX12 79 "EachOnHisCueModel" "lines" "I", .fieldLink RX12 157 "EachOnHisCueModel" "saidMany" "I", .fieldLink RX12 41 "EachOnHisCueModel" "latest" "I", .fieldLink RX12 86 "EachOnHisCueModel" "taped" "I", .fieldLink RX12 276 "EachOnHisCueModel" "rowMany" "I", .fieldLink RX12 37 "EachOnHisCueModel" "lose" "I", .fieldLink RX12 7 "EachOnHisCueModel" "refused" "[I", .methodLink RX12 100 yX12_isIn, .static yX12_isIn, .initialized RX12, .methodLink RX12 294 yX12_words, .instanceMethod yX12_words, .selects RX12 yX12_words yX12_words]
noncomputable def vsX12_count : List Cond := .code yX12_count cX12_count 2 (some .int) :: (voX12_count ++ (vsX12_isIn ++ (vsX12_words ++ (wsX120))))
theorem zgX12_count : zGd vsX12_count := z_gdC rfl (z_gdA (z_gdO (by decide +kernel) : zGd voX12_count) (z_gdA zgX12_isIn (z_gdA zgX12_words (zgX12))))
theorem in_X12_count_X12 : ∀ w ∈ wsX120, w ∈ vsX12_count := fun _ h => List.mem_cons_of_mem _ (List.mem_append_right _ (List.mem_append_right _ (List.mem_append_right _ (h))))
theorem gw_X12_count_X12_isIn : GoodIn vsX12_count vsX12_isIn := z_gdI (fun _ h => List.mem_cons_of_mem _ (List.mem_append_right _ (List.mem_append_left _ h))) zgX12_isIn
set_option maxRecDepth 20000 in
theorem gv_X12_count_X12_isIn_100 : GoodIn vsX12_count (va_wsS RX12 100 yX12_isIn vsX12_isIn) := goodIn_app (goodIn_of _ (by decide +kernel)) gw_X12_count_X12_isIn
theorem gw_X12_count_X12_words : GoodIn vsX12_count vsX12_words := z_gdI (fun _ h => List.mem_cons_of_mem _ (List.mem_append_right _ (List.mem_append_right _ (List.mem_append_left _ h)))) zgX12_words
set_option maxRecDepth 20000 in
theorem gv_X12_count_X12_words_294 : GoodIn vsX12_count (wsV RX12 294 RX12 yX12_words vsX12_words) := goodIn_app (goodIn_of _ (by decide +kernel)) gw_X12_count_X12_words
set_option maxHeartbeats 4000000 in
set_option maxRecDepth 100000 in
theorem rX12_count (l : Launch) (dC : Nat → ClassId) (dI : Nat → Nat → Nat) (cI cQ : ClassId) (ha0 ha0_0 ha0_5 ha0_1 ha0_2 ha0_3 ha0_4 ha0_6 ha0_7 ha0_8 ha0_16 ha0_17 ha0_18 ha0_19 ha0_23 ha0_29 ha0_33 ha0_34 ha0_35 : Nat) (fa0_0 : Nat → Int32) (fa0_5 : Nat → Int32) (hBfa0_5 : ∀ k, 0 ≤ (fa0_5 k).toInt ∧ (fa0_5 k).toInt ≤ 4) (ia0_9 : Int32) (hia0_9l : 0 ≤ ia0_9.toInt) (hia0_9h : ia0_9.toInt ≤ 5) (ia0_10 : Int32) (hia0_10l : 0 ≤ ia0_10.toInt) (hia0_10h : ia0_10.toInt ≤ 12) (ia0_11 : Int32) (ia0_12 : Int32) (ia0_13 : Int32) (ia0_14 : Int32) (hia0_14l : (-9) ≤ ia0_14.toInt) (hia0_14h : ia0_14.toInt ≤ 11) (ia0_15 : Int32) (ia0_20 : Int32) (hia0_20l : 0 ≤ ia0_20.toInt) (hia0_20h : ia0_20.toInt ≤ 80) (ia0_21 : Int32) (hia0_21l : 0 ≤ ia0_21.toInt) (hia0_21h : ia0_21.toInt ≤ 80) (ia0_22 : Int32) (hia0_22l : 0 ≤ ia0_22.toInt) (hia0_22h : ia0_22.toInt ≤ 40) (ia0_24 : Int32) (hia0_24l : 0 ≤ ia0_24.toInt) (hia0_24h : ia0_24.toInt ≤ 1) (ia0_25 : Int32) (hia0_25l : 0 ≤ ia0_25.toInt) (hia0_25h : ia0_25.toInt ≤ 1) (ia0_26 : Int32) (hia0_26l : 0 ≤ ia0_26.toInt) (hia0_26h : ia0_26.toInt ≤ 300) (ia0_27 : Int32) (hia0_27l : (-9) ≤ ia0_27.toInt) (hia0_27h : ia0_27.toInt ≤ 11) (ia0_28 : Int32) (ia0_30 : Int32) (hia0_30l : 0 ≤ ia0_30.toInt) (hia0_30h : ia0_30.toInt ≤ 60) (ia0_31 : Int32) (ia0_32 : Int32) (hia0_32l : 0 ≤ ia0_32.toInt) (hia0_32h : ia0_32.toInt ≤ 1) (ia0_36 : Int32) (hia0_36l : 0 ≤ ia0_36.toInt) (hia0_36h : ia0_36.toInt ≤ 12) (ia0_37 : Int32) (p1 : Int32) : Met l yX12_count vsX12_count ({ frames := 1, cells := 0, slots := 0, locals := 22 }) (va_Pc [.ref ha0, .int p1] (zRB dC dI cI cQ [(ha0_0, .inl (cI, 7, .inl fa0_0)), (ha0_5, .inl (cI, 12, .inl fa0_5)), (ha0, .inr (12, [.ref ha0_0, .ref ha0_1, .ref ha0_2, .ref ha0_3, .ref ha0_4, .ref ha0_5, .ref ha0_6, .ref ha0_7, .ref ha0_8, .int ia0_9, .int ia0_10, .int ia0_11, .int ia0_12, .int ia0_13, .int ia0_14, .int ia0_15, .ref ha0_16, .ref ha0_17, .ref ha0_18, .ref ha0_19, .int ia0_20, .int ia0_21, .int ia0_22, .ref ha0_23, .int ia0_24, .int ia0_25, .int ia0_26, .int ia0_27, .int ia0_28, .ref ha0_29, .int ia0_30, .int ia0_31, .int ia0_32, .ref ha0_33, .ref ha0_34, .ref ha0_35, .int ia0_36, .int ia0_37]))])) (vp_Si (fun r => (-2147483648) ≤ r.toInt ∧ r.toInt ≤ 2147483647)) 0 0 (fun _ => False) := by
  refine Met.ofW (cc := cX12_count) (maxL := 2) (ret := (some .int)) (by decide) rfl ?_
  intro p e s m args below meth c s₁ B hml hv
  obtain ⟨rfl, hP, hZ⟩ := hv
  obtain ⟨hK, hAO, hN⟩ := id hZ
  have hx := B.exec
  have hb := B.bytes
  have hr := B.returns
  have hts := atoms_spec (ws := vsX12_count) B.pre
  have hown : s.vm.findClass RX12 = some m.cls := findClass_of_methodNamed B.named
  have hlocks := B.notSynchronized
  have hp1l := z_lo p1
  have hp1h := z_hi p1
  have hl := lv_entry ([.ref ha0, .int p1]) (n := 2) (Nat.le_of_ble_eq_true rfl)
  rw [lg_entry_eq]
  generalize (lg_sl ([.ref ha0, .int p1]) ++ List.replicate (2 - (lg_sl ([.ref ha0, .int p1])).length) Slot.unset).toArray = ls at hl ⊢
  have hl : lv_has ls 2 [(0, .ref ha0), (1, .int p1)] := hl
  refine lv_iload_n hx hb dX12_count_0 rfl (lv_at hl 1 rfl) ?_
  refine lv_bipush (v := 11) hx hb dX12_count_1 (by decide) ?_
  refine lv_bipush (v := 16) hx hb dX12_count_3 (by decide) ?_
  refine z_rdi (va_runS (As := [.int p1, .int 11, .int 16]) (rest := []) ⟨hx, hb, hml, hown, hts⟩ (rX12_isIn l dC dI cI cQ p1 11 16) (va_cwS 3 hts gv_X12_count_X12_isIn_100 rfl rfl rfl (by decide +kernel) ⟨Nat.le_of_ble_eq_true rfl, Nat.le_of_ble_eq_true rfl⟩) ⟨z_blindR, z_preR hZ hP [] rfl⟩ rfl rfl hl.1 rfl (lv_room (Nat.le_of_ble_eq_true rfl)) dX12_count_5 ⟨Nat.le_of_ble_eq_true rfl, Nat.le_of_ble_eq_true rfl⟩) (fun y1 hy1 => ?_)
  obtain ⟨hy1_0, hy1_1, hy1_2⟩ := hy1
  try simp only [show (11 : Int32).toInt = 11 from by decide, show (16 : Int32).toInt = 16 from by decide] at hy1_2
  refine lv_if_eq (tgt := 21) hx hb dX12_count_8 (by decide) (fun hc => ?_) (fun hc => ?_)
  · have q2 : y1.toInt = 0 := z_eq rfl (by decide) hc
    refine lv_iload_n hx hb dX12_count_21 rfl (lv_at hl 1 rfl) ?_
    rcases (show p1.toInt < 0 ∨ 7 < p1.toInt ∨ p1.toInt = 0 ∨ p1.toInt = 1 ∨ p1.toInt = 2 ∨ p1.toInt = 3 ∨ p1.toInt = 4 ∨ p1.toInt = 5 ∨ p1.toInt = 6 ∨ p1.toInt = 7 by omega) with hs | hs | hs | hs | hs | hs | hs | hs | hs | hs
    · refine lv_tableOut (tgt := 108) hx hb dX12_count_22 (by omega) (by decide) ?_
      refine lv_bipush (v := (-9)) hx hb dX12_count_108 (by decide) ?_
      exact W.iret (v := (-9)) hx hb hr (fun t ht hW => ⟨(-9), rfl, ⟨z_lo _, z_hi _⟩, ht⟩) (fun _ h => absurd h List.not_mem_nil) dX12_count_110
    · refine lv_tableOut (tgt := 108) hx hb dX12_count_22 (by omega) (by decide) ?_
      refine lv_bipush (v := (-9)) hx hb dX12_count_108 (by decide) ?_
      exact W.iret (v := (-9)) hx hb hr (fun t ht hW => ⟨(-9), rfl, ⟨z_lo _, z_hi _⟩, ht⟩) (fun _ h => absurd h List.not_mem_nil) dX12_count_110
    · refine lv_tableIn (tgt := 68) hx hb dX12_count_22 (by omega) (by omega) (off := 46) (by rw [hs]; decide) (by decide) ?_
      refine lv_aload_n hx hb dX12_count_68 rfl (lv_at hl 0 rfl) ?_
      refine va_get (D := (dC, dI)) (ci := 12) (v := .int ia0_9) (C := RX12) (T := TX12) (N := 38) hx hb hts in_X12_count_X12 hown hK hP 2 rfl rfl 9 (by decide) (hts (.fieldLink RX12 76 "EachOnHisCueModel" "players" "I") (by decide +kernel)) (fun _ h9 => h9) rfl dX12_count_69 ?_
      exact W.iret (v := ia0_9) hx hb hr (fun t ht hW => ⟨ia0_9, rfl, ⟨z_lo _, z_hi _⟩, ht⟩) (fun _ h => absurd h List.not_mem_nil) dX12_count_72
    · refine lv_tableIn (tgt := 73) hx hb dX12_count_22 (by omega) (by omega) (off := 51) (by rw [hs]; decide) (by decide) ?_
      refine lv_aload_n hx hb dX12_count_73 rfl (lv_at hl 0 rfl) ?_
      refine va_get (D := (dC, dI)) (ci := 12) (v := .int ia0_10) (C := RX12) (T := TX12) (N := 38) hx hb hts in_X12_count_X12 hown hK hP 2 rfl rfl 10 (by decide) (hts (.fieldLink RX12 79 "EachOnHisCueModel" "lines" "I") (by decide +kernel)) (fun _ h9 => h9) rfl dX12_count_74 ?_
      exact W.iret (v := ia0_10) hx hb hr (fun t ht hW => ⟨ia0_10, rfl, ⟨z_lo _, z_hi _⟩, ht⟩) (fun _ h => absurd h List.not_mem_nil) dX12_count_77
    · refine lv_tableIn (tgt := 78) hx hb dX12_count_22 (by omega) (by omega) (off := 56) (by rw [hs]; decide) (by decide) ?_
      refine lv_aload_n hx hb dX12_count_78 rfl (lv_at hl 0 rfl) ?_
      refine va_get (D := (dC, dI)) (ci := 12) (v := .int ia0_15) (C := RX12) (T := TX12) (N := 38) hx hb hts in_X12_count_X12 hown hK hP 2 rfl rfl 15 (by decide) (hts (.fieldLink RX12 157 "EachOnHisCueModel" "saidMany" "I") (by decide +kernel)) (fun _ h9 => h9) rfl dX12_count_79 ?_
      exact W.iret (v := ia0_15) hx hb hr (fun t ht hW => ⟨ia0_15, rfl, ⟨z_lo _, z_hi _⟩, ht⟩) (fun _ h => absurd h List.not_mem_nil) dX12_count_82
    · refine lv_tableIn (tgt := 83) hx hb dX12_count_22 (by omega) (by omega) (off := 61) (by rw [hs]; decide) (by decide) ?_
      refine lv_aload_n hx hb dX12_count_83 rfl (lv_at hl 0 rfl) ?_
      refine va_get (D := (dC, dI)) (ci := 12) (v := .int ia0_14) (C := RX12) (T := TX12) (N := 38) hx hb hts in_X12_count_X12 hown hK hP 2 rfl rfl 14 (by decide) (hts (.fieldLink RX12 41 "EachOnHisCueModel" "latest" "I") (by decide +kernel)) (fun _ h9 => h9) rfl dX12_count_84 ?_
      exact W.iret (v := ia0_14) hx hb hr (fun t ht hW => ⟨ia0_14, rfl, ⟨z_lo _, z_hi _⟩, ht⟩) (fun _ h => absurd h List.not_mem_nil) dX12_count_87
    · refine lv_tableIn (tgt := 88) hx hb dX12_count_22 (by omega) (by omega) (off := 66) (by rw [hs]; decide) (by decide) ?_
      refine lv_aload_n hx hb dX12_count_88 rfl (lv_at hl 0 rfl) ?_
      refine z_rdi (va_runV (As := []) (rest := []) ⟨hx, hb, hml, hown, hts⟩ (rX12_words l dC dI cI cQ ha0 ha0_5 ha0_0 ha0_1 ha0_2 ha0_3 ha0_4 ha0_6 ha0_7 ha0_8 ha0_16 ha0_17 ha0_18 ha0_19 ha0_23 ha0_29 ha0_33 ha0_34 ha0_35 fa0_5 hBfa0_5 ia0_9 hia0_9l hia0_9h ia0_10 hia0_10l hia0_10h ia0_11 ia0_12 ia0_13 ia0_14 hia0_14l hia0_14h ia0_15 ia0_20 hia0_20l hia0_20h ia0_21 hia0_21l hia0_21h ia0_22 hia0_22l hia0_22h ia0_24 hia0_24l hia0_24h ia0_25 hia0_25l hia0_25h ia0_26 hia0_26l hia0_26h ia0_27 hia0_27l hia0_27h ia0_28 ia0_30 hia0_30l hia0_30h ia0_31 ia0_32 hia0_32l hia0_32h ia0_36 hia0_36l hia0_36h ia0_37) (cwV 0 hts gv_X12_count_X12_words_294 rfl rfl rfl (by decide +kernel) ⟨Nat.le_of_ble_eq_true rfl, Nat.le_of_ble_eq_true rfl⟩) ⟨z_blindR, va_recv hK hP (ci := 12) (q0 := 2) rfl rfl, z_preR hZ hP [1, 2] rfl⟩ rfl rfl hl.1 rfl (lv_room (Nat.le_of_ble_eq_true rfl)) dX12_count_89 ⟨Nat.le_of_ble_eq_true rfl, Nat.le_of_ble_eq_true rfl⟩) (fun y3 hy3 => ?_)
      obtain ⟨hy3_0, hy3_1⟩ := hy3
      exact W.iret (v := y3) hx hb hr (fun t ht hW => ⟨y3, rfl, ⟨z_lo _, z_hi _⟩, ht⟩) (fun _ h => absurd h List.not_mem_nil) dX12_count_92
    · refine lv_tableIn (tgt := 93) hx hb dX12_count_22 (by omega) (by omega) (off := 71) (by rw [hs]; decide) (by decide) ?_
      refine lv_aload_n hx hb dX12_count_93 rfl (lv_at hl 0 rfl) ?_
      refine va_get (D := (dC, dI)) (ci := 12) (v := .int ia0_20) (C := RX12) (T := TX12) (N := 38) hx hb hts in_X12_count_X12 hown hK hP 2 rfl rfl 20 (by decide) (hts (.fieldLink RX12 86 "EachOnHisCueModel" "taped" "I") (by decide +kernel)) (fun _ h9 => h9) rfl dX12_count_94 ?_
      exact W.iret (v := ia0_20) hx hb hr (fun t ht hW => ⟨ia0_20, rfl, ⟨z_lo _, z_hi _⟩, ht⟩) (fun _ h => absurd h List.not_mem_nil) dX12_count_97
    · refine lv_tableIn (tgt := 98) hx hb dX12_count_22 (by omega) (by omega) (off := 76) (by rw [hs]; decide) (by decide) ?_
      refine lv_aload_n hx hb dX12_count_98 rfl (lv_at hl 0 rfl) ?_
      refine va_get (D := (dC, dI)) (ci := 12) (v := .int ia0_36) (C := RX12) (T := TX12) (N := 38) hx hb hts in_X12_count_X12 hown hK hP 2 rfl rfl 36 (by decide) (hts (.fieldLink RX12 276 "EachOnHisCueModel" "rowMany" "I") (by decide +kernel)) (fun _ h9 => h9) rfl dX12_count_99 ?_
      exact W.iret (v := ia0_36) hx hb hr (fun t ht hW => ⟨ia0_36, rfl, ⟨z_lo _, z_hi _⟩, ht⟩) (fun _ h => absurd h List.not_mem_nil) dX12_count_102
    · refine lv_tableIn (tgt := 103) hx hb dX12_count_22 (by omega) (by omega) (off := 81) (by rw [hs]; decide) (by decide) ?_
      refine lv_aload_n hx hb dX12_count_103 rfl (lv_at hl 0 rfl) ?_
      refine va_get (D := (dC, dI)) (ci := 12) (v := .int ia0_11) (C := RX12) (T := TX12) (N := 38) hx hb hts in_X12_count_X12 hown hK hP 2 rfl rfl 11 (by decide) (hts (.fieldLink RX12 37 "EachOnHisCueModel" "lose" "I") (by decide +kernel)) (fun _ h9 => h9) rfl dX12_count_104 ?_
      exact W.iret (v := ia0_11) hx hb hr (fun t ht hW => ⟨ia0_11, rfl, ⟨z_lo _, z_hi _⟩, ht⟩) (fun _ h => absurd h List.not_mem_nil) dX12_count_107
  · have q4 : y1.toInt ≠ 0 := z_ne rfl (by decide) hc
    refine lv_aload_n hx hb dX12_count_11 rfl (lv_at hl 0 rfl) ?_
    refine va_get (D := (dC, dI)) (ci := 12) (v := .ref ha0_0) (C := RX12) (T := TX12) (N := 38) hx hb hts in_X12_count_X12 hown hK hP 2 rfl rfl 0 (by decide) (hts (.fieldLink RX12 7 "EachOnHisCueModel" "refused" "[I") (by decide +kernel)) (fun _ h9 => h9) rfl dX12_count_12 ?_
    refine lv_iload_n hx hb dX12_count_15 rfl (lv_at hl 1 rfl) ?_
    refine lv_bipush (v := 10) hx hb dX12_count_16 (by decide) ?_
    refine lv_isub hx hb dX12_count_18 ?_
    refine lv_topi (fun y5 ey5 => ?_)
    have hy5 : y5.toInt = p1.toInt - 10 := by rw [ey5]; exact z_sub rfl (by decide) (by omega) (by omega)
    refine va_iald hx hb hK hP 0 0 rfl rfl (z_in (by omega) (by omega)) dX12_count_19 ?_
    refine lv_topi (fun y6 ey6 => ?_)
    have gy6 : y6.toInt = (fa0_0 (y5 : Int32).toNatClampNeg).toInt := by rw [ey6]
    exact W.iret (v := y6) hx hb hr (fun t ht hW => ⟨y6, rfl, ⟨z_lo _, z_hi _⟩, ht⟩) (fun _ h => absurd h List.not_mem_nil) dX12_count_20
set_option maxRecDepth 20000 in
theorem edX12_possible_0 : decode cX12_possible 0 = .ok (.aload_n 0, 1) ∧ decode cX12_possible 1 = .ok (.getfield 276, 3) ∧ decode cX12_possible 4 = .ok (.istore_n 1, 1) ∧ decode cX12_possible 5 = .ok (.aload_n 0, 1) ∧ decode cX12_possible 6 = .ok (.iconst 0, 1) ∧ decode cX12_possible 7 = .ok (.putfield 276, 3) ∧ decode cX12_possible 10 = .ok (.iconst 0, 1) ∧ decode cX12_possible 11 = .ok (.istore_n 2, 1) ∧ decode cX12_possible 12 = .ok (.iload_n 2, 1) ∧ decode cX12_possible 13 = .ok (.iload_n 1, 1) ∧ decode cX12_possible 14 = .ok (.if_icmp .ge 75, 3) ∧ decode cX12_possible 17 = .ok (.aload_n 0, 1) := by decide +kernel
theorem dX12_possible_0 : decode cX12_possible 0 = .ok (.aload_n 0, 1) := edX12_possible_0.1
theorem dX12_possible_1 : decode cX12_possible 1 = .ok (.getfield 276, 3) := edX12_possible_0.2.1
theorem dX12_possible_4 : decode cX12_possible 4 = .ok (.istore_n 1, 1) := edX12_possible_0.2.2.1
theorem dX12_possible_5 : decode cX12_possible 5 = .ok (.aload_n 0, 1) := edX12_possible_0.2.2.2.1
theorem dX12_possible_6 : decode cX12_possible 6 = .ok (.iconst 0, 1) := edX12_possible_0.2.2.2.2.1
theorem dX12_possible_7 : decode cX12_possible 7 = .ok (.putfield 276, 3) := edX12_possible_0.2.2.2.2.2.1
theorem dX12_possible_10 : decode cX12_possible 10 = .ok (.iconst 0, 1) := edX12_possible_0.2.2.2.2.2.2.1
theorem dX12_possible_11 : decode cX12_possible 11 = .ok (.istore_n 2, 1) := edX12_possible_0.2.2.2.2.2.2.2.1
theorem dX12_possible_12 : decode cX12_possible 12 = .ok (.iload_n 2, 1) := edX12_possible_0.2.2.2.2.2.2.2.2.1
theorem dX12_possible_13 : decode cX12_possible 13 = .ok (.iload_n 1, 1) := edX12_possible_0.2.2.2.2.2.2.2.2.2.1
theorem dX12_possible_14 : decode cX12_possible 14 = .ok (.if_icmp .ge 75, 3) := edX12_possible_0.2.2.2.2.2.2.2.2.2.2.1
theorem dX12_possible_17 : decode cX12_possible 17 = .ok (.aload_n 0, 1) := edX12_possible_0.2.2.2.2.2.2.2.2.2.2.2
set_option maxRecDepth 20000 in
theorem edX12_possible_18 : decode cX12_possible 18 = .ok (.aload_n 0, 1) ∧ decode cX12_possible 19 = .ok (.getfield 71, 3) ∧ decode cX12_possible 22 = .ok (.iload_n 2, 1) ∧ decode cX12_possible 23 = .ok (.iaload, 1) ∧ decode cX12_possible 24 = .ok (.invokevirtual 169, 3) ∧ decode cX12_possible 27 = .ok (.ifCond .eq 48, 3) ∧ decode cX12_possible 30 = .ok (.iload_n 2, 1) ∧ decode cX12_possible 31 = .ok (.ifCond .ne 15, 3) ∧ decode cX12_possible 34 = .ok (.aload_n 0, 1) ∧ decode cX12_possible 35 = .ok (.getfield 71, 3) ∧ decode cX12_possible 38 = .ok (.iload_n 2, 1) ∧ decode cX12_possible 39 = .ok (.iaload, 1) := by decide +kernel
theorem dX12_possible_18 : decode cX12_possible 18 = .ok (.aload_n 0, 1) := edX12_possible_18.1
theorem dX12_possible_19 : decode cX12_possible 19 = .ok (.getfield 71, 3) := edX12_possible_18.2.1
theorem dX12_possible_22 : decode cX12_possible 22 = .ok (.iload_n 2, 1) := edX12_possible_18.2.2.1
theorem dX12_possible_23 : decode cX12_possible 23 = .ok (.iaload, 1) := edX12_possible_18.2.2.2.1
theorem dX12_possible_24 : decode cX12_possible 24 = .ok (.invokevirtual 169, 3) := edX12_possible_18.2.2.2.2.1
theorem dX12_possible_27 : decode cX12_possible 27 = .ok (.ifCond .eq 48, 3) := edX12_possible_18.2.2.2.2.2.1
theorem dX12_possible_30 : decode cX12_possible 30 = .ok (.iload_n 2, 1) := edX12_possible_18.2.2.2.2.2.2.1
theorem dX12_possible_31 : decode cX12_possible 31 = .ok (.ifCond .ne 15, 3) := edX12_possible_18.2.2.2.2.2.2.2.1
theorem dX12_possible_34 : decode cX12_possible 34 = .ok (.aload_n 0, 1) := edX12_possible_18.2.2.2.2.2.2.2.2.1
theorem dX12_possible_35 : decode cX12_possible 35 = .ok (.getfield 71, 3) := edX12_possible_18.2.2.2.2.2.2.2.2.2.1
theorem dX12_possible_38 : decode cX12_possible 38 = .ok (.iload_n 2, 1) := edX12_possible_18.2.2.2.2.2.2.2.2.2.2.1
theorem dX12_possible_39 : decode cX12_possible 39 = .ok (.iaload, 1) := edX12_possible_18.2.2.2.2.2.2.2.2.2.2.2
set_option maxRecDepth 20000 in
theorem edX12_possible_40 : decode cX12_possible 40 = .ok (.ifCond .ne 35, 3) ∧ decode cX12_possible 43 = .ok (.goto 28, 3) ∧ decode cX12_possible 46 = .ok (.aload_n 0, 1) ∧ decode cX12_possible 47 = .ok (.aload_n 0, 1) ∧ decode cX12_possible 48 = .ok (.getfield 71, 3) ∧ decode cX12_possible 51 = .ok (.iload_n 2, 1) ∧ decode cX12_possible 52 = .ok (.iconst 1, 1) ∧ decode cX12_possible 53 = .ok (.isub, 1) ∧ decode cX12_possible 54 = .ok (.iaload, 1) ∧ decode cX12_possible 55 = .ok (.invokevirtual 220, 3) ∧ decode cX12_possible 58 = .ok (.aload_n 0, 1) ∧ decode cX12_possible 59 = .ok (.getfield 71, 3) := by decide +kernel
theorem dX12_possible_40 : decode cX12_possible 40 = .ok (.ifCond .ne 35, 3) := edX12_possible_40.1
theorem dX12_possible_43 : decode cX12_possible 43 = .ok (.goto 28, 3) := edX12_possible_40.2.1
theorem dX12_possible_46 : decode cX12_possible 46 = .ok (.aload_n 0, 1) := edX12_possible_40.2.2.1
theorem dX12_possible_47 : decode cX12_possible 47 = .ok (.aload_n 0, 1) := edX12_possible_40.2.2.2.1
theorem dX12_possible_48 : decode cX12_possible 48 = .ok (.getfield 71, 3) := edX12_possible_40.2.2.2.2.1
theorem dX12_possible_51 : decode cX12_possible 51 = .ok (.iload_n 2, 1) := edX12_possible_40.2.2.2.2.2.1
theorem dX12_possible_52 : decode cX12_possible 52 = .ok (.iconst 1, 1) := edX12_possible_40.2.2.2.2.2.2.1
theorem dX12_possible_53 : decode cX12_possible 53 = .ok (.isub, 1) := edX12_possible_40.2.2.2.2.2.2.2.1
theorem dX12_possible_54 : decode cX12_possible 54 = .ok (.iaload, 1) := edX12_possible_40.2.2.2.2.2.2.2.2.1
theorem dX12_possible_55 : decode cX12_possible 55 = .ok (.invokevirtual 220, 3) := edX12_possible_40.2.2.2.2.2.2.2.2.2.1
theorem dX12_possible_58 : decode cX12_possible 58 = .ok (.aload_n 0, 1) := edX12_possible_40.2.2.2.2.2.2.2.2.2.2.1
theorem dX12_possible_59 : decode cX12_possible 59 = .ok (.getfield 71, 3) := edX12_possible_40.2.2.2.2.2.2.2.2.2.2.2
set_option maxRecDepth 20000 in
theorem edX12_possible_62 : decode cX12_possible 62 = .ok (.iload_n 2, 1) ∧ decode cX12_possible 63 = .ok (.iaload, 1) ∧ decode cX12_possible 64 = .ok (.ishr, 1) ∧ decode cX12_possible 65 = .ok (.iconst 1, 1) ∧ decode cX12_possible 66 = .ok (.iand, 1) ∧ decode cX12_possible 67 = .ok (.iconst 1, 1) ∧ decode cX12_possible 68 = .ok (.if_icmp .ne 7, 3) ∧ decode cX12_possible 71 = .ok (.iconst 1, 1) ∧ decode cX12_possible 72 = .ok (.goto 4, 3) ∧ decode cX12_possible 75 = .ok (.iconst 0, 1) ∧ decode cX12_possible 76 = .ok (.istore_n 3, 1) ∧ decode cX12_possible 77 = .ok (.iload_n 3, 1) := by decide +kernel
theorem dX12_possible_62 : decode cX12_possible 62 = .ok (.iload_n 2, 1) := edX12_possible_62.1
theorem dX12_possible_63 : decode cX12_possible 63 = .ok (.iaload, 1) := edX12_possible_62.2.1
theorem dX12_possible_64 : decode cX12_possible 64 = .ok (.ishr, 1) := edX12_possible_62.2.2.1
theorem dX12_possible_65 : decode cX12_possible 65 = .ok (.iconst 1, 1) := edX12_possible_62.2.2.2.1
theorem dX12_possible_66 : decode cX12_possible 66 = .ok (.iand, 1) := edX12_possible_62.2.2.2.2.1
theorem dX12_possible_67 : decode cX12_possible 67 = .ok (.iconst 1, 1) := edX12_possible_62.2.2.2.2.2.1
theorem dX12_possible_68 : decode cX12_possible 68 = .ok (.if_icmp .ne 7, 3) := edX12_possible_62.2.2.2.2.2.2.1
theorem dX12_possible_71 : decode cX12_possible 71 = .ok (.iconst 1, 1) := edX12_possible_62.2.2.2.2.2.2.2.1
theorem dX12_possible_72 : decode cX12_possible 72 = .ok (.goto 4, 3) := edX12_possible_62.2.2.2.2.2.2.2.2.1
theorem dX12_possible_75 : decode cX12_possible 75 = .ok (.iconst 0, 1) := edX12_possible_62.2.2.2.2.2.2.2.2.2.1
theorem dX12_possible_76 : decode cX12_possible 76 = .ok (.istore_n 3, 1) := edX12_possible_62.2.2.2.2.2.2.2.2.2.2.1
theorem dX12_possible_77 : decode cX12_possible 77 = .ok (.iload_n 3, 1) := edX12_possible_62.2.2.2.2.2.2.2.2.2.2.2
set_option maxRecDepth 20000 in
theorem edX12_possible_78 : decode cX12_possible 78 = .ok (.ifCond .ne 5, 3) ∧ decode cX12_possible 81 = .ok (.iload_n 2, 1) ∧ decode cX12_possible 82 = .ok (.ireturn, 1) ∧ decode cX12_possible 83 = .ok (.iinc 2 1, 3) ∧ decode cX12_possible 86 = .ok (.goto (-74), 3) ∧ decode cX12_possible 89 = .ok (.bipush (-9), 2) ∧ decode cX12_possible 91 = .ok (.ireturn, 1) := by decide +kernel
theorem dX12_possible_78 : decode cX12_possible 78 = .ok (.ifCond .ne 5, 3) := edX12_possible_78.1
theorem dX12_possible_81 : decode cX12_possible 81 = .ok (.iload_n 2, 1) := edX12_possible_78.2.1
theorem dX12_possible_82 : decode cX12_possible 82 = .ok (.ireturn, 1) := edX12_possible_78.2.2.1
theorem dX12_possible_83 : decode cX12_possible 83 = .ok (.iinc 2 1, 3) := edX12_possible_78.2.2.2.1
theorem dX12_possible_86 : decode cX12_possible 86 = .ok (.goto (-74), 3) := edX12_possible_78.2.2.2.2.1
theorem dX12_possible_89 : decode cX12_possible 89 = .ok (.bipush (-9), 2) := edX12_possible_78.2.2.2.2.2.1
theorem dX12_possible_91 : decode cX12_possible 91 = .ok (.ireturn, 1) := edX12_possible_78.2.2.2.2.2.2
noncomputable def voX12_possible : List Cond := [.fieldLink RX12 276 "EachOnHisCueModel" "rowMany" "I", .fieldLink RX12 71 "EachOnHisCueModel" "row" "[I", .methodLink RX12 169 yX12_isLine, .instanceMethod yX12_isLine, .selects RX12 yX12_isLine yX12_isLine, .initialized RX12, .methodLink RX12 220 yX12_followOf, .instanceMethod yX12_followOf, .selects RX12 yX12_followOf yX12_followOf]
noncomputable def vsX12_possible : List Cond := .code yX12_possible cX12_possible 4 (some .int) :: (voX12_possible ++ (vsX12_isLine ++ (vsX12_followOf ++ (wsX120))))
theorem zgX12_possible : zGd vsX12_possible := z_gdC rfl (z_gdA (z_gdO (by decide +kernel) : zGd voX12_possible) (z_gdA zgX12_isLine (z_gdA zgX12_followOf (zgX12))))
theorem in_X12_possible_X12 : ∀ w ∈ wsX120, w ∈ vsX12_possible := fun _ h => List.mem_cons_of_mem _ (List.mem_append_right _ (List.mem_append_right _ (List.mem_append_right _ (h))))
theorem gw_X12_possible_X12_isLine : GoodIn vsX12_possible vsX12_isLine := z_gdI (fun _ h => List.mem_cons_of_mem _ (List.mem_append_right _ (List.mem_append_left _ h))) zgX12_isLine
set_option maxRecDepth 20000 in
theorem gv_X12_possible_X12_isLine_169 : GoodIn vsX12_possible (wsV RX12 169 RX12 yX12_isLine vsX12_isLine) := goodIn_app (goodIn_of _ (by decide +kernel)) gw_X12_possible_X12_isLine
theorem gw_X12_possible_X12_followOf : GoodIn vsX12_possible vsX12_followOf := z_gdI (fun _ h => List.mem_cons_of_mem _ (List.mem_append_right _ (List.mem_append_right _ (List.mem_append_left _ h)))) zgX12_followOf
set_option maxRecDepth 20000 in
theorem gv_X12_possible_X12_followOf_220 : GoodIn vsX12_possible (wsV RX12 220 RX12 yX12_followOf vsX12_followOf) := goodIn_app (goodIn_of _ (by decide +kernel)) gw_X12_possible_X12_followOf
set_option maxHeartbeats 4000000 in
set_option maxRecDepth 100000 in
theorem wX12_possible (l : Launch) (dC : Nat → ClassId) (dI : Nat → Nat → Nat) (cI cQ : ClassId) (ha0 ha0_1 ha0_2 ha0_4 ha0_5 ha0_6 ha0_8 ha0_35 ha0_0 ha0_3 ha0_7 ha0_16 ha0_17 ha0_18 ha0_19 ha0_23 ha0_29 ha0_33 ha0_34 : Nat) (fa0_1 : Nat → Int32) (fa0_2 : Nat → Int32) (fa0_4 : Nat → Int32) (hBfa0_4 : ∀ k, 0 ≤ (fa0_4 k).toInt ∧ (fa0_4 k).toInt ≤ 4) (fa0_5 : Nat → Int32) (hBfa0_5 : ∀ k, 0 ≤ (fa0_5 k).toInt ∧ (fa0_5 k).toInt ≤ 4) (fa0_6 : Nat → Int32) (hBfa0_6 : ∀ k, 0 ≤ (fa0_6 k).toInt ∧ (fa0_6 k).toInt ≤ 9) (fa0_8 : Nat → Int32) (fa0_35 : Nat → Int32) (hBfa0_35 : ∀ k, 0 ≤ (fa0_35 k).toInt ∧ (fa0_35 k).toInt ≤ 11) (ia0_9 : Int32) (hia0_9l : 0 ≤ ia0_9.toInt) (hia0_9h : ia0_9.toInt ≤ 5) (ia0_10 : Int32) (hia0_10l : 0 ≤ ia0_10.toInt) (hia0_10h : ia0_10.toInt ≤ 12) (ia0_11 : Int32) (ia0_12 : Int32) (ia0_13 : Int32) (ia0_14 : Int32) (hia0_14l : (-9) ≤ ia0_14.toInt) (hia0_14h : ia0_14.toInt ≤ 11) (ia0_15 : Int32) (ia0_20 : Int32) (hia0_20l : 0 ≤ ia0_20.toInt) (hia0_20h : ia0_20.toInt ≤ 80) (ia0_21 : Int32) (hia0_21l : 0 ≤ ia0_21.toInt) (hia0_21h : ia0_21.toInt ≤ 80) (ia0_22 : Int32) (hia0_22l : 0 ≤ ia0_22.toInt) (hia0_22h : ia0_22.toInt ≤ 40) (ia0_24 : Int32) (hia0_24l : 0 ≤ ia0_24.toInt) (hia0_24h : ia0_24.toInt ≤ 1) (ia0_25 : Int32) (hia0_25l : 0 ≤ ia0_25.toInt) (hia0_25h : ia0_25.toInt ≤ 1) (ia0_26 : Int32) (hia0_26l : 0 ≤ ia0_26.toInt) (hia0_26h : ia0_26.toInt ≤ 300) (ia0_27 : Int32) (hia0_27l : (-9) ≤ ia0_27.toInt) (hia0_27h : ia0_27.toInt ≤ 11) (ia0_28 : Int32) (ia0_30 : Int32) (hia0_30l : 0 ≤ ia0_30.toInt) (hia0_30h : ia0_30.toInt ≤ 60) (ia0_31 : Int32) (ia0_32 : Int32) (hia0_32l : 0 ≤ ia0_32.toInt) (hia0_32h : ia0_32.toInt ≤ 1) (ia0_36 : Int32) (hia0_36l : 0 ≤ ia0_36.toInt) (hia0_36h : ia0_36.toInt ≤ 12) (ia0_37 : Int32) (sz : Nat) : Met l yX12_possible vsX12_possible ({ frames := 4, cells := 0, slots := 0, locals := 94 }) (va_Pc [.ref ha0] (zB dC dI cI cQ [(ha0_1, .inl (cI, 5, .inl fa0_1)), (ha0_2, .inl (cI, 5, .inl fa0_2)), (ha0_4, .inl (cI, 12, .inl fa0_4)), (ha0_5, .inl (cI, 12, .inl fa0_5)), (ha0_6, .inl (cI, 12, .inl fa0_6)), (ha0_8, .inl (cI, 60, .inl fa0_8)), (ha0_35, .inl (cI, 12, .inl fa0_35)), (ha0, .inr (12, [.ref ha0_0, .ref ha0_1, .ref ha0_2, .ref ha0_3, .ref ha0_4, .ref ha0_5, .ref ha0_6, .ref ha0_7, .ref ha0_8, .int ia0_9, .int ia0_10, .int ia0_11, .int ia0_12, .int ia0_13, .int ia0_14, .int ia0_15, .ref ha0_16, .ref ha0_17, .ref ha0_18, .ref ha0_19, .int ia0_20, .int ia0_21, .int ia0_22, .ref ha0_23, .int ia0_24, .int ia0_25, .int ia0_26, .int ia0_27, .int ia0_28, .ref ha0_29, .int ia0_30, .int ia0_31, .int ia0_32, .ref ha0_33, .ref ha0_34, .ref ha0_35, .int ia0_36, .int ia0_37]))] sz)) (zWi dC dI (va_A [(ha0_1, .inl (cI, 5, .inl fa0_1)), (ha0_2, .inl (cI, 5, .inl fa0_2)), (ha0_4, .inl (cI, 12, .inl fa0_4)), (ha0_5, .inl (cI, 12, .inl fa0_5)), (ha0_6, .inl (cI, 12, .inl fa0_6)), (ha0_8, .inl (cI, 60, .inl fa0_8)), (ha0_35, .inl (cI, 12, .inl fa0_35)), (ha0, .inr (12, [.ref ha0_0, .ref ha0_1, .ref ha0_2, .ref ha0_3, .ref ha0_4, .ref ha0_5, .ref ha0_6, .ref ha0_7, .ref ha0_8, .int ia0_9, .int ia0_10, .int ia0_11, .int ia0_12, .int ia0_13, .int ia0_14, .int ia0_15, .ref ha0_16, .ref ha0_17, .ref ha0_18, .ref ha0_19, .int ia0_20, .int ia0_21, .int ia0_22, .ref ha0_23, .int ia0_24, .int ia0_25, .int ia0_26, .int ia0_27, .int ia0_28, .ref ha0_29, .int ia0_30, .int ia0_31, .int ia0_32, .ref ha0_33, .ref ha0_34, .ref ha0_35, .int ia0_36, .int ia0_37]))] sz) (fun u => [(ha0_1, .inl (cI, 5, .inl fa0_1)), (ha0_2, .inl (cI, 5, .inl fa0_2)), (ha0_4, .inl (cI, 12, .inl fa0_4)), (ha0_5, .inl (cI, 12, .inl fa0_5)), (ha0_6, .inl (cI, 12, .inl fa0_6)), (ha0_8, .inl (cI, 60, .inl fa0_8)), (ha0_35, .inl (cI, 12, .inl fa0_35)), (ha0, .inr (12, [.ref ha0_0, .ref ha0_1, .ref ha0_2, .ref ha0_3, .ref ha0_4, .ref ha0_5, .ref ha0_6, .ref ha0_7, .ref ha0_8, .int ia0_9, .int ia0_10, .int ia0_11, .int ia0_12, .int ia0_13, .int ia0_14, .int ia0_15, .ref ha0_16, .ref ha0_17, .ref ha0_18, .ref ha0_19, .int ia0_20, .int ia0_21, .int ia0_22, .ref ha0_23, .int ia0_24, .int ia0_25, .int ia0_26, .int ia0_27, .int ia0_28, .ref ha0_29, .int ia0_30, .int ia0_31, .int ia0_32, .ref ha0_33, .ref ha0_34, .ref ha0_35, .int 0, .int ia0_37]))]) (fun r u => ((-9) ≤ r.toInt ∧ r.toInt ≤ 11) ∧ True)) 0 0 (va_A [(ha0_1, .inl (cI, 5, .inl fa0_1)), (ha0_2, .inl (cI, 5, .inl fa0_2)), (ha0_4, .inl (cI, 12, .inl fa0_4)), (ha0_5, .inl (cI, 12, .inl fa0_5)), (ha0_6, .inl (cI, 12, .inl fa0_6)), (ha0_8, .inl (cI, 60, .inl fa0_8)), (ha0_35, .inl (cI, 12, .inl fa0_35)), (ha0, .inr (12, [.ref ha0_0, .ref ha0_1, .ref ha0_2, .ref ha0_3, .ref ha0_4, .ref ha0_5, .ref ha0_6, .ref ha0_7, .ref ha0_8, .int ia0_9, .int ia0_10, .int ia0_11, .int ia0_12, .int ia0_13, .int ia0_14, .int ia0_15, .ref ha0_16, .ref ha0_17, .ref ha0_18, .ref ha0_19, .int ia0_20, .int ia0_21, .int ia0_22, .ref ha0_23, .int ia0_24, .int ia0_25, .int ia0_26, .int ia0_27, .int ia0_28, .ref ha0_29, .int ia0_30, .int ia0_31, .int ia0_32, .ref ha0_33, .ref ha0_34, .ref ha0_35, .int ia0_36, .int ia0_37]))] sz) := by
  refine Met.ofW (cc := cX12_possible) (maxL := 4) (ret := (some .int)) (by decide) rfl ?_
  intro p e s m args below meth c s₁ B hml hv
  obtain ⟨rfl, hsz, hP, hZ, hD0⟩ := hv
  obtain ⟨hK, hAO, hN⟩ := id hZ
  have hx := B.exec
  have hb := B.bytes
  have hr := B.returns
  have hts := atoms_spec (ws := vsX12_possible) B.pre
  have hown : s.vm.findClass RX12 = some m.cls := findClass_of_methodNamed B.named
  have hlocks := B.notSynchronized
  subst hsz
  have hD := hD0.self (sz := s.heap.size)
  generalize hAe : va_A [(ha0_1, .inl (cI, 5, .inl fa0_1)), (ha0_2, .inl (cI, 5, .inl fa0_2)), (ha0_4, .inl (cI, 12, .inl fa0_4)), (ha0_5, .inl (cI, 12, .inl fa0_5)), (ha0_6, .inl (cI, 12, .inl fa0_6)), (ha0_8, .inl (cI, 60, .inl fa0_8)), (ha0_35, .inl (cI, 12, .inl fa0_35)), (ha0, .inr (12, [.ref ha0_0, .ref ha0_1, .ref ha0_2, .ref ha0_3, .ref ha0_4, .ref ha0_5, .ref ha0_6, .ref ha0_7, .ref ha0_8, .int ia0_9, .int ia0_10, .int ia0_11, .int ia0_12, .int ia0_13, .int ia0_14, .int ia0_15, .ref ha0_16, .ref ha0_17, .ref ha0_18, .ref ha0_19, .int ia0_20, .int ia0_21, .int ia0_22, .ref ha0_23, .int ia0_24, .int ia0_25, .int ia0_26, .int ia0_27, .int ia0_28, .ref ha0_29, .int ia0_30, .int ia0_31, .int ia0_32, .ref ha0_33, .ref ha0_34, .ref ha0_35, .int ia0_36, .int ia0_37]))] s.heap.size = A at hD ⊢
  have hA : ∀ q : Nat, s.heap.size ≤ q → A q := fun q h => by rw [← hAe]; exact Or.inr h
  have hS : va_S A s.heap s.heap [] := va_S.rf
  have hP : va_P (dC, dI) vwCl [(ha0_1, .inl (cI, 5, .inl fa0_1)), (ha0_2, .inl (cI, 5, .inl fa0_2)), (ha0_4, .inl (cI, 12, .inl fa0_4)), (ha0_5, .inl (cI, 12, .inl fa0_5)), (ha0_6, .inl (cI, 12, .inl fa0_6)), (ha0_8, .inl (cI, 60, .inl fa0_8)), (ha0_35, .inl (cI, 12, .inl fa0_35)), (ha0, .inr (12, [.ref ha0_0, .ref ha0_1, .ref ha0_2, .ref ha0_3, .ref ha0_4, .ref ha0_5, .ref ha0_6, .ref ha0_7, .ref ha0_8, .int ia0_9, .int ia0_10, .int ia0_11, .int ia0_12, .int ia0_13, .int ia0_14, .int ia0_15, .ref ha0_16, .ref ha0_17, .ref ha0_18, .ref ha0_19, .int ia0_20, .int ia0_21, .int ia0_22, .ref ha0_23, .int ia0_24, .int ia0_25, .int ia0_26, .int ia0_27, .int ia0_28, .ref ha0_29, .int ia0_30, .int ia0_31, .int ia0_32, .ref ha0_33, .ref ha0_34, .ref ha0_35, .int ia0_36, .int ia0_37]))] s.heap := hP
  have hl := lv_entry ([.ref ha0]) (n := 4) (Nat.le_of_ble_eq_true rfl)
  rw [lg_entry_eq]
  generalize (lg_sl ([.ref ha0]) ++ List.replicate (4 - (lg_sl ([.ref ha0])).length) Slot.unset).toArray = ls at hl ⊢
  have hl : lv_has ls 4 [(0, .ref ha0)] := hl
  refine lv_aload_n hx hb dX12_possible_0 rfl (lv_at hl 0 rfl) ?_
  refine va_get (D := (dC, dI)) (ci := 12) (v := .int ia0_36) (C := RX12) (T := TX12) (N := 38) hx hb hts in_X12_possible_X12 hown hK hP 7 rfl rfl 36 (by decide) (hts (.fieldLink RX12 276 "EachOnHisCueModel" "rowMany" "I") (by decide +kernel)) (fun _ h9 => h9) rfl dX12_possible_1 ?_
  refine lv_istore_n (lv' := [(1, .int ia0_36), (0, .ref ha0)]) hx hb dX12_possible_4 rfl hl (by decide) rfl (fun ls hl => ?_)
  refine lv_aload_n hx hb dX12_possible_5 rfl (lv_at hl 1 rfl) ?_
  refine lv_iconst (v := 0) hx hb dX12_possible_6 (by decide) ?_
  refine va_put (D := (dC, dI)) (ci := 12) (v := .int 0) (ty := .int) (C := RX12) (T := TX12) (N := 38) hx hb hts in_X12_possible_X12 tyX12 tyX12_ok nmX12 hown hK hP hD hS 7 rfl rfl 36 (by decide) (hts (.fieldLink RX12 276 "EachOnHisCueModel" "rowMany" "I") (by decide +kernel)) (fun _ h9 => h9) rfl (by decide +kernel) rfl rfl (Nat.le_of_ble_eq_true rfl) dX12_possible_7 (fun H locs hP hD hS => ?_)
  have hP : va_P (dC, dI) vwCl [(ha0_1, .inl (cI, 5, .inl fa0_1)), (ha0_2, .inl (cI, 5, .inl fa0_2)), (ha0_4, .inl (cI, 12, .inl fa0_4)), (ha0_5, .inl (cI, 12, .inl fa0_5)), (ha0_6, .inl (cI, 12, .inl fa0_6)), (ha0_8, .inl (cI, 60, .inl fa0_8)), (ha0_35, .inl (cI, 12, .inl fa0_35)), (ha0, .inr (12, [.ref ha0_0, .ref ha0_1, .ref ha0_2, .ref ha0_3, .ref ha0_4, .ref ha0_5, .ref ha0_6, .ref ha0_7, .ref ha0_8, .int ia0_9, .int ia0_10, .int ia0_11, .int ia0_12, .int ia0_13, .int ia0_14, .int ia0_15, .ref ha0_16, .ref ha0_17, .ref ha0_18, .ref ha0_19, .int ia0_20, .int ia0_21, .int ia0_22, .ref ha0_23, .int ia0_24, .int ia0_25, .int ia0_26, .int ia0_27, .int ia0_28, .ref ha0_29, .int ia0_30, .int ia0_31, .int ia0_32, .ref ha0_33, .ref ha0_34, .ref ha0_35, .int 0, .int ia0_37]))] H := hP
  have hD : va_D A [(ha0_1, .inl (cI, 5, .inl fa0_1)), (ha0_2, .inl (cI, 5, .inl fa0_2)), (ha0_4, .inl (cI, 12, .inl fa0_4)), (ha0_5, .inl (cI, 12, .inl fa0_5)), (ha0_6, .inl (cI, 12, .inl fa0_6)), (ha0_8, .inl (cI, 60, .inl fa0_8)), (ha0_35, .inl (cI, 12, .inl fa0_35)), (ha0, .inr (12, [.ref ha0_0, .ref ha0_1, .ref ha0_2, .ref ha0_3, .ref ha0_4, .ref ha0_5, .ref ha0_6, .ref ha0_7, .ref ha0_8, .int ia0_9, .int ia0_10, .int ia0_11, .int ia0_12, .int ia0_13, .int ia0_14, .int ia0_15, .ref ha0_16, .ref ha0_17, .ref ha0_18, .ref ha0_19, .int ia0_20, .int ia0_21, .int ia0_22, .ref ha0_23, .int ia0_24, .int ia0_25, .int ia0_26, .int ia0_27, .int ia0_28, .ref ha0_29, .int ia0_30, .int ia0_31, .int ia0_32, .ref ha0_33, .ref ha0_34, .ref ha0_35, .int 0, .int ia0_37]))] := hD
  refine lv_iconst (v := 0) hx hb dX12_possible_10 (by decide) ?_
  refine lv_istore_n (lv' := [(2, .int 0), (1, .int ia0_36), (0, .ref ha0)]) hx hb dX12_possible_11 rfl hl (by decide) rfl (fun ls hl => ?_)
  have hL161 : ∀ (n : Nat) (v1 : Int32) (H : Heap) (locs : List Loc) (ls : Array Slot), 0 ≤ v1.toInt → v1.toInt ≤ 12 → (12 - v1.toInt).toNat < n → lv_has ls 4 [(2, .int v1), (1, .int ia0_36), (0, .ref ha0)] → va_P (dC, dI) vwCl [(ha0_1, .inl (cI, 5, .inl fa0_1)), (ha0_2, .inl (cI, 5, .inl fa0_2)), (ha0_4, .inl (cI, 12, .inl fa0_4)), (ha0_5, .inl (cI, 12, .inl fa0_5)), (ha0_6, .inl (cI, 12, .inl fa0_6)), (ha0_8, .inl (cI, 60, .inl fa0_8)), (ha0_35, .inl (cI, 12, .inl fa0_35)), (ha0, .inr (12, [.ref ha0_0, .ref ha0_1, .ref ha0_2, .ref ha0_3, .ref ha0_4, .ref ha0_5, .ref ha0_6, .ref ha0_7, .ref ha0_8, .int ia0_9, .int ia0_10, .int ia0_11, .int ia0_12, .int ia0_13, .int ia0_14, .int ia0_15, .ref ha0_16, .ref ha0_17, .ref ha0_18, .ref ha0_19, .int ia0_20, .int ia0_21, .int ia0_22, .ref ha0_23, .int ia0_24, .int ia0_25, .int ia0_26, .int ia0_27, .int ia0_28, .ref ha0_29, .int ia0_30, .int ia0_31, .int ia0_32, .ref ha0_33, .ref ha0_34, .ref ha0_35, .int 0, .int ia0_37]))] H → va_D A [(ha0_1, .inl (cI, 5, .inl fa0_1)), (ha0_2, .inl (cI, 5, .inl fa0_2)), (ha0_4, .inl (cI, 12, .inl fa0_4)), (ha0_5, .inl (cI, 12, .inl fa0_5)), (ha0_6, .inl (cI, 12, .inl fa0_6)), (ha0_8, .inl (cI, 60, .inl fa0_8)), (ha0_35, .inl (cI, 12, .inl fa0_35)), (ha0, .inr (12, [.ref ha0_0, .ref ha0_1, .ref ha0_2, .ref ha0_3, .ref ha0_4, .ref ha0_5, .ref ha0_6, .ref ha0_7, .ref ha0_8, .int ia0_9, .int ia0_10, .int ia0_11, .int ia0_12, .int ia0_13, .int ia0_14, .int ia0_15, .ref ha0_16, .ref ha0_17, .ref ha0_18, .ref ha0_19, .int ia0_20, .int ia0_21, .int ia0_22, .ref ha0_23, .int ia0_24, .int ia0_25, .int ia0_26, .int ia0_27, .int ia0_28, .ref ha0_29, .int ia0_30, .int ia0_31, .int ia0_32, .ref ha0_33, .ref ha0_34, .ref ha0_35, .int 0, .int ia0_37]))] → va_S A s.heap H locs → W p l e (headSpec vsX12_possible ({ frames := 4, cells := 0, slots := 0, locals := 94 })).room s m ([.ref ha0] : List Value).toArray below meth c H locs 0 0 (MQ below (zWi dC dI (A) (fun u => [(ha0_1, .inl (cI, 5, .inl fa0_1)), (ha0_2, .inl (cI, 5, .inl fa0_2)), (ha0_4, .inl (cI, 12, .inl fa0_4)), (ha0_5, .inl (cI, 12, .inl fa0_5)), (ha0_6, .inl (cI, 12, .inl fa0_6)), (ha0_8, .inl (cI, 60, .inl fa0_8)), (ha0_35, .inl (cI, 12, .inl fa0_35)), (ha0, .inr (12, [.ref ha0_0, .ref ha0_1, .ref ha0_2, .ref ha0_3, .ref ha0_4, .ref ha0_5, .ref ha0_6, .ref ha0_7, .ref ha0_8, .int ia0_9, .int ia0_10, .int ia0_11, .int ia0_12, .int ia0_13, .int ia0_14, .int ia0_15, .ref ha0_16, .ref ha0_17, .ref ha0_18, .ref ha0_19, .int ia0_20, .int ia0_21, .int ia0_22, .ref ha0_23, .int ia0_24, .int ia0_25, .int ia0_26, .int ia0_27, .int ia0_28, .ref ha0_29, .int ia0_30, .int ia0_31, .int ia0_32, .ref ha0_33, .ref ha0_34, .ref ha0_35, .int 0, .int ia0_37]))]) (fun r u => ((-9) ≤ r.toInt ∧ r.toInt ≤ 11) ∧ True)) ([.ref ha0] : List Value).toArray s 0 0 A) (F0 m 12 ls []) := by
    intro n
    induction n with
    | zero =>
      intro v1 H locs ls hi162_0 hi162_1 hi162_m hl hP hD hS
      exact absurd hi162_m (Nat.not_lt_zero _)
    | succ n ih =>
      intro v1 H locs ls hi162_0 hi162_1 hi162_m hl hP hD hS
      have ih163 := ih
      refine lv_iload_n hx hb dX12_possible_12 rfl (lv_at hl 0 rfl) ?_
      refine lv_iload_n hx hb dX12_possible_13 rfl (lv_at hl 1 rfl) ?_
      refine lv_icmp_ge (tgt := 89) hx hb dX12_possible_14 (by decide) (fun hc => ?_) (fun hc => ?_)
      · have q164 : ia0_36.toInt ≤ v1.toInt := z_le rfl rfl hc
        refine lv_bipush (v := (-9)) hx hb dX12_possible_89 (by decide) ?_
        have hP9 := hP.sub (ws' := [(ha0_1, .inl (cI, 5, .inl fa0_1)), (ha0_2, .inl (cI, 5, .inl fa0_2)), (ha0_4, .inl (cI, 12, .inl fa0_4)), (ha0_5, .inl (cI, 12, .inl fa0_5)), (ha0_6, .inl (cI, 12, .inl fa0_6)), (ha0_8, .inl (cI, 60, .inl fa0_8)), (ha0_35, .inl (cI, 12, .inl fa0_35)), (ha0, .inr (12, [.ref ha0_0, .ref ha0_1, .ref ha0_2, .ref ha0_3, .ref ha0_4, .ref ha0_5, .ref ha0_6, .ref ha0_7, .ref ha0_8, .int ia0_9, .int ia0_10, .int ia0_11, .int ia0_12, .int ia0_13, .int ia0_14, .int ia0_15, .ref ha0_16, .ref ha0_17, .ref ha0_18, .ref ha0_19, .int ia0_20, .int ia0_21, .int ia0_22, .ref ha0_23, .int ia0_24, .int ia0_25, .int ia0_26, .int ia0_27, .int ia0_28, .ref ha0_29, .int ia0_30, .int ia0_31, .int ia0_32, .ref ha0_33, .ref ha0_34, .ref ha0_35, .int 0, .int ia0_37]))]) [0, 1, 2, 3, 4, 5, 6, 7] rfl
        have hD9 := hD.sub (ws' := [(ha0_1, .inl (cI, 5, .inl fa0_1)), (ha0_2, .inl (cI, 5, .inl fa0_2)), (ha0_4, .inl (cI, 12, .inl fa0_4)), (ha0_5, .inl (cI, 12, .inl fa0_5)), (ha0_6, .inl (cI, 12, .inl fa0_6)), (ha0_8, .inl (cI, 60, .inl fa0_8)), (ha0_35, .inl (cI, 12, .inl fa0_35)), (ha0, .inr (12, [.ref ha0_0, .ref ha0_1, .ref ha0_2, .ref ha0_3, .ref ha0_4, .ref ha0_5, .ref ha0_6, .ref ha0_7, .ref ha0_8, .int ia0_9, .int ia0_10, .int ia0_11, .int ia0_12, .int ia0_13, .int ia0_14, .int ia0_15, .ref ha0_16, .ref ha0_17, .ref ha0_18, .ref ha0_19, .int ia0_20, .int ia0_21, .int ia0_22, .ref ha0_23, .int ia0_24, .int ia0_25, .int ia0_26, .int ia0_27, .int ia0_28, .ref ha0_29, .int ia0_30, .int ia0_31, .int ia0_32, .ref ha0_33, .ref ha0_34, .ref ha0_35, .int 0, .int ia0_37]))]) [0, 1, 2, 3, 4, 5, 6, 7] (by decide) rfl
        exact W.iret (v := (-9)) hx hb hr (fun t ht hW => ⟨⟨(-9), (fun k => [].getD k 0, fun k => [].getD k (fun _ => 0)), rfl, (show ((-9) ≤ ((-9) : Int32).toInt ∧ ((-9) : Int32).toInt ≤ 11) ∧ (True) from ⟨⟨by first | decide | omega, by first | decide | omega⟩, trivial⟩), by rw [ht]; exact hP9, hD9⟩, hS.F ht⟩) hS.2.2 dX12_possible_91
      · have q165 : v1.toInt < ia0_36.toInt := z_nle rfl rfl hc
        refine lv_aload_n hx hb dX12_possible_17 rfl (lv_at hl 2 rfl) ?_
        refine lv_aload_n hx hb dX12_possible_18 rfl (lv_at hl 2 rfl) ?_
        refine va_get (D := (dC, dI)) (ci := 12) (v := .ref ha0_35) (C := RX12) (T := TX12) (N := 38) hx hb hts in_X12_possible_X12 hown hK hP 7 rfl rfl 35 (by decide) (hts (.fieldLink RX12 71 "EachOnHisCueModel" "row" "[I") (by decide +kernel)) (fun _ h9 => h9) rfl dX12_possible_19 ?_
        refine lv_iload_n hx hb dX12_possible_22 rfl (lv_at hl 0 rfl) ?_
        refine va_iald hx hb hK hP 6 0 rfl rfl (z_in (by omega) (by omega)) dX12_possible_23 ?_
        refine lv_topi (fun y166 ey166 => ?_)
        have gy166 : y166.toInt = (fa0_35 (v1 : Int32).toNatClampNeg).toInt := by rw [ey166]
        have hy166 : 0 ≤ y166.toInt ∧ y166.toInt ≤ 11 := by rw [ey166]; exact hBfa0_35 _
        obtain ⟨hy166, hy166_⟩ := hy166
        refine z_rdi (va_runV (As := [.int y166]) (rest := []) ⟨hx, hb, hml, hown, hts⟩ (rX12_isLine l dC dI cI cQ ha0 ha0_0 ha0_1 ha0_2 ha0_3 ha0_4 ha0_5 ha0_6 ha0_7 ha0_8 ha0_16 ha0_17 ha0_18 ha0_19 ha0_23 ha0_29 ha0_33 ha0_34 ha0_35 ia0_9 hia0_9l hia0_9h ia0_10 hia0_10l hia0_10h ia0_11 ia0_12 ia0_13 ia0_14 hia0_14l hia0_14h ia0_15 ia0_20 hia0_20l hia0_20h ia0_21 hia0_21l hia0_21h ia0_22 hia0_22l hia0_22h ia0_24 hia0_24l hia0_24h ia0_25 hia0_25l hia0_25h ia0_26 hia0_26l hia0_26h ia0_27 hia0_27l hia0_27h ia0_28 ia0_30 hia0_30l hia0_30h ia0_31 ia0_32 hia0_32l hia0_32h 0 (by decide) (by decide) ia0_37 y166) (cwV 1 hts gv_X12_possible_X12_isLine_169 rfl rfl rfl (by decide +kernel) ⟨Nat.le_of_ble_eq_true rfl, Nat.le_of_ble_eq_true rfl⟩) ⟨z_blindR, va_recv hK hP (ci := 12) (q0 := 7) rfl rfl, z_preR hZ hP [7] rfl⟩ rfl rfl hl.1 rfl (lv_room (Nat.le_of_ble_eq_true rfl)) dX12_possible_24 ⟨Nat.le_of_ble_eq_true rfl, Nat.le_of_ble_eq_true rfl⟩) (fun y167 hy167 => ?_)
        obtain ⟨hy167_0, hy167_1, hy167_2⟩ := hy167
        refine lv_if_eq (tgt := 75) hx hb dX12_possible_27 (by decide) (fun hc => ?_) (fun hc => ?_)
        · have q168 : y167.toInt = 0 := z_eq rfl (by decide) hc
          refine lv_iconst (v := 0) hx hb dX12_possible_75 (by decide) ?_
          refine lv_istore_n (lv' := [(3, .int 0), (2, .int v1), (1, .int ia0_36), (0, .ref ha0)]) hx hb dX12_possible_76 rfl hl (by decide) rfl (fun ls hl => ?_)
          refine lv_iload_n hx hb dX12_possible_77 rfl (lv_at hl 0 rfl) ?_
          refine lv_if_ne (tgt := 83) hx hb dX12_possible_78 (by decide) (fun hc => ?_) (fun hc => ?_)
          · exact absurd hc (by decide)
          · skip
            refine lv_iload_n hx hb dX12_possible_81 rfl (lv_at hl 1 rfl) ?_
            have hP9 := hP.sub (ws' := [(ha0_1, .inl (cI, 5, .inl fa0_1)), (ha0_2, .inl (cI, 5, .inl fa0_2)), (ha0_4, .inl (cI, 12, .inl fa0_4)), (ha0_5, .inl (cI, 12, .inl fa0_5)), (ha0_6, .inl (cI, 12, .inl fa0_6)), (ha0_8, .inl (cI, 60, .inl fa0_8)), (ha0_35, .inl (cI, 12, .inl fa0_35)), (ha0, .inr (12, [.ref ha0_0, .ref ha0_1, .ref ha0_2, .ref ha0_3, .ref ha0_4, .ref ha0_5, .ref ha0_6, .ref ha0_7, .ref ha0_8, .int ia0_9, .int ia0_10, .int ia0_11, .int ia0_12, .int ia0_13, .int ia0_14, .int ia0_15, .ref ha0_16, .ref ha0_17, .ref ha0_18, .ref ha0_19, .int ia0_20, .int ia0_21, .int ia0_22, .ref ha0_23, .int ia0_24, .int ia0_25, .int ia0_26, .int ia0_27, .int ia0_28, .ref ha0_29, .int ia0_30, .int ia0_31, .int ia0_32, .ref ha0_33, .ref ha0_34, .ref ha0_35, .int 0, .int ia0_37]))]) [0, 1, 2, 3, 4, 5, 6, 7] rfl
            have hD9 := hD.sub (ws' := [(ha0_1, .inl (cI, 5, .inl fa0_1)), (ha0_2, .inl (cI, 5, .inl fa0_2)), (ha0_4, .inl (cI, 12, .inl fa0_4)), (ha0_5, .inl (cI, 12, .inl fa0_5)), (ha0_6, .inl (cI, 12, .inl fa0_6)), (ha0_8, .inl (cI, 60, .inl fa0_8)), (ha0_35, .inl (cI, 12, .inl fa0_35)), (ha0, .inr (12, [.ref ha0_0, .ref ha0_1, .ref ha0_2, .ref ha0_3, .ref ha0_4, .ref ha0_5, .ref ha0_6, .ref ha0_7, .ref ha0_8, .int ia0_9, .int ia0_10, .int ia0_11, .int ia0_12, .int ia0_13, .int ia0_14, .int ia0_15, .ref ha0_16, .ref ha0_17, .ref ha0_18, .ref ha0_19, .int ia0_20, .int ia0_21, .int ia0_22, .ref ha0_23, .int ia0_24, .int ia0_25, .int ia0_26, .int ia0_27, .int ia0_28, .ref ha0_29, .int ia0_30, .int ia0_31, .int ia0_32, .ref ha0_33, .ref ha0_34, .ref ha0_35, .int 0, .int ia0_37]))]) [0, 1, 2, 3, 4, 5, 6, 7] (by decide) rfl
            exact W.iret (v := v1) hx hb hr (fun t ht hW => ⟨⟨v1, (fun k => [].getD k 0, fun k => [].getD k (fun _ => 0)), rfl, (show ((-9) ≤ (v1 : Int32).toInt ∧ (v1 : Int32).toInt ≤ 11) ∧ (True) from ⟨⟨by first | decide | omega, by first | decide | omega⟩, trivial⟩), by rw [ht]; exact hP9, hD9⟩, hS.F ht⟩) hS.2.2 dX12_possible_82
        · have q169 : y167.toInt ≠ 0 := z_ne rfl (by decide) hc
          refine lv_iload_n hx hb dX12_possible_30 rfl (lv_at hl 0 rfl) ?_
          refine lv_if_ne (tgt := 46) hx hb dX12_possible_31 (by decide) (fun hc => ?_) (fun hc => ?_)
          · have q170 : v1.toInt ≠ 0 := z_ne rfl (by decide) hc
            refine lv_aload_n hx hb dX12_possible_46 rfl (lv_at hl 2 rfl) ?_
            refine lv_aload_n hx hb dX12_possible_47 rfl (lv_at hl 2 rfl) ?_
            refine va_get (D := (dC, dI)) (ci := 12) (v := .ref ha0_35) (C := RX12) (T := TX12) (N := 38) hx hb hts in_X12_possible_X12 hown hK hP 7 rfl rfl 35 (by decide) (hts (.fieldLink RX12 71 "EachOnHisCueModel" "row" "[I") (by decide +kernel)) (fun _ h9 => h9) rfl dX12_possible_48 ?_
            refine lv_iload_n hx hb dX12_possible_51 rfl (lv_at hl 0 rfl) ?_
            refine lv_iconst (v := 1) hx hb dX12_possible_52 (by decide) ?_
            refine lv_isub hx hb dX12_possible_53 ?_
            refine lv_topi (fun y171 ey171 => ?_)
            have hy171 : y171.toInt = v1.toInt - 1 := by rw [ey171]; exact z_sub rfl (by decide) (by omega) (by omega)
            refine va_iald hx hb hK hP 6 0 rfl rfl (z_in (by omega) (by omega)) dX12_possible_54 ?_
            refine lv_topi (fun y172 ey172 => ?_)
            have gy172 : y172.toInt = (fa0_35 (y171 : Int32).toNatClampNeg).toInt := by rw [ey172]
            have hy172 : 0 ≤ y172.toInt ∧ y172.toInt ≤ 11 := by rw [ey172]; exact hBfa0_35 _
            obtain ⟨hy172, hy172_⟩ := hy172
            refine z_rdi (va_runV (As := [.int y172]) (rest := []) ⟨hx, hb, hml, hown, hts⟩ (rX12_followOf l dC dI cI cQ ha0 ha0_1 ha0_2 ha0_4 ha0_5 ha0_6 ha0_8 ha0_0 ha0_3 ha0_7 ha0_16 ha0_17 ha0_18 ha0_19 ha0_23 ha0_29 ha0_33 ha0_34 ha0_35 fa0_1 fa0_2 fa0_4 hBfa0_4 fa0_5 hBfa0_5 fa0_6 hBfa0_6 fa0_8 ia0_9 hia0_9l hia0_9h ia0_10 hia0_10l hia0_10h ia0_11 ia0_12 ia0_13 ia0_14 hia0_14l hia0_14h ia0_15 ia0_20 hia0_20l hia0_20h ia0_21 hia0_21l hia0_21h ia0_22 hia0_22l hia0_22h ia0_24 hia0_24l hia0_24h ia0_25 hia0_25l hia0_25h ia0_26 hia0_26l hia0_26h ia0_27 hia0_27l hia0_27h ia0_28 ia0_30 hia0_30l hia0_30h ia0_31 ia0_32 hia0_32l hia0_32h 0 (by decide) (by decide) ia0_37 y172 hy172 hy172_) (cwV 1 hts gv_X12_possible_X12_followOf_220 rfl rfl rfl (by decide +kernel) ⟨Nat.le_of_ble_eq_true rfl, Nat.le_of_ble_eq_true rfl⟩) ⟨z_blindR, va_recv hK hP (ci := 12) (q0 := 7) rfl rfl, z_preR hZ hP [0, 1, 2, 3, 4, 5, 7] rfl⟩ rfl rfl hl.1 rfl (lv_room (Nat.le_of_ble_eq_true rfl)) dX12_possible_55 ⟨Nat.le_of_ble_eq_true rfl, Nat.le_of_ble_eq_true rfl⟩) (fun y173 hy173 => ?_)
            obtain ⟨hy173_0, hy173_1, hy173_2⟩ := hy173
            refine lv_aload_n hx hb dX12_possible_58 rfl (lv_at hl 2 rfl) ?_
            refine va_get (D := (dC, dI)) (ci := 12) (v := .ref ha0_35) (C := RX12) (T := TX12) (N := 38) hx hb hts in_X12_possible_X12 hown hK hP 7 rfl rfl 35 (by decide) (hts (.fieldLink RX12 71 "EachOnHisCueModel" "row" "[I") (by decide +kernel)) (fun _ h9 => h9) rfl dX12_possible_59 ?_
            refine lv_iload_n hx hb dX12_possible_62 rfl (lv_at hl 0 rfl) ?_
            refine va_iald hx hb hK hP 6 0 rfl rfl (z_in (by omega) (by omega)) dX12_possible_63 ?_
            refine lv_topi (fun y174 ey174 => ?_)
            obtain rfl : y166 = y174 := ey166.trans ey174.symm
            refine lv_ishr hx hb dX12_possible_64 ?_
            refine lv_topi (fun y175 ey175 => ?_)
            refine lv_iconst (v := 1) hx hb dX12_possible_65 (by decide) ?_
            refine lv_iand hx hb dX12_possible_66 ?_
            refine lv_topi (fun y176 ey176 => ?_)
            have hy176 : 0 ≤ y176.toInt ∧ y176.toInt ≤ 1 := by rw [ey176]; exact z_and1 _
            obtain ⟨hy176, hy176_⟩ := hy176
            refine lv_iconst (v := 1) hx hb dX12_possible_67 (by decide) ?_
            refine lv_icmp_ne (tgt := 75) hx hb dX12_possible_68 (by decide) (fun hc => ?_) (fun hc => ?_)
            · have q177 : y176.toInt ≠ 1 := z_ne rfl (by decide) hc
              refine lv_iconst (v := 0) hx hb dX12_possible_75 (by decide) ?_
              refine lv_istore_n (lv' := [(3, .int 0), (2, .int v1), (1, .int ia0_36), (0, .ref ha0)]) hx hb dX12_possible_76 rfl hl (by decide) rfl (fun ls hl => ?_)
              refine lv_iload_n hx hb dX12_possible_77 rfl (lv_at hl 0 rfl) ?_
              refine lv_if_ne (tgt := 83) hx hb dX12_possible_78 (by decide) (fun hc => ?_) (fun hc => ?_)
              · exact absurd hc (by decide)
              · skip
                refine lv_iload_n hx hb dX12_possible_81 rfl (lv_at hl 1 rfl) ?_
                have hP9 := hP.sub (ws' := [(ha0_1, .inl (cI, 5, .inl fa0_1)), (ha0_2, .inl (cI, 5, .inl fa0_2)), (ha0_4, .inl (cI, 12, .inl fa0_4)), (ha0_5, .inl (cI, 12, .inl fa0_5)), (ha0_6, .inl (cI, 12, .inl fa0_6)), (ha0_8, .inl (cI, 60, .inl fa0_8)), (ha0_35, .inl (cI, 12, .inl fa0_35)), (ha0, .inr (12, [.ref ha0_0, .ref ha0_1, .ref ha0_2, .ref ha0_3, .ref ha0_4, .ref ha0_5, .ref ha0_6, .ref ha0_7, .ref ha0_8, .int ia0_9, .int ia0_10, .int ia0_11, .int ia0_12, .int ia0_13, .int ia0_14, .int ia0_15, .ref ha0_16, .ref ha0_17, .ref ha0_18, .ref ha0_19, .int ia0_20, .int ia0_21, .int ia0_22, .ref ha0_23, .int ia0_24, .int ia0_25, .int ia0_26, .int ia0_27, .int ia0_28, .ref ha0_29, .int ia0_30, .int ia0_31, .int ia0_32, .ref ha0_33, .ref ha0_34, .ref ha0_35, .int 0, .int ia0_37]))]) [0, 1, 2, 3, 4, 5, 6, 7] rfl
                have hD9 := hD.sub (ws' := [(ha0_1, .inl (cI, 5, .inl fa0_1)), (ha0_2, .inl (cI, 5, .inl fa0_2)), (ha0_4, .inl (cI, 12, .inl fa0_4)), (ha0_5, .inl (cI, 12, .inl fa0_5)), (ha0_6, .inl (cI, 12, .inl fa0_6)), (ha0_8, .inl (cI, 60, .inl fa0_8)), (ha0_35, .inl (cI, 12, .inl fa0_35)), (ha0, .inr (12, [.ref ha0_0, .ref ha0_1, .ref ha0_2, .ref ha0_3, .ref ha0_4, .ref ha0_5, .ref ha0_6, .ref ha0_7, .ref ha0_8, .int ia0_9, .int ia0_10, .int ia0_11, .int ia0_12, .int ia0_13, .int ia0_14, .int ia0_15, .ref ha0_16, .ref ha0_17, .ref ha0_18, .ref ha0_19, .int ia0_20, .int ia0_21, .int ia0_22, .ref ha0_23, .int ia0_24, .int ia0_25, .int ia0_26, .int ia0_27, .int ia0_28, .ref ha0_29, .int ia0_30, .int ia0_31, .int ia0_32, .ref ha0_33, .ref ha0_34, .ref ha0_35, .int 0, .int ia0_37]))]) [0, 1, 2, 3, 4, 5, 6, 7] (by decide) rfl
                exact W.iret (v := v1) hx hb hr (fun t ht hW => ⟨⟨v1, (fun k => [].getD k 0, fun k => [].getD k (fun _ => 0)), rfl, (show ((-9) ≤ (v1 : Int32).toInt ∧ (v1 : Int32).toInt ≤ 11) ∧ (True) from ⟨⟨by first | decide | omega, by first | decide | omega⟩, trivial⟩), by rw [ht]; exact hP9, hD9⟩, hS.F ht⟩) hS.2.2 dX12_possible_82
            · have q178 : y176.toInt = 1 := z_eq rfl (by decide) hc
              refine lv_iconst (v := 1) hx hb dX12_possible_71 (by decide) ?_
              refine lv_goto (tgt := 76) hx hb dX12_possible_72 (by decide) ?_
              refine lv_istore_n (lv' := [(3, .int 1), (2, .int v1), (1, .int ia0_36), (0, .ref ha0)]) hx hb dX12_possible_76 rfl hl (by decide) rfl (fun ls hl => ?_)
              refine lv_iload_n hx hb dX12_possible_77 rfl (lv_at hl 0 rfl) ?_
              refine lv_if_ne (tgt := 83) hx hb dX12_possible_78 (by decide) (fun hc => ?_) (fun hc => ?_)
              · skip
                obtain ⟨y179, ey179⟩ : ∃ y : Int32, y = v1 + 1 := ⟨_, rfl⟩
                refine lv_iinc (v := y179) (lv' := [(2, .int y179), (3, .int 1), (1, .int ia0_36), (0, .ref ha0)]) hx hb dX12_possible_83 hl (k := 1) rfl (by rw [ey179]; rfl) (by decide) rfl (fun ls hl => ?_)
                have hy179 : y179.toInt = v1.toInt + 1 := by rw [ey179]; exact z_add rfl (by decide) (by omega) (by omega)
                refine lv_goto (tgt := 12) hx hb dX12_possible_86 (by decide) ?_
                exact ih163 y179 _ _ ls (by first | decide | omega) (by first | decide | omega) (by omega) (lv_sub hl [0, 2, 3] rfl) hP hD hS
              · exact absurd hc (by decide)
          · have q180 : v1.toInt = 0 := z_eq rfl (by decide) hc
            refine lv_aload_n hx hb dX12_possible_34 rfl (lv_at hl 2 rfl) ?_
            refine va_get (D := (dC, dI)) (ci := 12) (v := .ref ha0_35) (C := RX12) (T := TX12) (N := 38) hx hb hts in_X12_possible_X12 hown hK hP 7 rfl rfl 35 (by decide) (hts (.fieldLink RX12 71 "EachOnHisCueModel" "row" "[I") (by decide +kernel)) (fun _ h9 => h9) rfl dX12_possible_35 ?_
            refine lv_iload_n hx hb dX12_possible_38 rfl (lv_at hl 0 rfl) ?_
            refine va_iald hx hb hK hP 6 0 rfl rfl (z_in (by omega) (by omega)) dX12_possible_39 ?_
            refine lv_topi (fun y181 ey181 => ?_)
            obtain rfl : y166 = y181 := ey166.trans ey181.symm
            refine lv_if_ne (tgt := 75) hx hb dX12_possible_40 (by decide) (fun hc => ?_) (fun hc => ?_)
            · have q182 : y166.toInt ≠ 0 := z_ne rfl (by decide) hc
              refine lv_iconst (v := 0) hx hb dX12_possible_75 (by decide) ?_
              refine lv_istore_n (lv' := [(3, .int 0), (2, .int v1), (1, .int ia0_36), (0, .ref ha0)]) hx hb dX12_possible_76 rfl hl (by decide) rfl (fun ls hl => ?_)
              refine lv_iload_n hx hb dX12_possible_77 rfl (lv_at hl 0 rfl) ?_
              refine lv_if_ne (tgt := 83) hx hb dX12_possible_78 (by decide) (fun hc => ?_) (fun hc => ?_)
              · exact absurd hc (by decide)
              · skip
                refine lv_iload_n hx hb dX12_possible_81 rfl (lv_at hl 1 rfl) ?_
                have hP9 := hP.sub (ws' := [(ha0_1, .inl (cI, 5, .inl fa0_1)), (ha0_2, .inl (cI, 5, .inl fa0_2)), (ha0_4, .inl (cI, 12, .inl fa0_4)), (ha0_5, .inl (cI, 12, .inl fa0_5)), (ha0_6, .inl (cI, 12, .inl fa0_6)), (ha0_8, .inl (cI, 60, .inl fa0_8)), (ha0_35, .inl (cI, 12, .inl fa0_35)), (ha0, .inr (12, [.ref ha0_0, .ref ha0_1, .ref ha0_2, .ref ha0_3, .ref ha0_4, .ref ha0_5, .ref ha0_6, .ref ha0_7, .ref ha0_8, .int ia0_9, .int ia0_10, .int ia0_11, .int ia0_12, .int ia0_13, .int ia0_14, .int ia0_15, .ref ha0_16, .ref ha0_17, .ref ha0_18, .ref ha0_19, .int ia0_20, .int ia0_21, .int ia0_22, .ref ha0_23, .int ia0_24, .int ia0_25, .int ia0_26, .int ia0_27, .int ia0_28, .ref ha0_29, .int ia0_30, .int ia0_31, .int ia0_32, .ref ha0_33, .ref ha0_34, .ref ha0_35, .int 0, .int ia0_37]))]) [0, 1, 2, 3, 4, 5, 6, 7] rfl
                have hD9 := hD.sub (ws' := [(ha0_1, .inl (cI, 5, .inl fa0_1)), (ha0_2, .inl (cI, 5, .inl fa0_2)), (ha0_4, .inl (cI, 12, .inl fa0_4)), (ha0_5, .inl (cI, 12, .inl fa0_5)), (ha0_6, .inl (cI, 12, .inl fa0_6)), (ha0_8, .inl (cI, 60, .inl fa0_8)), (ha0_35, .inl (cI, 12, .inl fa0_35)), (ha0, .inr (12, [.ref ha0_0, .ref ha0_1, .ref ha0_2, .ref ha0_3, .ref ha0_4, .ref ha0_5, .ref ha0_6, .ref ha0_7, .ref ha0_8, .int ia0_9, .int ia0_10, .int ia0_11, .int ia0_12, .int ia0_13, .int ia0_14, .int ia0_15, .ref ha0_16, .ref ha0_17, .ref ha0_18, .ref ha0_19, .int ia0_20, .int ia0_21, .int ia0_22, .ref ha0_23, .int ia0_24, .int ia0_25, .int ia0_26, .int ia0_27, .int ia0_28, .ref ha0_29, .int ia0_30, .int ia0_31, .int ia0_32, .ref ha0_33, .ref ha0_34, .ref ha0_35, .int 0, .int ia0_37]))]) [0, 1, 2, 3, 4, 5, 6, 7] (by decide) rfl
                exact W.iret (v := v1) hx hb hr (fun t ht hW => ⟨⟨v1, (fun k => [].getD k 0, fun k => [].getD k (fun _ => 0)), rfl, (show ((-9) ≤ (v1 : Int32).toInt ∧ (v1 : Int32).toInt ≤ 11) ∧ (True) from ⟨⟨by first | decide | omega, by first | decide | omega⟩, trivial⟩), by rw [ht]; exact hP9, hD9⟩, hS.F ht⟩) hS.2.2 dX12_possible_82
            · have q183 : y166.toInt = 0 := z_eq rfl (by decide) hc
              refine lv_goto (tgt := 71) hx hb dX12_possible_43 (by decide) ?_
              refine lv_iconst (v := 1) hx hb dX12_possible_71 (by decide) ?_
              refine lv_goto (tgt := 76) hx hb dX12_possible_72 (by decide) ?_
              refine lv_istore_n (lv' := [(3, .int 1), (2, .int v1), (1, .int ia0_36), (0, .ref ha0)]) hx hb dX12_possible_76 rfl hl (by decide) rfl (fun ls hl => ?_)
              refine lv_iload_n hx hb dX12_possible_77 rfl (lv_at hl 0 rfl) ?_
              refine lv_if_ne (tgt := 83) hx hb dX12_possible_78 (by decide) (fun hc => ?_) (fun hc => ?_)
              · skip
                obtain ⟨y184, ey184⟩ : ∃ y : Int32, y = v1 + 1 := ⟨_, rfl⟩
                refine lv_iinc (v := y184) (lv' := [(2, .int y184), (3, .int 1), (1, .int ia0_36), (0, .ref ha0)]) hx hb dX12_possible_83 hl (k := 1) rfl (by rw [ey184]; rfl) (by decide) rfl (fun ls hl => ?_)
                have hy184 : y184.toInt = v1.toInt + 1 := by rw [ey184]; exact z_add rfl (by decide) (by omega) (by omega)
                refine lv_goto (tgt := 12) hx hb dX12_possible_86 (by decide) ?_
                exact ih163 y184 _ _ ls (by first | decide | omega) (by first | decide | omega) (by omega) (lv_sub hl [0, 2, 3] rfl) hP hD hS
              · exact absurd hc (by decide)
  exact hL161 ((12 - (0 : Int32).toInt).toNat + 1) 0 _ _ ls (by decide) (by decide) (by omega) hl hP hD hS
set_option maxRecDepth 20000 in
theorem edX12_passes_0 : decode cX12_passes 0 = .ok (.iconst 0, 1) ∧ decode cX12_passes 1 = .ok (.istore_n 2, 1) ∧ decode cX12_passes 2 = .ok (.iload_n 2, 1) ∧ decode cX12_passes 3 = .ok (.aload_n 1, 1) ∧ decode cX12_passes 4 = .ok (.arraylength, 1) ∧ decode cX12_passes 5 = .ok (.if_icmp .ge 53, 3) ∧ decode cX12_passes 8 = .ok (.aload_n 0, 1) ∧ decode cX12_passes 9 = .ok (.getfield 137, 3) ∧ decode cX12_passes 12 = .ok (.ifCond .eq 18, 3) ∧ decode cX12_passes 15 = .ok (.aload_n 0, 1) ∧ decode cX12_passes 16 = .ok (.getfield 56, 3) ∧ decode cX12_passes 19 = .ok (.aload_n 0, 1) := by decide +kernel
theorem dX12_passes_0 : decode cX12_passes 0 = .ok (.iconst 0, 1) := edX12_passes_0.1
theorem dX12_passes_1 : decode cX12_passes 1 = .ok (.istore_n 2, 1) := edX12_passes_0.2.1
theorem dX12_passes_2 : decode cX12_passes 2 = .ok (.iload_n 2, 1) := edX12_passes_0.2.2.1
theorem dX12_passes_3 : decode cX12_passes 3 = .ok (.aload_n 1, 1) := edX12_passes_0.2.2.2.1
theorem dX12_passes_4 : decode cX12_passes 4 = .ok (.arraylength, 1) := edX12_passes_0.2.2.2.2.1
theorem dX12_passes_5 : decode cX12_passes 5 = .ok (.if_icmp .ge 53, 3) := edX12_passes_0.2.2.2.2.2.1
theorem dX12_passes_8 : decode cX12_passes 8 = .ok (.aload_n 0, 1) := edX12_passes_0.2.2.2.2.2.2.1
theorem dX12_passes_9 : decode cX12_passes 9 = .ok (.getfield 137, 3) := edX12_passes_0.2.2.2.2.2.2.2.1
theorem dX12_passes_12 : decode cX12_passes 12 = .ok (.ifCond .eq 18, 3) := edX12_passes_0.2.2.2.2.2.2.2.2.1
theorem dX12_passes_15 : decode cX12_passes 15 = .ok (.aload_n 0, 1) := edX12_passes_0.2.2.2.2.2.2.2.2.2.1
theorem dX12_passes_16 : decode cX12_passes 16 = .ok (.getfield 56, 3) := edX12_passes_0.2.2.2.2.2.2.2.2.2.2.1
theorem dX12_passes_19 : decode cX12_passes 19 = .ok (.aload_n 0, 1) := edX12_passes_0.2.2.2.2.2.2.2.2.2.2.2
set_option maxRecDepth 20000 in
theorem edX12_passes_20 : decode cX12_passes 20 = .ok (.getfield 141, 3) ∧ decode cX12_passes 23 = .ok (.aload_n 1, 1) ∧ decode cX12_passes 24 = .ok (.iload_n 2, 1) ∧ decode cX12_passes 25 = .ok (.iaload, 1) ∧ decode cX12_passes 26 = .ok (.iastore, 1) ∧ decode cX12_passes 27 = .ok (.goto 15, 3) ∧ decode cX12_passes 30 = .ok (.aload_n 1, 1) ∧ decode cX12_passes 31 = .ok (.iload_n 2, 1) ∧ decode cX12_passes 32 = .ok (.aload_n 0, 1) ∧ decode cX12_passes 33 = .ok (.getfield 56, 3) ∧ decode cX12_passes 36 = .ok (.aload_n 0, 1) ∧ decode cX12_passes 37 = .ok (.getfield 141, 3) := by decide +kernel
theorem dX12_passes_20 : decode cX12_passes 20 = .ok (.getfield 141, 3) := edX12_passes_20.1
theorem dX12_passes_23 : decode cX12_passes 23 = .ok (.aload_n 1, 1) := edX12_passes_20.2.1
theorem dX12_passes_24 : decode cX12_passes 24 = .ok (.iload_n 2, 1) := edX12_passes_20.2.2.1
theorem dX12_passes_25 : decode cX12_passes 25 = .ok (.iaload, 1) := edX12_passes_20.2.2.2.1
theorem dX12_passes_26 : decode cX12_passes 26 = .ok (.iastore, 1) := edX12_passes_20.2.2.2.2.1
theorem dX12_passes_27 : decode cX12_passes 27 = .ok (.goto 15, 3) := edX12_passes_20.2.2.2.2.2.1
theorem dX12_passes_30 : decode cX12_passes 30 = .ok (.aload_n 1, 1) := edX12_passes_20.2.2.2.2.2.2.1
theorem dX12_passes_31 : decode cX12_passes 31 = .ok (.iload_n 2, 1) := edX12_passes_20.2.2.2.2.2.2.2.1
theorem dX12_passes_32 : decode cX12_passes 32 = .ok (.aload_n 0, 1) := edX12_passes_20.2.2.2.2.2.2.2.2.1
theorem dX12_passes_33 : decode cX12_passes 33 = .ok (.getfield 56, 3) := edX12_passes_20.2.2.2.2.2.2.2.2.2.1
theorem dX12_passes_36 : decode cX12_passes 36 = .ok (.aload_n 0, 1) := edX12_passes_20.2.2.2.2.2.2.2.2.2.2.1
theorem dX12_passes_37 : decode cX12_passes 37 = .ok (.getfield 141, 3) := edX12_passes_20.2.2.2.2.2.2.2.2.2.2.2
set_option maxRecDepth 20000 in
theorem edX12_passes_40 : decode cX12_passes 40 = .ok (.iaload, 1) ∧ decode cX12_passes 41 = .ok (.iastore, 1) ∧ decode cX12_passes 42 = .ok (.aload_n 0, 1) ∧ decode cX12_passes 43 = .ok (.dup, 1) ∧ decode cX12_passes 44 = .ok (.getfield 141, 3) ∧ decode cX12_passes 47 = .ok (.iconst 1, 1) ∧ decode cX12_passes 48 = .ok (.iadd, 1) ∧ decode cX12_passes 49 = .ok (.putfield 141, 3) ∧ decode cX12_passes 52 = .ok (.iinc 2 1, 3) ∧ decode cX12_passes 55 = .ok (.goto (-53), 3) ∧ decode cX12_passes 58 = .ok (.return_, 1) := by decide +kernel
theorem dX12_passes_40 : decode cX12_passes 40 = .ok (.iaload, 1) := edX12_passes_40.1
theorem dX12_passes_41 : decode cX12_passes 41 = .ok (.iastore, 1) := edX12_passes_40.2.1
theorem dX12_passes_42 : decode cX12_passes 42 = .ok (.aload_n 0, 1) := edX12_passes_40.2.2.1
theorem dX12_passes_43 : decode cX12_passes 43 = .ok (.dup, 1) := edX12_passes_40.2.2.2.1
theorem dX12_passes_44 : decode cX12_passes 44 = .ok (.getfield 141, 3) := edX12_passes_40.2.2.2.2.1
theorem dX12_passes_47 : decode cX12_passes 47 = .ok (.iconst 1, 1) := edX12_passes_40.2.2.2.2.2.1
theorem dX12_passes_48 : decode cX12_passes 48 = .ok (.iadd, 1) := edX12_passes_40.2.2.2.2.2.2.1
theorem dX12_passes_49 : decode cX12_passes 49 = .ok (.putfield 141, 3) := edX12_passes_40.2.2.2.2.2.2.2.1
theorem dX12_passes_52 : decode cX12_passes 52 = .ok (.iinc 2 1, 3) := edX12_passes_40.2.2.2.2.2.2.2.2.1
theorem dX12_passes_55 : decode cX12_passes 55 = .ok (.goto (-53), 3) := edX12_passes_40.2.2.2.2.2.2.2.2.2.1
theorem dX12_passes_58 : decode cX12_passes 58 = .ok (.return_, 1) := edX12_passes_40.2.2.2.2.2.2.2.2.2.2
noncomputable def voX12_passes : List Cond := [.fieldLink RX12 137 "EachOnHisCueModel" "isKeeping" "Z", .fieldLink RX12 56 "EachOnHisCueModel" "kept" "[I", .fieldLink RX12 141 "EachOnHisCueModel" "cursor" "I"]
noncomputable def vsX12_passes : List Cond := .code yX12_passes cX12_passes 3 none :: (voX12_passes ++ (wsX120))
theorem zgX12_passes : zGd vsX12_passes := z_gdC rfl (z_gdA (z_gdO (by decide +kernel) : zGd voX12_passes) (zgX12))
theorem in_X12_passes_X12 : ∀ w ∈ wsX120, w ∈ vsX12_passes := fun _ h => List.mem_cons_of_mem _ (List.mem_append_right _ (h))
set_option maxHeartbeats 4000000 in
set_option maxRecDepth 100000 in
theorem wX12_passes_kind (l : Launch) (dC : Nat → ClassId) (dI : Nat → Nat → Nat) (cI cQ : ClassId) (ha0 ha1 ha0_23 ha0_0 ha0_1 ha0_2 ha0_3 ha0_4 ha0_5 ha0_6 ha0_7 ha0_8 ha0_16 ha0_17 ha0_18 ha0_19 ha0_29 ha0_33 ha0_34 ha0_35 : Nat) (fa0_23 : Nat → Int32) (hBfa0_23 : zKp fa0_23) (ia0_9 : Int32) (hia0_9l : 0 ≤ ia0_9.toInt) (hia0_9h : ia0_9.toInt ≤ 5) (ia0_10 : Int32) (hia0_10l : 0 ≤ ia0_10.toInt) (hia0_10h : ia0_10.toInt ≤ 12) (ia0_11 : Int32) (ia0_12 : Int32) (ia0_13 : Int32) (ia0_14 : Int32) (hia0_14l : (-9) ≤ ia0_14.toInt) (hia0_14h : ia0_14.toInt ≤ 11) (ia0_15 : Int32) (ia0_20 : Int32) (hia0_20l : 0 ≤ ia0_20.toInt) (hia0_20h : ia0_20.toInt ≤ 80) (ia0_21 : Int32) (hia0_21l : 0 ≤ ia0_21.toInt) (hia0_21h : ia0_21.toInt ≤ 80) (ia0_22 : Int32) (hia0_22l : 0 ≤ ia0_22.toInt) (hia0_22h : ia0_22.toInt ≤ 40) (ia0_24 : Int32) (hia0_24l : 0 ≤ ia0_24.toInt) (hia0_24h : ia0_24.toInt ≤ 1) (ia0_25 : Int32) (hia0_25l : 0 ≤ ia0_25.toInt) (hia0_25h : ia0_25.toInt ≤ 1) (ia0_26 : Int32) (hia0_26l : 0 ≤ ia0_26.toInt) (hia0_26h : ia0_26.toInt ≤ 300) (ia0_27 : Int32) (hia0_27l : (-9) ≤ ia0_27.toInt) (hia0_27h : ia0_27.toInt ≤ 11) (ia0_28 : Int32) (ia0_30 : Int32) (hia0_30l : 0 ≤ ia0_30.toInt) (hia0_30h : ia0_30.toInt ≤ 60) (ia0_31 : Int32) (ia0_32 : Int32) (hia0_32l : 0 ≤ ia0_32.toInt) (hia0_32h : ia0_32.toInt ≤ 1) (ia0_36 : Int32) (hia0_36l : 0 ≤ ia0_36.toInt) (hia0_36h : ia0_36.toInt ≤ 12) (ia0_37 : Int32) (fa1 : Nat → Int32) (hx0 : ia0_26.toInt % 150 = 0) (hx1 : ia0_26.toInt ≤ 150) (sz : Nat) : Met l yX12_passes vsX12_passes ({ frames := 0, cells := 0, slots := 0, locals := 0 }) (va_Pc [.ref ha0, .ref ha1] (zB dC dI cI cQ [(ha0_23, .inl (cI, 300, .inl fa0_23)), (ha0, .inr (12, [.ref ha0_0, .ref ha0_1, .ref ha0_2, .ref ha0_3, .ref ha0_4, .ref ha0_5, .ref ha0_6, .ref ha0_7, .ref ha0_8, .int ia0_9, .int ia0_10, .int ia0_11, .int ia0_12, .int ia0_13, .int ia0_14, .int ia0_15, .ref ha0_16, .ref ha0_17, .ref ha0_18, .ref ha0_19, .int ia0_20, .int ia0_21, .int ia0_22, .ref ha0_23, .int ia0_24, .int ia0_25, .int ia0_26, .int ia0_27, .int ia0_28, .ref ha0_29, .int ia0_30, .int ia0_31, .int ia0_32, .ref ha0_33, .ref ha0_34, .ref ha0_35, .int ia0_36, .int ia0_37])), (ha1, .inl (cI, 5, .inl fa1))] sz)) (zWv dC dI (va_A [(ha0_23, .inl (cI, 300, .inl fa0_23)), (ha0, .inr (12, [.ref ha0_0, .ref ha0_1, .ref ha0_2, .ref ha0_3, .ref ha0_4, .ref ha0_5, .ref ha0_6, .ref ha0_7, .ref ha0_8, .int ia0_9, .int ia0_10, .int ia0_11, .int ia0_12, .int ia0_13, .int ia0_14, .int ia0_15, .ref ha0_16, .ref ha0_17, .ref ha0_18, .ref ha0_19, .int ia0_20, .int ia0_21, .int ia0_22, .ref ha0_23, .int ia0_24, .int ia0_25, .int ia0_26, .int ia0_27, .int ia0_28, .ref ha0_29, .int ia0_30, .int ia0_31, .int ia0_32, .ref ha0_33, .ref ha0_34, .ref ha0_35, .int ia0_36, .int ia0_37])), (ha1, .inl (cI, 5, .inl fa1))] sz) (fun u => [(ha0_23, .inl (cI, 300, .inl (u.2 0))), (ha0, .inr (12, [.ref ha0_0, .ref ha0_1, .ref ha0_2, .ref ha0_3, .ref ha0_4, .ref ha0_5, .ref ha0_6, .ref ha0_7, .ref ha0_8, .int ia0_9, .int ia0_10, .int ia0_11, .int ia0_12, .int ia0_13, .int ia0_14, .int ia0_15, .ref ha0_16, .ref ha0_17, .ref ha0_18, .ref ha0_19, .int ia0_20, .int ia0_21, .int ia0_22, .ref ha0_23, .int ia0_24, .int ia0_25, .int (u.1 0), .int ia0_27, .int ia0_28, .ref ha0_29, .int ia0_30, .int ia0_31, .int ia0_32, .ref ha0_33, .ref ha0_34, .ref ha0_35, .int ia0_36, .int ia0_37])), (ha1, .inl (cI, 5, .inl (u.2 1)))]) (fun u => (zKp (u.2 0)) ∧ (0 ≤ (u.1 0).toInt ∧ (u.1 0).toInt ≤ 300) ∧ ((u.1 0).toInt = ia0_26.toInt + 5 ∧ zPsR ia0_25 ia0_26 5 fa0_23 fa1 (u.2 0) (u.2 1)))) 0 0 (va_A [(ha0_23, .inl (cI, 300, .inl fa0_23)), (ha0, .inr (12, [.ref ha0_0, .ref ha0_1, .ref ha0_2, .ref ha0_3, .ref ha0_4, .ref ha0_5, .ref ha0_6, .ref ha0_7, .ref ha0_8, .int ia0_9, .int ia0_10, .int ia0_11, .int ia0_12, .int ia0_13, .int ia0_14, .int ia0_15, .ref ha0_16, .ref ha0_17, .ref ha0_18, .ref ha0_19, .int ia0_20, .int ia0_21, .int ia0_22, .ref ha0_23, .int ia0_24, .int ia0_25, .int ia0_26, .int ia0_27, .int ia0_28, .ref ha0_29, .int ia0_30, .int ia0_31, .int ia0_32, .ref ha0_33, .ref ha0_34, .ref ha0_35, .int ia0_36, .int ia0_37])), (ha1, .inl (cI, 5, .inl fa1))] sz) := by
  refine Met.ofW (cc := cX12_passes) (maxL := 3) (ret := none) (by decide) rfl ?_
  intro p e s m args below meth c s₁ B hml hv
  obtain ⟨rfl, hsz, hP, hZ, hD0⟩ := hv
  obtain ⟨hK, hAO, hN⟩ := id hZ
  have hx := B.exec
  have hb := B.bytes
  have hr := B.returns
  have hts := atoms_spec (ws := vsX12_passes) B.pre
  have hown : s.vm.findClass RX12 = some m.cls := findClass_of_methodNamed B.named
  have hlocks := B.notSynchronized
  subst hsz
  have hD := hD0.self (sz := s.heap.size)
  generalize hAe : va_A [(ha0_23, .inl (cI, 300, .inl fa0_23)), (ha0, .inr (12, [.ref ha0_0, .ref ha0_1, .ref ha0_2, .ref ha0_3, .ref ha0_4, .ref ha0_5, .ref ha0_6, .ref ha0_7, .ref ha0_8, .int ia0_9, .int ia0_10, .int ia0_11, .int ia0_12, .int ia0_13, .int ia0_14, .int ia0_15, .ref ha0_16, .ref ha0_17, .ref ha0_18, .ref ha0_19, .int ia0_20, .int ia0_21, .int ia0_22, .ref ha0_23, .int ia0_24, .int ia0_25, .int ia0_26, .int ia0_27, .int ia0_28, .ref ha0_29, .int ia0_30, .int ia0_31, .int ia0_32, .ref ha0_33, .ref ha0_34, .ref ha0_35, .int ia0_36, .int ia0_37])), (ha1, .inl (cI, 5, .inl fa1))] s.heap.size = A at hD ⊢
  have hA : ∀ q : Nat, s.heap.size ≤ q → A q := fun q h => by rw [← hAe]; exact Or.inr h
  have hS : va_S A s.heap s.heap [] := va_S.rf
  have hP : va_P (dC, dI) vwCl [(ha0_23, .inl (cI, 300, .inl fa0_23)), (ha0, .inr (12, [.ref ha0_0, .ref ha0_1, .ref ha0_2, .ref ha0_3, .ref ha0_4, .ref ha0_5, .ref ha0_6, .ref ha0_7, .ref ha0_8, .int ia0_9, .int ia0_10, .int ia0_11, .int ia0_12, .int ia0_13, .int ia0_14, .int ia0_15, .ref ha0_16, .ref ha0_17, .ref ha0_18, .ref ha0_19, .int ia0_20, .int ia0_21, .int ia0_22, .ref ha0_23, .int ia0_24, .int ia0_25, .int ia0_26, .int ia0_27, .int ia0_28, .ref ha0_29, .int ia0_30, .int ia0_31, .int ia0_32, .ref ha0_33, .ref ha0_34, .ref ha0_35, .int ia0_36, .int ia0_37])), (ha1, .inl (cI, 5, .inl fa1))] s.heap := hP
  have hl := lv_entry ([.ref ha0, .ref ha1]) (n := 3) (Nat.le_of_ble_eq_true rfl)
  rw [lg_entry_eq]
  generalize (lg_sl ([.ref ha0, .ref ha1]) ++ List.replicate (3 - (lg_sl ([.ref ha0, .ref ha1])).length) Slot.unset).toArray = ls at hl ⊢
  have hl : lv_has ls 3 [(0, .ref ha0), (1, .ref ha1)] := hl
  refine lv_iconst (v := 0) hx hb dX12_passes_0 (by decide) ?_
  refine lv_istore_n (lv' := [(2, .int 0), (0, .ref ha0), (1, .ref ha1)]) hx hb dX12_passes_1 rfl hl (by decide) rfl (fun ls hl => ?_)
  have hL77 : ∀ (n : Nat) (v1 : Int32) (v14 : Int32) (f15 : Nat → Int32) (f16 : Nat → Int32) (H : Heap) (locs : List Loc) (ls : Array Slot), 0 ≤ v1.toInt → v1.toInt ≤ 5 → 0 ≤ v14.toInt → v14.toInt ≤ 300 → (zKp f16) → ((v14 : Int32).toInt = ia0_26.toInt + (v1 : Int32).toInt) → (zPsR ia0_25 ia0_26 (v1 : Int32).toInt fa0_23 fa1 f16 f15) → (5 - v1.toInt).toNat < n → lv_has ls 3 [(2, .int v1), (0, .ref ha0), (1, .ref ha1)] → va_P (dC, dI) vwCl [(ha0_23, .inl (cI, 300, .inl f16)), (ha0, .inr (12, [.ref ha0_0, .ref ha0_1, .ref ha0_2, .ref ha0_3, .ref ha0_4, .ref ha0_5, .ref ha0_6, .ref ha0_7, .ref ha0_8, .int ia0_9, .int ia0_10, .int ia0_11, .int ia0_12, .int ia0_13, .int ia0_14, .int ia0_15, .ref ha0_16, .ref ha0_17, .ref ha0_18, .ref ha0_19, .int ia0_20, .int ia0_21, .int ia0_22, .ref ha0_23, .int ia0_24, .int ia0_25, .int v14, .int ia0_27, .int ia0_28, .ref ha0_29, .int ia0_30, .int ia0_31, .int ia0_32, .ref ha0_33, .ref ha0_34, .ref ha0_35, .int ia0_36, .int ia0_37])), (ha1, .inl (cI, 5, .inl f15))] H → va_D A [(ha0_23, .inl (cI, 300, .inl f16)), (ha0, .inr (12, [.ref ha0_0, .ref ha0_1, .ref ha0_2, .ref ha0_3, .ref ha0_4, .ref ha0_5, .ref ha0_6, .ref ha0_7, .ref ha0_8, .int ia0_9, .int ia0_10, .int ia0_11, .int ia0_12, .int ia0_13, .int ia0_14, .int ia0_15, .ref ha0_16, .ref ha0_17, .ref ha0_18, .ref ha0_19, .int ia0_20, .int ia0_21, .int ia0_22, .ref ha0_23, .int ia0_24, .int ia0_25, .int v14, .int ia0_27, .int ia0_28, .ref ha0_29, .int ia0_30, .int ia0_31, .int ia0_32, .ref ha0_33, .ref ha0_34, .ref ha0_35, .int ia0_36, .int ia0_37])), (ha1, .inl (cI, 5, .inl f15))] → va_S A s.heap H locs → W p l e (headSpec vsX12_passes ({ frames := 0, cells := 0, slots := 0, locals := 0 })).room s m ([.ref ha0, .ref ha1] : List Value).toArray below meth c H locs 0 0 (MQ below (zWv dC dI (A) (fun u => [(ha0_23, .inl (cI, 300, .inl (u.2 0))), (ha0, .inr (12, [.ref ha0_0, .ref ha0_1, .ref ha0_2, .ref ha0_3, .ref ha0_4, .ref ha0_5, .ref ha0_6, .ref ha0_7, .ref ha0_8, .int ia0_9, .int ia0_10, .int ia0_11, .int ia0_12, .int ia0_13, .int ia0_14, .int ia0_15, .ref ha0_16, .ref ha0_17, .ref ha0_18, .ref ha0_19, .int ia0_20, .int ia0_21, .int ia0_22, .ref ha0_23, .int ia0_24, .int ia0_25, .int (u.1 0), .int ia0_27, .int ia0_28, .ref ha0_29, .int ia0_30, .int ia0_31, .int ia0_32, .ref ha0_33, .ref ha0_34, .ref ha0_35, .int ia0_36, .int ia0_37])), (ha1, .inl (cI, 5, .inl (u.2 1)))]) (fun u => (zKp (u.2 0)) ∧ (0 ≤ (u.1 0).toInt ∧ (u.1 0).toInt ≤ 300) ∧ ((u.1 0).toInt = ia0_26.toInt + 5 ∧ zPsR ia0_25 ia0_26 5 fa0_23 fa1 (u.2 0) (u.2 1)))) ([.ref ha0, .ref ha1] : List Value).toArray s 0 0 A) (F0 m 2 ls []) := by
    intro n
    induction n with
    | zero =>
      intro v1 v14 f15 f16 H locs ls hi78_0 hi78_1 hi78_2 hi78_3 hBf16 hi78_x0 hi78_x1 hi78_m hl hP hD hS
      exact absurd hi78_m (Nat.not_lt_zero _)
    | succ n ih =>
      intro v1 v14 f15 f16 H locs ls hi78_0 hi78_1 hi78_2 hi78_3 hBf16 hi78_x0 hi78_x1 hi78_m hl hP hD hS
      have ih79 := ih
      refine lv_iload_n hx hb dX12_passes_2 rfl (lv_at hl 0 rfl) ?_
      refine lv_aload_n hx hb dX12_passes_3 rfl (lv_at hl 2 rfl) ?_
      refine va_alen hx hb hK hP 2 0 rfl rfl (v := 5) rfl dX12_passes_4 ?_
      refine lv_icmp_ge (tgt := 58) hx hb dX12_passes_5 (by decide) (fun hc => ?_) (fun hc => ?_)
      · have q80 : 5 ≤ v1.toInt := z_le (by decide) rfl hc
        have hP9 := hP.sub (ws' := [(ha0_23, .inl (cI, 300, .inl f16)), (ha0, .inr (12, [.ref ha0_0, .ref ha0_1, .ref ha0_2, .ref ha0_3, .ref ha0_4, .ref ha0_5, .ref ha0_6, .ref ha0_7, .ref ha0_8, .int ia0_9, .int ia0_10, .int ia0_11, .int ia0_12, .int ia0_13, .int ia0_14, .int ia0_15, .ref ha0_16, .ref ha0_17, .ref ha0_18, .ref ha0_19, .int ia0_20, .int ia0_21, .int ia0_22, .ref ha0_23, .int ia0_24, .int ia0_25, .int v14, .int ia0_27, .int ia0_28, .ref ha0_29, .int ia0_30, .int ia0_31, .int ia0_32, .ref ha0_33, .ref ha0_34, .ref ha0_35, .int ia0_36, .int ia0_37])), (ha1, .inl (cI, 5, .inl f15))]) [0, 1, 2] rfl
        have hD9 := hD.sub (ws' := [(ha0_23, .inl (cI, 300, .inl f16)), (ha0, .inr (12, [.ref ha0_0, .ref ha0_1, .ref ha0_2, .ref ha0_3, .ref ha0_4, .ref ha0_5, .ref ha0_6, .ref ha0_7, .ref ha0_8, .int ia0_9, .int ia0_10, .int ia0_11, .int ia0_12, .int ia0_13, .int ia0_14, .int ia0_15, .ref ha0_16, .ref ha0_17, .ref ha0_18, .ref ha0_19, .int ia0_20, .int ia0_21, .int ia0_22, .ref ha0_23, .int ia0_24, .int ia0_25, .int v14, .int ia0_27, .int ia0_28, .ref ha0_29, .int ia0_30, .int ia0_31, .int ia0_32, .ref ha0_33, .ref ha0_34, .ref ha0_35, .int ia0_36, .int ia0_37])), (ha1, .inl (cI, 5, .inl f15))]) [0, 1, 2] (by decide) rfl
        have hpo : ((v14 : Int32).toInt = ia0_26.toInt + 5 ∧ zPsR ia0_25 ia0_26 5 fa0_23 fa1 f16 f15) := by exact ⟨by omega, z_psE (by assumption) (by omega)⟩
        exact W.vret hx hb hr (fun t ht hW => ⟨⟨(fun k => [v14].getD k 0, fun k => [f16, f15].getD k (fun _ => 0)), rfl, (show (zKp f16) ∧ (0 ≤ (v14 : Int32).toInt ∧ (v14 : Int32).toInt ≤ 300) ∧ (((v14 : Int32).toInt = ia0_26.toInt + 5 ∧ zPsR ia0_25 ia0_26 5 fa0_23 fa1 f16 f15)) from ⟨hBf16, ⟨hi78_2, hi78_3⟩, hpo⟩), by rw [ht]; exact hP9, hD9⟩, hS.F ht⟩) hS.2.2 dX12_passes_58
      · have q81 : v1.toInt < 5 := z_nle (by decide) rfl hc
        refine lv_aload_n hx hb dX12_passes_8 rfl (lv_at hl 1 rfl) ?_
        refine va_get (D := (dC, dI)) (ci := 12) (v := .int ia0_25) (C := RX12) (T := TX12) (N := 38) hx hb hts in_X12_passes_X12 hown hK hP 1 rfl rfl 25 (by decide) (hts (.fieldLink RX12 137 "EachOnHisCueModel" "isKeeping" "Z") (by decide +kernel)) (fun _ h9 => h9) rfl dX12_passes_9 ?_
        refine lv_if_eq (tgt := 30) hx hb dX12_passes_12 (by decide) (fun hc => ?_) (fun hc => ?_)
        · have q82 : ia0_25.toInt = 0 := z_eq rfl (by decide) hc
          refine lv_aload_n hx hb dX12_passes_30 rfl (lv_at hl 2 rfl) ?_
          refine lv_iload_n hx hb dX12_passes_31 rfl (lv_at hl 0 rfl) ?_
          refine lv_aload_n hx hb dX12_passes_32 rfl (lv_at hl 1 rfl) ?_
          refine va_get (D := (dC, dI)) (ci := 12) (v := .ref ha0_23) (C := RX12) (T := TX12) (N := 38) hx hb hts in_X12_passes_X12 hown hK hP 1 rfl rfl 23 (by decide) (hts (.fieldLink RX12 56 "EachOnHisCueModel" "kept" "[I") (by decide +kernel)) (fun _ h9 => h9) rfl dX12_passes_33 ?_
          refine lv_aload_n hx hb dX12_passes_36 rfl (lv_at hl 1 rfl) ?_
          refine va_get (D := (dC, dI)) (ci := 12) (v := .int v14) (C := RX12) (T := TX12) (N := 38) hx hb hts in_X12_passes_X12 hown hK hP 1 rfl rfl 26 (by decide) (hts (.fieldLink RX12 141 "EachOnHisCueModel" "cursor" "I") (by decide +kernel)) (fun _ h9 => h9) rfl dX12_passes_37 ?_
          refine va_iald hx hb hK hP 0 0 rfl rfl (z_in (by omega) (by omega)) dX12_passes_40 ?_
          refine lv_topi (fun y83 ey83 => ?_)
          have gy83 : y83.toInt = (f16 (v14 : Int32).toNatClampNeg).toInt := by rw [ey83]
          have hy83 := z_ldK (i := v14) hBf16 (by first | decide | omega)
          rw [← ey83] at hy83
          refine va_iast hx hb hK hP hD hS 2 0 rfl rfl (z_in (by omega) (by omega)) dX12_passes_41 (fun H locs hP hD hS => ?_)
          generalize ef84 : upd f15 (v1 : Int32).toNatClampNeg y83 = f84 at hP hD
          have hP : va_P (dC, dI) vwCl [(ha0_23, .inl (cI, 300, .inl f16)), (ha0, .inr (12, [.ref ha0_0, .ref ha0_1, .ref ha0_2, .ref ha0_3, .ref ha0_4, .ref ha0_5, .ref ha0_6, .ref ha0_7, .ref ha0_8, .int ia0_9, .int ia0_10, .int ia0_11, .int ia0_12, .int ia0_13, .int ia0_14, .int ia0_15, .ref ha0_16, .ref ha0_17, .ref ha0_18, .ref ha0_19, .int ia0_20, .int ia0_21, .int ia0_22, .ref ha0_23, .int ia0_24, .int ia0_25, .int v14, .int ia0_27, .int ia0_28, .ref ha0_29, .int ia0_30, .int ia0_31, .int ia0_32, .ref ha0_33, .ref ha0_34, .ref ha0_35, .int ia0_36, .int ia0_37])), (ha1, .inl (cI, 5, .inl f84))] H := hP
          have hD : va_D A [(ha0_23, .inl (cI, 300, .inl f16)), (ha0, .inr (12, [.ref ha0_0, .ref ha0_1, .ref ha0_2, .ref ha0_3, .ref ha0_4, .ref ha0_5, .ref ha0_6, .ref ha0_7, .ref ha0_8, .int ia0_9, .int ia0_10, .int ia0_11, .int ia0_12, .int ia0_13, .int ia0_14, .int ia0_15, .ref ha0_16, .ref ha0_17, .ref ha0_18, .ref ha0_19, .int ia0_20, .int ia0_21, .int ia0_22, .ref ha0_23, .int ia0_24, .int ia0_25, .int v14, .int ia0_27, .int ia0_28, .ref ha0_29, .int ia0_30, .int ia0_31, .int ia0_32, .ref ha0_33, .ref ha0_34, .ref ha0_35, .int ia0_36, .int ia0_37])), (ha1, .inl (cI, 5, .inl f84))] := hD
          refine lv_aload_n hx hb dX12_passes_42 rfl (lv_at hl 1 rfl) ?_
          refine lv_dup hx hb dX12_passes_43 rfl ?_
          refine va_get (D := (dC, dI)) (ci := 12) (v := .int v14) (C := RX12) (T := TX12) (N := 38) hx hb hts in_X12_passes_X12 hown hK hP 1 rfl rfl 26 (by decide) (hts (.fieldLink RX12 141 "EachOnHisCueModel" "cursor" "I") (by decide +kernel)) (fun _ h9 => h9) rfl dX12_passes_44 ?_
          refine lv_iconst (v := 1) hx hb dX12_passes_47 (by decide) ?_
          refine lv_iadd hx hb dX12_passes_48 ?_
          refine lv_topi (fun y85 ey85 => ?_)
          have hy85 : y85.toInt = v14.toInt + 1 := by rw [ey85]; exact z_add rfl (by decide) (by omega) (by omega)
          refine va_put (D := (dC, dI)) (ci := 12) (v := .int y85) (ty := .int) (C := RX12) (T := TX12) (N := 38) hx hb hts in_X12_passes_X12 tyX12 tyX12_ok nmX12 hown hK hP hD hS 1 rfl rfl 26 (by decide) (hts (.fieldLink RX12 141 "EachOnHisCueModel" "cursor" "I") (by decide +kernel)) (fun _ h9 => h9) rfl (by decide +kernel) rfl rfl (Nat.le_of_ble_eq_true rfl) dX12_passes_49 (fun H locs hP hD hS => ?_)
          have hP : va_P (dC, dI) vwCl [(ha0_23, .inl (cI, 300, .inl f16)), (ha0, .inr (12, [.ref ha0_0, .ref ha0_1, .ref ha0_2, .ref ha0_3, .ref ha0_4, .ref ha0_5, .ref ha0_6, .ref ha0_7, .ref ha0_8, .int ia0_9, .int ia0_10, .int ia0_11, .int ia0_12, .int ia0_13, .int ia0_14, .int ia0_15, .ref ha0_16, .ref ha0_17, .ref ha0_18, .ref ha0_19, .int ia0_20, .int ia0_21, .int ia0_22, .ref ha0_23, .int ia0_24, .int ia0_25, .int y85, .int ia0_27, .int ia0_28, .ref ha0_29, .int ia0_30, .int ia0_31, .int ia0_32, .ref ha0_33, .ref ha0_34, .ref ha0_35, .int ia0_36, .int ia0_37])), (ha1, .inl (cI, 5, .inl f84))] H := hP
          have hD : va_D A [(ha0_23, .inl (cI, 300, .inl f16)), (ha0, .inr (12, [.ref ha0_0, .ref ha0_1, .ref ha0_2, .ref ha0_3, .ref ha0_4, .ref ha0_5, .ref ha0_6, .ref ha0_7, .ref ha0_8, .int ia0_9, .int ia0_10, .int ia0_11, .int ia0_12, .int ia0_13, .int ia0_14, .int ia0_15, .ref ha0_16, .ref ha0_17, .ref ha0_18, .ref ha0_19, .int ia0_20, .int ia0_21, .int ia0_22, .ref ha0_23, .int ia0_24, .int ia0_25, .int y85, .int ia0_27, .int ia0_28, .ref ha0_29, .int ia0_30, .int ia0_31, .int ia0_32, .ref ha0_33, .ref ha0_34, .ref ha0_35, .int ia0_36, .int ia0_37])), (ha1, .inl (cI, 5, .inl f84))] := hD
          obtain ⟨y86, ey86⟩ : ∃ y : Int32, y = v1 + 1 := ⟨_, rfl⟩
          refine lv_iinc (v := y86) (lv' := [(2, .int y86), (0, .ref ha0), (1, .ref ha1)]) hx hb dX12_passes_52 hl (k := 0) rfl (by rw [ey86]; rfl) (by decide) rfl (fun ls hl => ?_)
          have hy86 : y86.toInt = v1.toInt + 1 := by rw [ey86]; exact z_add rfl (by decide) (by omega) (by omega)
          refine lv_goto (tgt := 2) hx hb dX12_passes_55 (by decide) ?_
          exact ih79 y86 y85 f84 f16 _ _ ls (by first | decide | omega) (by first | decide | omega) (by first | decide | omega) (by first | decide | omega) hBf16 (by first | omega | decide | (rw [show (0 : Int32).toInt = 0 from by decide]; omega)) (by first | exact z_psK (by assumption) (by assumption) (by assumption) (by omega) (by omega) (by omega) (by omega) (by omega) | exact z_psN (by assumption) (by assumption) (by assumption) (by omega) (by omega) (by omega) (by omega) (by omega)) (by omega) (lv_sub hl [0, 1, 2] rfl) hP hD hS
        · have q87 : ia0_25.toInt ≠ 0 := z_ne rfl (by decide) hc
          refine lv_aload_n hx hb dX12_passes_15 rfl (lv_at hl 1 rfl) ?_
          refine va_get (D := (dC, dI)) (ci := 12) (v := .ref ha0_23) (C := RX12) (T := TX12) (N := 38) hx hb hts in_X12_passes_X12 hown hK hP 1 rfl rfl 23 (by decide) (hts (.fieldLink RX12 56 "EachOnHisCueModel" "kept" "[I") (by decide +kernel)) (fun _ h9 => h9) rfl dX12_passes_16 ?_
          refine lv_aload_n hx hb dX12_passes_19 rfl (lv_at hl 1 rfl) ?_
          refine va_get (D := (dC, dI)) (ci := 12) (v := .int v14) (C := RX12) (T := TX12) (N := 38) hx hb hts in_X12_passes_X12 hown hK hP 1 rfl rfl 26 (by decide) (hts (.fieldLink RX12 141 "EachOnHisCueModel" "cursor" "I") (by decide +kernel)) (fun _ h9 => h9) rfl dX12_passes_20 ?_
          refine lv_aload_n hx hb dX12_passes_23 rfl (lv_at hl 2 rfl) ?_
          refine lv_iload_n hx hb dX12_passes_24 rfl (lv_at hl 0 rfl) ?_
          refine va_iald hx hb hK hP 2 0 rfl rfl (z_in (by omega) (by omega)) dX12_passes_25 ?_
          refine lv_topi (fun y88 ey88 => ?_)
          have gy88 : y88.toInt = (f15 (v1 : Int32).toNatClampNeg).toInt := by rw [ey88]
          refine va_iast hx hb hK hP hD hS 0 0 rfl rfl (z_in (by omega) (by omega)) dX12_passes_26 (fun H locs hP hD hS => ?_)
          generalize ef89 : upd f16 (v14 : Int32).toNatClampNeg y88 = f89 at hP hD
          have hBf89 : zKp f89 := by rw [← ef89]; exact z_updK hBf16 (by first | decide | omega) (by omega)
          have hP : va_P (dC, dI) vwCl [(ha0_23, .inl (cI, 300, .inl f89)), (ha0, .inr (12, [.ref ha0_0, .ref ha0_1, .ref ha0_2, .ref ha0_3, .ref ha0_4, .ref ha0_5, .ref ha0_6, .ref ha0_7, .ref ha0_8, .int ia0_9, .int ia0_10, .int ia0_11, .int ia0_12, .int ia0_13, .int ia0_14, .int ia0_15, .ref ha0_16, .ref ha0_17, .ref ha0_18, .ref ha0_19, .int ia0_20, .int ia0_21, .int ia0_22, .ref ha0_23, .int ia0_24, .int ia0_25, .int v14, .int ia0_27, .int ia0_28, .ref ha0_29, .int ia0_30, .int ia0_31, .int ia0_32, .ref ha0_33, .ref ha0_34, .ref ha0_35, .int ia0_36, .int ia0_37])), (ha1, .inl (cI, 5, .inl f15))] H := hP
          have hD : va_D A [(ha0_23, .inl (cI, 300, .inl f89)), (ha0, .inr (12, [.ref ha0_0, .ref ha0_1, .ref ha0_2, .ref ha0_3, .ref ha0_4, .ref ha0_5, .ref ha0_6, .ref ha0_7, .ref ha0_8, .int ia0_9, .int ia0_10, .int ia0_11, .int ia0_12, .int ia0_13, .int ia0_14, .int ia0_15, .ref ha0_16, .ref ha0_17, .ref ha0_18, .ref ha0_19, .int ia0_20, .int ia0_21, .int ia0_22, .ref ha0_23, .int ia0_24, .int ia0_25, .int v14, .int ia0_27, .int ia0_28, .ref ha0_29, .int ia0_30, .int ia0_31, .int ia0_32, .ref ha0_33, .ref ha0_34, .ref ha0_35, .int ia0_36, .int ia0_37])), (ha1, .inl (cI, 5, .inl f15))] := hD
          refine lv_goto (tgt := 42) hx hb dX12_passes_27 (by decide) ?_
          refine lv_aload_n hx hb dX12_passes_42 rfl (lv_at hl 1 rfl) ?_
          refine lv_dup hx hb dX12_passes_43 rfl ?_
          refine va_get (D := (dC, dI)) (ci := 12) (v := .int v14) (C := RX12) (T := TX12) (N := 38) hx hb hts in_X12_passes_X12 hown hK hP 1 rfl rfl 26 (by decide) (hts (.fieldLink RX12 141 "EachOnHisCueModel" "cursor" "I") (by decide +kernel)) (fun _ h9 => h9) rfl dX12_passes_44 ?_
          refine lv_iconst (v := 1) hx hb dX12_passes_47 (by decide) ?_
          refine lv_iadd hx hb dX12_passes_48 ?_
          refine lv_topi (fun y90 ey90 => ?_)
          have hy90 : y90.toInt = v14.toInt + 1 := by rw [ey90]; exact z_add rfl (by decide) (by omega) (by omega)
          refine va_put (D := (dC, dI)) (ci := 12) (v := .int y90) (ty := .int) (C := RX12) (T := TX12) (N := 38) hx hb hts in_X12_passes_X12 tyX12 tyX12_ok nmX12 hown hK hP hD hS 1 rfl rfl 26 (by decide) (hts (.fieldLink RX12 141 "EachOnHisCueModel" "cursor" "I") (by decide +kernel)) (fun _ h9 => h9) rfl (by decide +kernel) rfl rfl (Nat.le_of_ble_eq_true rfl) dX12_passes_49 (fun H locs hP hD hS => ?_)
          have hP : va_P (dC, dI) vwCl [(ha0_23, .inl (cI, 300, .inl f89)), (ha0, .inr (12, [.ref ha0_0, .ref ha0_1, .ref ha0_2, .ref ha0_3, .ref ha0_4, .ref ha0_5, .ref ha0_6, .ref ha0_7, .ref ha0_8, .int ia0_9, .int ia0_10, .int ia0_11, .int ia0_12, .int ia0_13, .int ia0_14, .int ia0_15, .ref ha0_16, .ref ha0_17, .ref ha0_18, .ref ha0_19, .int ia0_20, .int ia0_21, .int ia0_22, .ref ha0_23, .int ia0_24, .int ia0_25, .int y90, .int ia0_27, .int ia0_28, .ref ha0_29, .int ia0_30, .int ia0_31, .int ia0_32, .ref ha0_33, .ref ha0_34, .ref ha0_35, .int ia0_36, .int ia0_37])), (ha1, .inl (cI, 5, .inl f15))] H := hP
          have hD : va_D A [(ha0_23, .inl (cI, 300, .inl f89)), (ha0, .inr (12, [.ref ha0_0, .ref ha0_1, .ref ha0_2, .ref ha0_3, .ref ha0_4, .ref ha0_5, .ref ha0_6, .ref ha0_7, .ref ha0_8, .int ia0_9, .int ia0_10, .int ia0_11, .int ia0_12, .int ia0_13, .int ia0_14, .int ia0_15, .ref ha0_16, .ref ha0_17, .ref ha0_18, .ref ha0_19, .int ia0_20, .int ia0_21, .int ia0_22, .ref ha0_23, .int ia0_24, .int ia0_25, .int y90, .int ia0_27, .int ia0_28, .ref ha0_29, .int ia0_30, .int ia0_31, .int ia0_32, .ref ha0_33, .ref ha0_34, .ref ha0_35, .int ia0_36, .int ia0_37])), (ha1, .inl (cI, 5, .inl f15))] := hD
          obtain ⟨y91, ey91⟩ : ∃ y : Int32, y = v1 + 1 := ⟨_, rfl⟩
          refine lv_iinc (v := y91) (lv' := [(2, .int y91), (0, .ref ha0), (1, .ref ha1)]) hx hb dX12_passes_52 hl (k := 0) rfl (by rw [ey91]; rfl) (by decide) rfl (fun ls hl => ?_)
          have hy91 : y91.toInt = v1.toInt + 1 := by rw [ey91]; exact z_add rfl (by decide) (by omega) (by omega)
          refine lv_goto (tgt := 2) hx hb dX12_passes_55 (by decide) ?_
          exact ih79 y91 y90 f15 f89 _ _ ls (by first | decide | omega) (by first | decide | omega) (by first | decide | omega) (by first | decide | omega) hBf89 (by first | omega | decide | (rw [show (0 : Int32).toInt = 0 from by decide]; omega)) (by first | exact z_psK (by assumption) (by assumption) (by assumption) (by omega) (by omega) (by omega) (by omega) (by omega) | exact z_psN (by assumption) (by assumption) (by assumption) (by omega) (by omega) (by omega) (by omega) (by omega)) (by omega) (lv_sub hl [0, 1, 2] rfl) hP hD hS
  exact hL77 ((5 - (0 : Int32).toInt).toNat + 1) 0 ia0_26 fa1 fa0_23 _ _ ls (by decide) (by decide) hia0_26l hia0_26h hBfa0_23 (by first | omega | decide | (rw [show (0 : Int32).toInt = 0 from by decide]; omega)) z_ps0 (by omega) hl hP hD hS
set_option maxHeartbeats 4000000 in
set_option maxRecDepth 100000 in
theorem wX12_passes_figure (l : Launch) (dC : Nat → ClassId) (dI : Nat → Nat → Nat) (cI cQ : ClassId) (ha0 ha1 ha0_23 ha0_0 ha0_1 ha0_2 ha0_3 ha0_4 ha0_5 ha0_6 ha0_7 ha0_8 ha0_16 ha0_17 ha0_18 ha0_19 ha0_29 ha0_33 ha0_34 ha0_35 : Nat) (fa0_23 : Nat → Int32) (hBfa0_23 : zKp fa0_23) (ia0_9 : Int32) (hia0_9l : 0 ≤ ia0_9.toInt) (hia0_9h : ia0_9.toInt ≤ 5) (ia0_10 : Int32) (hia0_10l : 0 ≤ ia0_10.toInt) (hia0_10h : ia0_10.toInt ≤ 12) (ia0_11 : Int32) (ia0_12 : Int32) (ia0_13 : Int32) (ia0_14 : Int32) (hia0_14l : (-9) ≤ ia0_14.toInt) (hia0_14h : ia0_14.toInt ≤ 11) (ia0_15 : Int32) (ia0_20 : Int32) (hia0_20l : 0 ≤ ia0_20.toInt) (hia0_20h : ia0_20.toInt ≤ 80) (ia0_21 : Int32) (hia0_21l : 0 ≤ ia0_21.toInt) (hia0_21h : ia0_21.toInt ≤ 80) (ia0_22 : Int32) (hia0_22l : 0 ≤ ia0_22.toInt) (hia0_22h : ia0_22.toInt ≤ 40) (ia0_24 : Int32) (hia0_24l : 0 ≤ ia0_24.toInt) (hia0_24h : ia0_24.toInt ≤ 1) (ia0_25 : Int32) (hia0_25l : 0 ≤ ia0_25.toInt) (hia0_25h : ia0_25.toInt ≤ 1) (ia0_26 : Int32) (hia0_26l : 0 ≤ ia0_26.toInt) (hia0_26h : ia0_26.toInt ≤ 300) (ia0_27 : Int32) (hia0_27l : (-9) ≤ ia0_27.toInt) (hia0_27h : ia0_27.toInt ≤ 11) (ia0_28 : Int32) (ia0_30 : Int32) (hia0_30l : 0 ≤ ia0_30.toInt) (hia0_30h : ia0_30.toInt ≤ 60) (ia0_31 : Int32) (ia0_32 : Int32) (hia0_32l : 0 ≤ ia0_32.toInt) (hia0_32h : ia0_32.toInt ≤ 1) (ia0_36 : Int32) (hia0_36l : 0 ≤ ia0_36.toInt) (hia0_36h : ia0_36.toInt ≤ 12) (ia0_37 : Int32) (fa1 : Nat → Int32) (hx0 : ia0_26.toInt % 150 = 5) (hx1 : ia0_26.toInt ≤ 155) (sz : Nat) : Met l yX12_passes vsX12_passes ({ frames := 0, cells := 0, slots := 0, locals := 0 }) (va_Pc [.ref ha0, .ref ha1] (zB dC dI cI cQ [(ha0_23, .inl (cI, 300, .inl fa0_23)), (ha0, .inr (12, [.ref ha0_0, .ref ha0_1, .ref ha0_2, .ref ha0_3, .ref ha0_4, .ref ha0_5, .ref ha0_6, .ref ha0_7, .ref ha0_8, .int ia0_9, .int ia0_10, .int ia0_11, .int ia0_12, .int ia0_13, .int ia0_14, .int ia0_15, .ref ha0_16, .ref ha0_17, .ref ha0_18, .ref ha0_19, .int ia0_20, .int ia0_21, .int ia0_22, .ref ha0_23, .int ia0_24, .int ia0_25, .int ia0_26, .int ia0_27, .int ia0_28, .ref ha0_29, .int ia0_30, .int ia0_31, .int ia0_32, .ref ha0_33, .ref ha0_34, .ref ha0_35, .int ia0_36, .int ia0_37])), (ha1, .inl (cI, 5, .inl fa1))] sz)) (zWv dC dI (va_A [(ha0_23, .inl (cI, 300, .inl fa0_23)), (ha0, .inr (12, [.ref ha0_0, .ref ha0_1, .ref ha0_2, .ref ha0_3, .ref ha0_4, .ref ha0_5, .ref ha0_6, .ref ha0_7, .ref ha0_8, .int ia0_9, .int ia0_10, .int ia0_11, .int ia0_12, .int ia0_13, .int ia0_14, .int ia0_15, .ref ha0_16, .ref ha0_17, .ref ha0_18, .ref ha0_19, .int ia0_20, .int ia0_21, .int ia0_22, .ref ha0_23, .int ia0_24, .int ia0_25, .int ia0_26, .int ia0_27, .int ia0_28, .ref ha0_29, .int ia0_30, .int ia0_31, .int ia0_32, .ref ha0_33, .ref ha0_34, .ref ha0_35, .int ia0_36, .int ia0_37])), (ha1, .inl (cI, 5, .inl fa1))] sz) (fun u => [(ha0_23, .inl (cI, 300, .inl (u.2 0))), (ha0, .inr (12, [.ref ha0_0, .ref ha0_1, .ref ha0_2, .ref ha0_3, .ref ha0_4, .ref ha0_5, .ref ha0_6, .ref ha0_7, .ref ha0_8, .int ia0_9, .int ia0_10, .int ia0_11, .int ia0_12, .int ia0_13, .int ia0_14, .int ia0_15, .ref ha0_16, .ref ha0_17, .ref ha0_18, .ref ha0_19, .int ia0_20, .int ia0_21, .int ia0_22, .ref ha0_23, .int ia0_24, .int ia0_25, .int (u.1 0), .int ia0_27, .int ia0_28, .ref ha0_29, .int ia0_30, .int ia0_31, .int ia0_32, .ref ha0_33, .ref ha0_34, .ref ha0_35, .int ia0_36, .int ia0_37])), (ha1, .inl (cI, 5, .inl (u.2 1)))]) (fun u => (zKp (u.2 0)) ∧ (0 ≤ (u.1 0).toInt ∧ (u.1 0).toInt ≤ 300) ∧ ((u.1 0).toInt = ia0_26.toInt + 5 ∧ zPsR ia0_25 ia0_26 5 fa0_23 fa1 (u.2 0) (u.2 1)))) 0 0 (va_A [(ha0_23, .inl (cI, 300, .inl fa0_23)), (ha0, .inr (12, [.ref ha0_0, .ref ha0_1, .ref ha0_2, .ref ha0_3, .ref ha0_4, .ref ha0_5, .ref ha0_6, .ref ha0_7, .ref ha0_8, .int ia0_9, .int ia0_10, .int ia0_11, .int ia0_12, .int ia0_13, .int ia0_14, .int ia0_15, .ref ha0_16, .ref ha0_17, .ref ha0_18, .ref ha0_19, .int ia0_20, .int ia0_21, .int ia0_22, .ref ha0_23, .int ia0_24, .int ia0_25, .int ia0_26, .int ia0_27, .int ia0_28, .ref ha0_29, .int ia0_30, .int ia0_31, .int ia0_32, .ref ha0_33, .ref ha0_34, .ref ha0_35, .int ia0_36, .int ia0_37])), (ha1, .inl (cI, 5, .inl fa1))] sz) := by
  refine Met.ofW (cc := cX12_passes) (maxL := 3) (ret := none) (by decide) rfl ?_
  intro p e s m args below meth c s₁ B hml hv
  obtain ⟨rfl, hsz, hP, hZ, hD0⟩ := hv
  obtain ⟨hK, hAO, hN⟩ := id hZ
  have hx := B.exec
  have hb := B.bytes
  have hr := B.returns
  have hts := atoms_spec (ws := vsX12_passes) B.pre
  have hown : s.vm.findClass RX12 = some m.cls := findClass_of_methodNamed B.named
  have hlocks := B.notSynchronized
  subst hsz
  have hD := hD0.self (sz := s.heap.size)
  generalize hAe : va_A [(ha0_23, .inl (cI, 300, .inl fa0_23)), (ha0, .inr (12, [.ref ha0_0, .ref ha0_1, .ref ha0_2, .ref ha0_3, .ref ha0_4, .ref ha0_5, .ref ha0_6, .ref ha0_7, .ref ha0_8, .int ia0_9, .int ia0_10, .int ia0_11, .int ia0_12, .int ia0_13, .int ia0_14, .int ia0_15, .ref ha0_16, .ref ha0_17, .ref ha0_18, .ref ha0_19, .int ia0_20, .int ia0_21, .int ia0_22, .ref ha0_23, .int ia0_24, .int ia0_25, .int ia0_26, .int ia0_27, .int ia0_28, .ref ha0_29, .int ia0_30, .int ia0_31, .int ia0_32, .ref ha0_33, .ref ha0_34, .ref ha0_35, .int ia0_36, .int ia0_37])), (ha1, .inl (cI, 5, .inl fa1))] s.heap.size = A at hD ⊢
  have hA : ∀ q : Nat, s.heap.size ≤ q → A q := fun q h => by rw [← hAe]; exact Or.inr h
  have hS : va_S A s.heap s.heap [] := va_S.rf
  have hP : va_P (dC, dI) vwCl [(ha0_23, .inl (cI, 300, .inl fa0_23)), (ha0, .inr (12, [.ref ha0_0, .ref ha0_1, .ref ha0_2, .ref ha0_3, .ref ha0_4, .ref ha0_5, .ref ha0_6, .ref ha0_7, .ref ha0_8, .int ia0_9, .int ia0_10, .int ia0_11, .int ia0_12, .int ia0_13, .int ia0_14, .int ia0_15, .ref ha0_16, .ref ha0_17, .ref ha0_18, .ref ha0_19, .int ia0_20, .int ia0_21, .int ia0_22, .ref ha0_23, .int ia0_24, .int ia0_25, .int ia0_26, .int ia0_27, .int ia0_28, .ref ha0_29, .int ia0_30, .int ia0_31, .int ia0_32, .ref ha0_33, .ref ha0_34, .ref ha0_35, .int ia0_36, .int ia0_37])), (ha1, .inl (cI, 5, .inl fa1))] s.heap := hP
  have hl := lv_entry ([.ref ha0, .ref ha1]) (n := 3) (Nat.le_of_ble_eq_true rfl)
  rw [lg_entry_eq]
  generalize (lg_sl ([.ref ha0, .ref ha1]) ++ List.replicate (3 - (lg_sl ([.ref ha0, .ref ha1])).length) Slot.unset).toArray = ls at hl ⊢
  have hl : lv_has ls 3 [(0, .ref ha0), (1, .ref ha1)] := hl
  refine lv_iconst (v := 0) hx hb dX12_passes_0 (by decide) ?_
  refine lv_istore_n (lv' := [(2, .int 0), (0, .ref ha0), (1, .ref ha1)]) hx hb dX12_passes_1 rfl hl (by decide) rfl (fun ls hl => ?_)
  have hL77 : ∀ (n : Nat) (v1 : Int32) (v14 : Int32) (f15 : Nat → Int32) (f16 : Nat → Int32) (H : Heap) (locs : List Loc) (ls : Array Slot), 0 ≤ v1.toInt → v1.toInt ≤ 5 → 0 ≤ v14.toInt → v14.toInt ≤ 300 → (zKp f16) → ((v14 : Int32).toInt = ia0_26.toInt + (v1 : Int32).toInt) → (zPsR ia0_25 ia0_26 (v1 : Int32).toInt fa0_23 fa1 f16 f15) → (5 - v1.toInt).toNat < n → lv_has ls 3 [(2, .int v1), (0, .ref ha0), (1, .ref ha1)] → va_P (dC, dI) vwCl [(ha0_23, .inl (cI, 300, .inl f16)), (ha0, .inr (12, [.ref ha0_0, .ref ha0_1, .ref ha0_2, .ref ha0_3, .ref ha0_4, .ref ha0_5, .ref ha0_6, .ref ha0_7, .ref ha0_8, .int ia0_9, .int ia0_10, .int ia0_11, .int ia0_12, .int ia0_13, .int ia0_14, .int ia0_15, .ref ha0_16, .ref ha0_17, .ref ha0_18, .ref ha0_19, .int ia0_20, .int ia0_21, .int ia0_22, .ref ha0_23, .int ia0_24, .int ia0_25, .int v14, .int ia0_27, .int ia0_28, .ref ha0_29, .int ia0_30, .int ia0_31, .int ia0_32, .ref ha0_33, .ref ha0_34, .ref ha0_35, .int ia0_36, .int ia0_37])), (ha1, .inl (cI, 5, .inl f15))] H → va_D A [(ha0_23, .inl (cI, 300, .inl f16)), (ha0, .inr (12, [.ref ha0_0, .ref ha0_1, .ref ha0_2, .ref ha0_3, .ref ha0_4, .ref ha0_5, .ref ha0_6, .ref ha0_7, .ref ha0_8, .int ia0_9, .int ia0_10, .int ia0_11, .int ia0_12, .int ia0_13, .int ia0_14, .int ia0_15, .ref ha0_16, .ref ha0_17, .ref ha0_18, .ref ha0_19, .int ia0_20, .int ia0_21, .int ia0_22, .ref ha0_23, .int ia0_24, .int ia0_25, .int v14, .int ia0_27, .int ia0_28, .ref ha0_29, .int ia0_30, .int ia0_31, .int ia0_32, .ref ha0_33, .ref ha0_34, .ref ha0_35, .int ia0_36, .int ia0_37])), (ha1, .inl (cI, 5, .inl f15))] → va_S A s.heap H locs → W p l e (headSpec vsX12_passes ({ frames := 0, cells := 0, slots := 0, locals := 0 })).room s m ([.ref ha0, .ref ha1] : List Value).toArray below meth c H locs 0 0 (MQ below (zWv dC dI (A) (fun u => [(ha0_23, .inl (cI, 300, .inl (u.2 0))), (ha0, .inr (12, [.ref ha0_0, .ref ha0_1, .ref ha0_2, .ref ha0_3, .ref ha0_4, .ref ha0_5, .ref ha0_6, .ref ha0_7, .ref ha0_8, .int ia0_9, .int ia0_10, .int ia0_11, .int ia0_12, .int ia0_13, .int ia0_14, .int ia0_15, .ref ha0_16, .ref ha0_17, .ref ha0_18, .ref ha0_19, .int ia0_20, .int ia0_21, .int ia0_22, .ref ha0_23, .int ia0_24, .int ia0_25, .int (u.1 0), .int ia0_27, .int ia0_28, .ref ha0_29, .int ia0_30, .int ia0_31, .int ia0_32, .ref ha0_33, .ref ha0_34, .ref ha0_35, .int ia0_36, .int ia0_37])), (ha1, .inl (cI, 5, .inl (u.2 1)))]) (fun u => (zKp (u.2 0)) ∧ (0 ≤ (u.1 0).toInt ∧ (u.1 0).toInt ≤ 300) ∧ ((u.1 0).toInt = ia0_26.toInt + 5 ∧ zPsR ia0_25 ia0_26 5 fa0_23 fa1 (u.2 0) (u.2 1)))) ([.ref ha0, .ref ha1] : List Value).toArray s 0 0 A) (F0 m 2 ls []) := by
    intro n
    induction n with
    | zero =>
      intro v1 v14 f15 f16 H locs ls hi78_0 hi78_1 hi78_2 hi78_3 hBf16 hi78_x0 hi78_x1 hi78_m hl hP hD hS
      exact absurd hi78_m (Nat.not_lt_zero _)
    | succ n ih =>
      intro v1 v14 f15 f16 H locs ls hi78_0 hi78_1 hi78_2 hi78_3 hBf16 hi78_x0 hi78_x1 hi78_m hl hP hD hS
      have ih79 := ih
      refine lv_iload_n hx hb dX12_passes_2 rfl (lv_at hl 0 rfl) ?_
      refine lv_aload_n hx hb dX12_passes_3 rfl (lv_at hl 2 rfl) ?_
      refine va_alen hx hb hK hP 2 0 rfl rfl (v := 5) rfl dX12_passes_4 ?_
      refine lv_icmp_ge (tgt := 58) hx hb dX12_passes_5 (by decide) (fun hc => ?_) (fun hc => ?_)
      · have q80 : 5 ≤ v1.toInt := z_le (by decide) rfl hc
        have hP9 := hP.sub (ws' := [(ha0_23, .inl (cI, 300, .inl f16)), (ha0, .inr (12, [.ref ha0_0, .ref ha0_1, .ref ha0_2, .ref ha0_3, .ref ha0_4, .ref ha0_5, .ref ha0_6, .ref ha0_7, .ref ha0_8, .int ia0_9, .int ia0_10, .int ia0_11, .int ia0_12, .int ia0_13, .int ia0_14, .int ia0_15, .ref ha0_16, .ref ha0_17, .ref ha0_18, .ref ha0_19, .int ia0_20, .int ia0_21, .int ia0_22, .ref ha0_23, .int ia0_24, .int ia0_25, .int v14, .int ia0_27, .int ia0_28, .ref ha0_29, .int ia0_30, .int ia0_31, .int ia0_32, .ref ha0_33, .ref ha0_34, .ref ha0_35, .int ia0_36, .int ia0_37])), (ha1, .inl (cI, 5, .inl f15))]) [0, 1, 2] rfl
        have hD9 := hD.sub (ws' := [(ha0_23, .inl (cI, 300, .inl f16)), (ha0, .inr (12, [.ref ha0_0, .ref ha0_1, .ref ha0_2, .ref ha0_3, .ref ha0_4, .ref ha0_5, .ref ha0_6, .ref ha0_7, .ref ha0_8, .int ia0_9, .int ia0_10, .int ia0_11, .int ia0_12, .int ia0_13, .int ia0_14, .int ia0_15, .ref ha0_16, .ref ha0_17, .ref ha0_18, .ref ha0_19, .int ia0_20, .int ia0_21, .int ia0_22, .ref ha0_23, .int ia0_24, .int ia0_25, .int v14, .int ia0_27, .int ia0_28, .ref ha0_29, .int ia0_30, .int ia0_31, .int ia0_32, .ref ha0_33, .ref ha0_34, .ref ha0_35, .int ia0_36, .int ia0_37])), (ha1, .inl (cI, 5, .inl f15))]) [0, 1, 2] (by decide) rfl
        have hpo : ((v14 : Int32).toInt = ia0_26.toInt + 5 ∧ zPsR ia0_25 ia0_26 5 fa0_23 fa1 f16 f15) := by exact ⟨by omega, z_psE (by assumption) (by omega)⟩
        exact W.vret hx hb hr (fun t ht hW => ⟨⟨(fun k => [v14].getD k 0, fun k => [f16, f15].getD k (fun _ => 0)), rfl, (show (zKp f16) ∧ (0 ≤ (v14 : Int32).toInt ∧ (v14 : Int32).toInt ≤ 300) ∧ (((v14 : Int32).toInt = ia0_26.toInt + 5 ∧ zPsR ia0_25 ia0_26 5 fa0_23 fa1 f16 f15)) from ⟨hBf16, ⟨hi78_2, hi78_3⟩, hpo⟩), by rw [ht]; exact hP9, hD9⟩, hS.F ht⟩) hS.2.2 dX12_passes_58
      · have q81 : v1.toInt < 5 := z_nle (by decide) rfl hc
        refine lv_aload_n hx hb dX12_passes_8 rfl (lv_at hl 1 rfl) ?_
        refine va_get (D := (dC, dI)) (ci := 12) (v := .int ia0_25) (C := RX12) (T := TX12) (N := 38) hx hb hts in_X12_passes_X12 hown hK hP 1 rfl rfl 25 (by decide) (hts (.fieldLink RX12 137 "EachOnHisCueModel" "isKeeping" "Z") (by decide +kernel)) (fun _ h9 => h9) rfl dX12_passes_9 ?_
        refine lv_if_eq (tgt := 30) hx hb dX12_passes_12 (by decide) (fun hc => ?_) (fun hc => ?_)
        · have q82 : ia0_25.toInt = 0 := z_eq rfl (by decide) hc
          refine lv_aload_n hx hb dX12_passes_30 rfl (lv_at hl 2 rfl) ?_
          refine lv_iload_n hx hb dX12_passes_31 rfl (lv_at hl 0 rfl) ?_
          refine lv_aload_n hx hb dX12_passes_32 rfl (lv_at hl 1 rfl) ?_
          refine va_get (D := (dC, dI)) (ci := 12) (v := .ref ha0_23) (C := RX12) (T := TX12) (N := 38) hx hb hts in_X12_passes_X12 hown hK hP 1 rfl rfl 23 (by decide) (hts (.fieldLink RX12 56 "EachOnHisCueModel" "kept" "[I") (by decide +kernel)) (fun _ h9 => h9) rfl dX12_passes_33 ?_
          refine lv_aload_n hx hb dX12_passes_36 rfl (lv_at hl 1 rfl) ?_
          refine va_get (D := (dC, dI)) (ci := 12) (v := .int v14) (C := RX12) (T := TX12) (N := 38) hx hb hts in_X12_passes_X12 hown hK hP 1 rfl rfl 26 (by decide) (hts (.fieldLink RX12 141 "EachOnHisCueModel" "cursor" "I") (by decide +kernel)) (fun _ h9 => h9) rfl dX12_passes_37 ?_
          refine va_iald hx hb hK hP 0 0 rfl rfl (z_in (by omega) (by omega)) dX12_passes_40 ?_
          refine lv_topi (fun y83 ey83 => ?_)
          have gy83 : y83.toInt = (f16 (v14 : Int32).toNatClampNeg).toInt := by rw [ey83]
          have hy83 := z_ldK (i := v14) hBf16 (by first | decide | omega)
          rw [← ey83] at hy83
          refine va_iast hx hb hK hP hD hS 2 0 rfl rfl (z_in (by omega) (by omega)) dX12_passes_41 (fun H locs hP hD hS => ?_)
          generalize ef84 : upd f15 (v1 : Int32).toNatClampNeg y83 = f84 at hP hD
          have hP : va_P (dC, dI) vwCl [(ha0_23, .inl (cI, 300, .inl f16)), (ha0, .inr (12, [.ref ha0_0, .ref ha0_1, .ref ha0_2, .ref ha0_3, .ref ha0_4, .ref ha0_5, .ref ha0_6, .ref ha0_7, .ref ha0_8, .int ia0_9, .int ia0_10, .int ia0_11, .int ia0_12, .int ia0_13, .int ia0_14, .int ia0_15, .ref ha0_16, .ref ha0_17, .ref ha0_18, .ref ha0_19, .int ia0_20, .int ia0_21, .int ia0_22, .ref ha0_23, .int ia0_24, .int ia0_25, .int v14, .int ia0_27, .int ia0_28, .ref ha0_29, .int ia0_30, .int ia0_31, .int ia0_32, .ref ha0_33, .ref ha0_34, .ref ha0_35, .int ia0_36, .int ia0_37])), (ha1, .inl (cI, 5, .inl f84))] H := hP
          have hD : va_D A [(ha0_23, .inl (cI, 300, .inl f16)), (ha0, .inr (12, [.ref ha0_0, .ref ha0_1, .ref ha0_2, .ref ha0_3, .ref ha0_4, .ref ha0_5, .ref ha0_6, .ref ha0_7, .ref ha0_8, .int ia0_9, .int ia0_10, .int ia0_11, .int ia0_12, .int ia0_13, .int ia0_14, .int ia0_15, .ref ha0_16, .ref ha0_17, .ref ha0_18, .ref ha0_19, .int ia0_20, .int ia0_21, .int ia0_22, .ref ha0_23, .int ia0_24, .int ia0_25, .int v14, .int ia0_27, .int ia0_28, .ref ha0_29, .int ia0_30, .int ia0_31, .int ia0_32, .ref ha0_33, .ref ha0_34, .ref ha0_35, .int ia0_36, .int ia0_37])), (ha1, .inl (cI, 5, .inl f84))] := hD
          refine lv_aload_n hx hb dX12_passes_42 rfl (lv_at hl 1 rfl) ?_
          refine lv_dup hx hb dX12_passes_43 rfl ?_
          refine va_get (D := (dC, dI)) (ci := 12) (v := .int v14) (C := RX12) (T := TX12) (N := 38) hx hb hts in_X12_passes_X12 hown hK hP 1 rfl rfl 26 (by decide) (hts (.fieldLink RX12 141 "EachOnHisCueModel" "cursor" "I") (by decide +kernel)) (fun _ h9 => h9) rfl dX12_passes_44 ?_
          refine lv_iconst (v := 1) hx hb dX12_passes_47 (by decide) ?_
          refine lv_iadd hx hb dX12_passes_48 ?_
          refine lv_topi (fun y85 ey85 => ?_)
          have hy85 : y85.toInt = v14.toInt + 1 := by rw [ey85]; exact z_add rfl (by decide) (by omega) (by omega)
          refine va_put (D := (dC, dI)) (ci := 12) (v := .int y85) (ty := .int) (C := RX12) (T := TX12) (N := 38) hx hb hts in_X12_passes_X12 tyX12 tyX12_ok nmX12 hown hK hP hD hS 1 rfl rfl 26 (by decide) (hts (.fieldLink RX12 141 "EachOnHisCueModel" "cursor" "I") (by decide +kernel)) (fun _ h9 => h9) rfl (by decide +kernel) rfl rfl (Nat.le_of_ble_eq_true rfl) dX12_passes_49 (fun H locs hP hD hS => ?_)
          have hP : va_P (dC, dI) vwCl [(ha0_23, .inl (cI, 300, .inl f16)), (ha0, .inr (12, [.ref ha0_0, .ref ha0_1, .ref ha0_2, .ref ha0_3, .ref ha0_4, .ref ha0_5, .ref ha0_6, .ref ha0_7, .ref ha0_8, .int ia0_9, .int ia0_10, .int ia0_11, .int ia0_12, .int ia0_13, .int ia0_14, .int ia0_15, .ref ha0_16, .ref ha0_17, .ref ha0_18, .ref ha0_19, .int ia0_20, .int ia0_21, .int ia0_22, .ref ha0_23, .int ia0_24, .int ia0_25, .int y85, .int ia0_27, .int ia0_28, .ref ha0_29, .int ia0_30, .int ia0_31, .int ia0_32, .ref ha0_33, .ref ha0_34, .ref ha0_35, .int ia0_36, .int ia0_37])), (ha1, .inl (cI, 5, .inl f84))] H := hP
          have hD : va_D A [(ha0_23, .inl (cI, 300, .inl f16)), (ha0, .inr (12, [.ref ha0_0, .ref ha0_1, .ref ha0_2, .ref ha0_3, .ref ha0_4, .ref ha0_5, .ref ha0_6, .ref ha0_7, .ref ha0_8, .int ia0_9, .int ia0_10, .int ia0_11, .int ia0_12, .int ia0_13, .int ia0_14, .int ia0_15, .ref ha0_16, .ref ha0_17, .ref ha0_18, .ref ha0_19, .int ia0_20, .int ia0_21, .int ia0_22, .ref ha0_23, .int ia0_24, .int ia0_25, .int y85, .int ia0_27, .int ia0_28, .ref ha0_29, .int ia0_30, .int ia0_31, .int ia0_32, .ref ha0_33, .ref ha0_34, .ref ha0_35, .int ia0_36, .int ia0_37])), (ha1, .inl (cI, 5, .inl f84))] := hD
          obtain ⟨y86, ey86⟩ : ∃ y : Int32, y = v1 + 1 := ⟨_, rfl⟩
          refine lv_iinc (v := y86) (lv' := [(2, .int y86), (0, .ref ha0), (1, .ref ha1)]) hx hb dX12_passes_52 hl (k := 0) rfl (by rw [ey86]; rfl) (by decide) rfl (fun ls hl => ?_)
          have hy86 : y86.toInt = v1.toInt + 1 := by rw [ey86]; exact z_add rfl (by decide) (by omega) (by omega)
          refine lv_goto (tgt := 2) hx hb dX12_passes_55 (by decide) ?_
          exact ih79 y86 y85 f84 f16 _ _ ls (by first | decide | omega) (by first | decide | omega) (by first | decide | omega) (by first | decide | omega) hBf16 (by first | omega | decide | (rw [show (0 : Int32).toInt = 0 from by decide]; omega)) (by first | exact z_psK (by assumption) (by assumption) (by assumption) (by omega) (by omega) (by omega) (by omega) (by omega) | exact z_psN (by assumption) (by assumption) (by assumption) (by omega) (by omega) (by omega) (by omega) (by omega)) (by omega) (lv_sub hl [0, 1, 2] rfl) hP hD hS
        · have q87 : ia0_25.toInt ≠ 0 := z_ne rfl (by decide) hc
          refine lv_aload_n hx hb dX12_passes_15 rfl (lv_at hl 1 rfl) ?_
          refine va_get (D := (dC, dI)) (ci := 12) (v := .ref ha0_23) (C := RX12) (T := TX12) (N := 38) hx hb hts in_X12_passes_X12 hown hK hP 1 rfl rfl 23 (by decide) (hts (.fieldLink RX12 56 "EachOnHisCueModel" "kept" "[I") (by decide +kernel)) (fun _ h9 => h9) rfl dX12_passes_16 ?_
          refine lv_aload_n hx hb dX12_passes_19 rfl (lv_at hl 1 rfl) ?_
          refine va_get (D := (dC, dI)) (ci := 12) (v := .int v14) (C := RX12) (T := TX12) (N := 38) hx hb hts in_X12_passes_X12 hown hK hP 1 rfl rfl 26 (by decide) (hts (.fieldLink RX12 141 "EachOnHisCueModel" "cursor" "I") (by decide +kernel)) (fun _ h9 => h9) rfl dX12_passes_20 ?_
          refine lv_aload_n hx hb dX12_passes_23 rfl (lv_at hl 2 rfl) ?_
          refine lv_iload_n hx hb dX12_passes_24 rfl (lv_at hl 0 rfl) ?_
          refine va_iald hx hb hK hP 2 0 rfl rfl (z_in (by omega) (by omega)) dX12_passes_25 ?_
          refine lv_topi (fun y88 ey88 => ?_)
          have gy88 : y88.toInt = (f15 (v1 : Int32).toNatClampNeg).toInt := by rw [ey88]
          refine va_iast hx hb hK hP hD hS 0 0 rfl rfl (z_in (by omega) (by omega)) dX12_passes_26 (fun H locs hP hD hS => ?_)
          generalize ef89 : upd f16 (v14 : Int32).toNatClampNeg y88 = f89 at hP hD
          have hBf89 : zKp f89 := by rw [← ef89]; exact z_updK hBf16 (by first | decide | omega) (by omega)
          have hP : va_P (dC, dI) vwCl [(ha0_23, .inl (cI, 300, .inl f89)), (ha0, .inr (12, [.ref ha0_0, .ref ha0_1, .ref ha0_2, .ref ha0_3, .ref ha0_4, .ref ha0_5, .ref ha0_6, .ref ha0_7, .ref ha0_8, .int ia0_9, .int ia0_10, .int ia0_11, .int ia0_12, .int ia0_13, .int ia0_14, .int ia0_15, .ref ha0_16, .ref ha0_17, .ref ha0_18, .ref ha0_19, .int ia0_20, .int ia0_21, .int ia0_22, .ref ha0_23, .int ia0_24, .int ia0_25, .int v14, .int ia0_27, .int ia0_28, .ref ha0_29, .int ia0_30, .int ia0_31, .int ia0_32, .ref ha0_33, .ref ha0_34, .ref ha0_35, .int ia0_36, .int ia0_37])), (ha1, .inl (cI, 5, .inl f15))] H := hP
          have hD : va_D A [(ha0_23, .inl (cI, 300, .inl f89)), (ha0, .inr (12, [.ref ha0_0, .ref ha0_1, .ref ha0_2, .ref ha0_3, .ref ha0_4, .ref ha0_5, .ref ha0_6, .ref ha0_7, .ref ha0_8, .int ia0_9, .int ia0_10, .int ia0_11, .int ia0_12, .int ia0_13, .int ia0_14, .int ia0_15, .ref ha0_16, .ref ha0_17, .ref ha0_18, .ref ha0_19, .int ia0_20, .int ia0_21, .int ia0_22, .ref ha0_23, .int ia0_24, .int ia0_25, .int v14, .int ia0_27, .int ia0_28, .ref ha0_29, .int ia0_30, .int ia0_31, .int ia0_32, .ref ha0_33, .ref ha0_34, .ref ha0_35, .int ia0_36, .int ia0_37])), (ha1, .inl (cI, 5, .inl f15))] := hD
          refine lv_goto (tgt := 42) hx hb dX12_passes_27 (by decide) ?_
          refine lv_aload_n hx hb dX12_passes_42 rfl (lv_at hl 1 rfl) ?_
          refine lv_dup hx hb dX12_passes_43 rfl ?_
          refine va_get (D := (dC, dI)) (ci := 12) (v := .int v14) (C := RX12) (T := TX12) (N := 38) hx hb hts in_X12_passes_X12 hown hK hP 1 rfl rfl 26 (by decide) (hts (.fieldLink RX12 141 "EachOnHisCueModel" "cursor" "I") (by decide +kernel)) (fun _ h9 => h9) rfl dX12_passes_44 ?_
          refine lv_iconst (v := 1) hx hb dX12_passes_47 (by decide) ?_
          refine lv_iadd hx hb dX12_passes_48 ?_
          refine lv_topi (fun y90 ey90 => ?_)
          have hy90 : y90.toInt = v14.toInt + 1 := by rw [ey90]; exact z_add rfl (by decide) (by omega) (by omega)
          refine va_put (D := (dC, dI)) (ci := 12) (v := .int y90) (ty := .int) (C := RX12) (T := TX12) (N := 38) hx hb hts in_X12_passes_X12 tyX12 tyX12_ok nmX12 hown hK hP hD hS 1 rfl rfl 26 (by decide) (hts (.fieldLink RX12 141 "EachOnHisCueModel" "cursor" "I") (by decide +kernel)) (fun _ h9 => h9) rfl (by decide +kernel) rfl rfl (Nat.le_of_ble_eq_true rfl) dX12_passes_49 (fun H locs hP hD hS => ?_)
          have hP : va_P (dC, dI) vwCl [(ha0_23, .inl (cI, 300, .inl f89)), (ha0, .inr (12, [.ref ha0_0, .ref ha0_1, .ref ha0_2, .ref ha0_3, .ref ha0_4, .ref ha0_5, .ref ha0_6, .ref ha0_7, .ref ha0_8, .int ia0_9, .int ia0_10, .int ia0_11, .int ia0_12, .int ia0_13, .int ia0_14, .int ia0_15, .ref ha0_16, .ref ha0_17, .ref ha0_18, .ref ha0_19, .int ia0_20, .int ia0_21, .int ia0_22, .ref ha0_23, .int ia0_24, .int ia0_25, .int y90, .int ia0_27, .int ia0_28, .ref ha0_29, .int ia0_30, .int ia0_31, .int ia0_32, .ref ha0_33, .ref ha0_34, .ref ha0_35, .int ia0_36, .int ia0_37])), (ha1, .inl (cI, 5, .inl f15))] H := hP
          have hD : va_D A [(ha0_23, .inl (cI, 300, .inl f89)), (ha0, .inr (12, [.ref ha0_0, .ref ha0_1, .ref ha0_2, .ref ha0_3, .ref ha0_4, .ref ha0_5, .ref ha0_6, .ref ha0_7, .ref ha0_8, .int ia0_9, .int ia0_10, .int ia0_11, .int ia0_12, .int ia0_13, .int ia0_14, .int ia0_15, .ref ha0_16, .ref ha0_17, .ref ha0_18, .ref ha0_19, .int ia0_20, .int ia0_21, .int ia0_22, .ref ha0_23, .int ia0_24, .int ia0_25, .int y90, .int ia0_27, .int ia0_28, .ref ha0_29, .int ia0_30, .int ia0_31, .int ia0_32, .ref ha0_33, .ref ha0_34, .ref ha0_35, .int ia0_36, .int ia0_37])), (ha1, .inl (cI, 5, .inl f15))] := hD
          obtain ⟨y91, ey91⟩ : ∃ y : Int32, y = v1 + 1 := ⟨_, rfl⟩
          refine lv_iinc (v := y91) (lv' := [(2, .int y91), (0, .ref ha0), (1, .ref ha1)]) hx hb dX12_passes_52 hl (k := 0) rfl (by rw [ey91]; rfl) (by decide) rfl (fun ls hl => ?_)
          have hy91 : y91.toInt = v1.toInt + 1 := by rw [ey91]; exact z_add rfl (by decide) (by omega) (by omega)
          refine lv_goto (tgt := 2) hx hb dX12_passes_55 (by decide) ?_
          exact ih79 y91 y90 f15 f89 _ _ ls (by first | decide | omega) (by first | decide | omega) (by first | decide | omega) (by first | decide | omega) hBf89 (by first | omega | decide | (rw [show (0 : Int32).toInt = 0 from by decide]; omega)) (by first | exact z_psK (by assumption) (by assumption) (by assumption) (by omega) (by omega) (by omega) (by omega) (by omega) | exact z_psN (by assumption) (by assumption) (by assumption) (by omega) (by omega) (by omega) (by omega) (by omega)) (by omega) (lv_sub hl [0, 1, 2] rfl) hP hD hS
  exact hL77 ((5 - (0 : Int32).toInt).toNat + 1) 0 ia0_26 fa1 fa0_23 _ _ ls (by decide) (by decide) hia0_26l hia0_26h hBfa0_23 (by first | omega | decide | (rw [show (0 : Int32).toInt = 0 from by decide]; omega)) z_ps0 (by omega) hl hP hD hS
