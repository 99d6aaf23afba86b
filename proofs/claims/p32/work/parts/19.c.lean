set_option maxRecDepth 20000 in
theorem edX12_changes_0 : decode cX12_changes 0 = .ok (.aload_n 0, 1) ∧ decode cX12_changes 1 = .ok (.getfield 68, 3) ∧ decode cX12_changes 4 = .ok (.iload_n 1, 1) ∧ decode cX12_changes 5 = .ok (.iaload, 1) ∧ decode cX12_changes 6 = .ok (.istore_n 3, 1) ∧ decode cX12_changes 7 = .ok (.aload_n 0, 1) ∧ decode cX12_changes 8 = .ok (.getfield 68, 3) ∧ decode cX12_changes 11 = .ok (.iload_n 1, 1) ∧ decode cX12_changes 12 = .ok (.aload_n 0, 1) ∧ decode cX12_changes 13 = .ok (.getfield 68, 3) ∧ decode cX12_changes 16 = .ok (.iload_n 2, 1) ∧ decode cX12_changes 17 = .ok (.iaload, 1) := by decide +kernel
theorem dX12_changes_0 : decode cX12_changes 0 = .ok (.aload_n 0, 1) := edX12_changes_0.1
theorem dX12_changes_1 : decode cX12_changes 1 = .ok (.getfield 68, 3) := edX12_changes_0.2.1
theorem dX12_changes_4 : decode cX12_changes 4 = .ok (.iload_n 1, 1) := edX12_changes_0.2.2.1
theorem dX12_changes_5 : decode cX12_changes 5 = .ok (.iaload, 1) := edX12_changes_0.2.2.2.1
theorem dX12_changes_6 : decode cX12_changes 6 = .ok (.istore_n 3, 1) := edX12_changes_0.2.2.2.2.1
theorem dX12_changes_7 : decode cX12_changes 7 = .ok (.aload_n 0, 1) := edX12_changes_0.2.2.2.2.2.1
theorem dX12_changes_8 : decode cX12_changes 8 = .ok (.getfield 68, 3) := edX12_changes_0.2.2.2.2.2.2.1
theorem dX12_changes_11 : decode cX12_changes 11 = .ok (.iload_n 1, 1) := edX12_changes_0.2.2.2.2.2.2.2.1
theorem dX12_changes_12 : decode cX12_changes 12 = .ok (.aload_n 0, 1) := edX12_changes_0.2.2.2.2.2.2.2.2.1
theorem dX12_changes_13 : decode cX12_changes 13 = .ok (.getfield 68, 3) := edX12_changes_0.2.2.2.2.2.2.2.2.2.1
theorem dX12_changes_16 : decode cX12_changes 16 = .ok (.iload_n 2, 1) := edX12_changes_0.2.2.2.2.2.2.2.2.2.2.1
theorem dX12_changes_17 : decode cX12_changes 17 = .ok (.iaload, 1) := edX12_changes_0.2.2.2.2.2.2.2.2.2.2.2
set_option maxRecDepth 20000 in
theorem edX12_changes_18 : decode cX12_changes 18 = .ok (.iastore, 1) ∧ decode cX12_changes 19 = .ok (.aload_n 0, 1) ∧ decode cX12_changes 20 = .ok (.getfield 68, 3) ∧ decode cX12_changes 23 = .ok (.iload_n 2, 1) ∧ decode cX12_changes 24 = .ok (.iload_n 3, 1) ∧ decode cX12_changes 25 = .ok (.iastore, 1) ∧ decode cX12_changes 26 = .ok (.return_, 1) := by decide +kernel
theorem dX12_changes_18 : decode cX12_changes 18 = .ok (.iastore, 1) := edX12_changes_18.1
theorem dX12_changes_19 : decode cX12_changes 19 = .ok (.aload_n 0, 1) := edX12_changes_18.2.1
theorem dX12_changes_20 : decode cX12_changes 20 = .ok (.getfield 68, 3) := edX12_changes_18.2.2.1
theorem dX12_changes_23 : decode cX12_changes 23 = .ok (.iload_n 2, 1) := edX12_changes_18.2.2.2.1
theorem dX12_changes_24 : decode cX12_changes 24 = .ok (.iload_n 3, 1) := edX12_changes_18.2.2.2.2.1
theorem dX12_changes_25 : decode cX12_changes 25 = .ok (.iastore, 1) := edX12_changes_18.2.2.2.2.2.1
theorem dX12_changes_26 : decode cX12_changes 26 = .ok (.return_, 1) := edX12_changes_18.2.2.2.2.2.2
noncomputable def voX12_changes : List Cond := [.fieldLink RX12 68 "EachOnHisCueModel" "order" "[I"]
noncomputable def vsX12_changes : List Cond := .code yX12_changes cX12_changes 4 none :: (voX12_changes ++ (wsX120))
theorem zgX12_changes : zGd vsX12_changes := z_gdC rfl (z_gdA (z_gdO (by decide +kernel) : zGd voX12_changes) (zgX12))
theorem in_X12_changes_X12 : ∀ w ∈ wsX120, w ∈ vsX12_changes := fun _ h => List.mem_cons_of_mem _ (List.mem_append_right _ (h))
set_option maxHeartbeats 4000000 in
set_option maxRecDepth 100000 in
theorem wX12_changes (l : Launch) (dC : Nat → ClassId) (dI : Nat → Nat → Nat) (cI cQ : ClassId) (ha0 ha0_34 ha0_0 ha0_1 ha0_2 ha0_3 ha0_4 ha0_5 ha0_6 ha0_7 ha0_8 ha0_16 ha0_17 ha0_18 ha0_19 ha0_23 ha0_29 ha0_33 ha0_35 : Nat) (fa0_34 : Nat → Int32) (hBfa0_34 : ∀ k, 0 ≤ (fa0_34 k).toInt ∧ (fa0_34 k).toInt ≤ 11) (ia0_9 : Int32) (hia0_9l : 0 ≤ ia0_9.toInt) (hia0_9h : ia0_9.toInt ≤ 5) (ia0_10 : Int32) (hia0_10l : 0 ≤ ia0_10.toInt) (hia0_10h : ia0_10.toInt ≤ 12) (ia0_11 : Int32) (ia0_12 : Int32) (ia0_13 : Int32) (ia0_14 : Int32) (hia0_14l : (-9) ≤ ia0_14.toInt) (hia0_14h : ia0_14.toInt ≤ 11) (ia0_15 : Int32) (ia0_20 : Int32) (hia0_20l : 0 ≤ ia0_20.toInt) (hia0_20h : ia0_20.toInt ≤ 80) (ia0_21 : Int32) (hia0_21l : 0 ≤ ia0_21.toInt) (hia0_21h : ia0_21.toInt ≤ 80) (ia0_22 : Int32) (hia0_22l : 0 ≤ ia0_22.toInt) (hia0_22h : ia0_22.toInt ≤ 40) (ia0_24 : Int32) (hia0_24l : 0 ≤ ia0_24.toInt) (hia0_24h : ia0_24.toInt ≤ 1) (ia0_25 : Int32) (hia0_25l : 0 ≤ ia0_25.toInt) (hia0_25h : ia0_25.toInt ≤ 1) (ia0_26 : Int32) (hia0_26l : 0 ≤ ia0_26.toInt) (hia0_26h : ia0_26.toInt ≤ 300) (ia0_27 : Int32) (hia0_27l : (-9) ≤ ia0_27.toInt) (hia0_27h : ia0_27.toInt ≤ 11) (ia0_28 : Int32) (ia0_30 : Int32) (hia0_30l : 0 ≤ ia0_30.toInt) (hia0_30h : ia0_30.toInt ≤ 60) (ia0_31 : Int32) (ia0_32 : Int32) (hia0_32l : 0 ≤ ia0_32.toInt) (hia0_32h : ia0_32.toInt ≤ 1) (ia0_36 : Int32) (hia0_36l : 0 ≤ ia0_36.toInt) (hia0_36h : ia0_36.toInt ≤ 12) (ia0_37 : Int32) (p1 : Int32) (hp1l : 0 ≤ p1.toInt) (hp1h : p1.toInt ≤ 11) (p2 : Int32) (hp2l : 0 ≤ p2.toInt) (hp2h : p2.toInt ≤ 11) (sz : Nat) : Met l yX12_changes vsX12_changes ({ frames := 0, cells := 0, slots := 0, locals := 0 }) (va_Pc [.ref ha0, .int p1, .int p2] (zB dC dI cI cQ [(ha0_34, .inl (cI, 12, .inl fa0_34)), (ha0, .inr (12, [.ref ha0_0, .ref ha0_1, .ref ha0_2, .ref ha0_3, .ref ha0_4, .ref ha0_5, .ref ha0_6, .ref ha0_7, .ref ha0_8, .int ia0_9, .int ia0_10, .int ia0_11, .int ia0_12, .int ia0_13, .int ia0_14, .int ia0_15, .ref ha0_16, .ref ha0_17, .ref ha0_18, .ref ha0_19, .int ia0_20, .int ia0_21, .int ia0_22, .ref ha0_23, .int ia0_24, .int ia0_25, .int ia0_26, .int ia0_27, .int ia0_28, .ref ha0_29, .int ia0_30, .int ia0_31, .int ia0_32, .ref ha0_33, .ref ha0_34, .ref ha0_35, .int ia0_36, .int ia0_37]))] sz)) (zWv dC dI (va_A [(ha0_34, .inl (cI, 12, .inl fa0_34)), (ha0, .inr (12, [.ref ha0_0, .ref ha0_1, .ref ha0_2, .ref ha0_3, .ref ha0_4, .ref ha0_5, .ref ha0_6, .ref ha0_7, .ref ha0_8, .int ia0_9, .int ia0_10, .int ia0_11, .int ia0_12, .int ia0_13, .int ia0_14, .int ia0_15, .ref ha0_16, .ref ha0_17, .ref ha0_18, .ref ha0_19, .int ia0_20, .int ia0_21, .int ia0_22, .ref ha0_23, .int ia0_24, .int ia0_25, .int ia0_26, .int ia0_27, .int ia0_28, .ref ha0_29, .int ia0_30, .int ia0_31, .int ia0_32, .ref ha0_33, .ref ha0_34, .ref ha0_35, .int ia0_36, .int ia0_37]))] sz) (fun u => [(ha0_34, .inl (cI, 12, .inl (u.2 0))), (ha0, .inr (12, [.ref ha0_0, .ref ha0_1, .ref ha0_2, .ref ha0_3, .ref ha0_4, .ref ha0_5, .ref ha0_6, .ref ha0_7, .ref ha0_8, .int ia0_9, .int ia0_10, .int ia0_11, .int ia0_12, .int ia0_13, .int ia0_14, .int ia0_15, .ref ha0_16, .ref ha0_17, .ref ha0_18, .ref ha0_19, .int ia0_20, .int ia0_21, .int ia0_22, .ref ha0_23, .int ia0_24, .int ia0_25, .int ia0_26, .int ia0_27, .int ia0_28, .ref ha0_29, .int ia0_30, .int ia0_31, .int ia0_32, .ref ha0_33, .ref ha0_34, .ref ha0_35, .int ia0_36, .int ia0_37]))]) (fun u => (∀ k, 0 ≤ ((u.2 0) k).toInt ∧ ((u.2 0) k).toInt ≤ 11) ∧ True)) 0 0 (va_A [(ha0_34, .inl (cI, 12, .inl fa0_34)), (ha0, .inr (12, [.ref ha0_0, .ref ha0_1, .ref ha0_2, .ref ha0_3, .ref ha0_4, .ref ha0_5, .ref ha0_6, .ref ha0_7, .ref ha0_8, .int ia0_9, .int ia0_10, .int ia0_11, .int ia0_12, .int ia0_13, .int ia0_14, .int ia0_15, .ref ha0_16, .ref ha0_17, .ref ha0_18, .ref ha0_19, .int ia0_20, .int ia0_21, .int ia0_22, .ref ha0_23, .int ia0_24, .int ia0_25, .int ia0_26, .int ia0_27, .int ia0_28, .ref ha0_29, .int ia0_30, .int ia0_31, .int ia0_32, .ref ha0_33, .ref ha0_34, .ref ha0_35, .int ia0_36, .int ia0_37]))] sz) := by
  refine Met.ofW (cc := cX12_changes) (maxL := 4) (ret := none) (by decide) rfl ?_
  intro p e s m args below meth c s₁ B hml hv
  obtain ⟨rfl, hsz, hP, hZ, hD0⟩ := hv
  obtain ⟨hK, hAO, hN⟩ := id hZ
  have hx := B.exec
  have hb := B.bytes
  have hr := B.returns
  have hts := atoms_spec (ws := vsX12_changes) B.pre
  have hown : s.vm.findClass RX12 = some m.cls := findClass_of_methodNamed B.named
  have hlocks := B.notSynchronized
  subst hsz
  have hD := hD0.self (sz := s.heap.size)
  generalize hAe : va_A [(ha0_34, .inl (cI, 12, .inl fa0_34)), (ha0, .inr (12, [.ref ha0_0, .ref ha0_1, .ref ha0_2, .ref ha0_3, .ref ha0_4, .ref ha0_5, .ref ha0_6, .ref ha0_7, .ref ha0_8, .int ia0_9, .int ia0_10, .int ia0_11, .int ia0_12, .int ia0_13, .int ia0_14, .int ia0_15, .ref ha0_16, .ref ha0_17, .ref ha0_18, .ref ha0_19, .int ia0_20, .int ia0_21, .int ia0_22, .ref ha0_23, .int ia0_24, .int ia0_25, .int ia0_26, .int ia0_27, .int ia0_28, .ref ha0_29, .int ia0_30, .int ia0_31, .int ia0_32, .ref ha0_33, .ref ha0_34, .ref ha0_35, .int ia0_36, .int ia0_37]))] s.heap.size = A at hD ⊢
  have hA : ∀ q : Nat, s.heap.size ≤ q → A q := fun q h => by rw [← hAe]; exact Or.inr h
  have hS : va_S A s.heap s.heap [] := va_S.rf
  have hP : va_P (dC, dI) vwCl [(ha0_34, .inl (cI, 12, .inl fa0_34)), (ha0, .inr (12, [.ref ha0_0, .ref ha0_1, .ref ha0_2, .ref ha0_3, .ref ha0_4, .ref ha0_5, .ref ha0_6, .ref ha0_7, .ref ha0_8, .int ia0_9, .int ia0_10, .int ia0_11, .int ia0_12, .int ia0_13, .int ia0_14, .int ia0_15, .ref ha0_16, .ref ha0_17, .ref ha0_18, .ref ha0_19, .int ia0_20, .int ia0_21, .int ia0_22, .ref ha0_23, .int ia0_24, .int ia0_25, .int ia0_26, .int ia0_27, .int ia0_28, .ref ha0_29, .int ia0_30, .int ia0_31, .int ia0_32, .ref ha0_33, .ref ha0_34, .ref ha0_35, .int ia0_36, .int ia0_37]))] s.heap := hP
  have hl := lv_entry ([.ref ha0, .int p1, .int p2]) (n := 4) (Nat.le_of_ble_eq_true rfl)
  rw [lg_entry_eq]
  generalize (lg_sl ([.ref ha0, .int p1, .int p2]) ++ List.replicate (4 - (lg_sl ([.ref ha0, .int p1, .int p2])).length) Slot.unset).toArray = ls at hl ⊢
  have hl : lv_has ls 4 [(0, .ref ha0), (1, .int p1), (2, .int p2)] := hl
  refine lv_aload_n hx hb dX12_changes_0 rfl (lv_at hl 0 rfl) ?_
  refine va_get (D := (dC, dI)) (ci := 12) (v := .ref ha0_34) (C := RX12) (T := TX12) (N := 38) hx hb hts in_X12_changes_X12 hown hK hP 1 rfl rfl 34 (by decide) (hts (.fieldLink RX12 68 "EachOnHisCueModel" "order" "[I") (by decide +kernel)) (fun _ h9 => h9) rfl dX12_changes_1 ?_
  refine lv_iload_n hx hb dX12_changes_4 rfl (lv_at hl 1 rfl) ?_
  refine va_iald hx hb hK hP 0 0 rfl rfl (z_in (by omega) (by omega)) dX12_changes_5 ?_
  refine lv_topi (fun y1 ey1 => ?_)
  have gy1 : y1.toInt = (fa0_34 (p1 : Int32).toNatClampNeg).toInt := by rw [ey1]
  have hy1 : 0 ≤ y1.toInt ∧ y1.toInt ≤ 11 := by rw [ey1]; exact hBfa0_34 _
  obtain ⟨hy1, hy1_⟩ := hy1
  refine lv_istore_n (lv' := [(3, .int y1), (0, .ref ha0), (1, .int p1), (2, .int p2)]) hx hb dX12_changes_6 rfl hl (by decide) rfl (fun ls hl => ?_)
  refine lv_aload_n hx hb dX12_changes_7 rfl (lv_at hl 1 rfl) ?_
  refine va_get (D := (dC, dI)) (ci := 12) (v := .ref ha0_34) (C := RX12) (T := TX12) (N := 38) hx hb hts in_X12_changes_X12 hown hK hP 1 rfl rfl 34 (by decide) (hts (.fieldLink RX12 68 "EachOnHisCueModel" "order" "[I") (by decide +kernel)) (fun _ h9 => h9) rfl dX12_changes_8 ?_
  refine lv_iload_n hx hb dX12_changes_11 rfl (lv_at hl 2 rfl) ?_
  refine lv_aload_n hx hb dX12_changes_12 rfl (lv_at hl 1 rfl) ?_
  refine va_get (D := (dC, dI)) (ci := 12) (v := .ref ha0_34) (C := RX12) (T := TX12) (N := 38) hx hb hts in_X12_changes_X12 hown hK hP 1 rfl rfl 34 (by decide) (hts (.fieldLink RX12 68 "EachOnHisCueModel" "order" "[I") (by decide +kernel)) (fun _ h9 => h9) rfl dX12_changes_13 ?_
  refine lv_iload_n hx hb dX12_changes_16 rfl (lv_at hl 3 rfl) ?_
  refine va_iald hx hb hK hP 0 0 rfl rfl (z_in (by omega) (by omega)) dX12_changes_17 ?_
  refine lv_topi (fun y2 ey2 => ?_)
  have gy2 : y2.toInt = (fa0_34 (p2 : Int32).toNatClampNeg).toInt := by rw [ey2]
  have hy2 : 0 ≤ y2.toInt ∧ y2.toInt ≤ 11 := by rw [ey2]; exact hBfa0_34 _
  obtain ⟨hy2, hy2_⟩ := hy2
  refine va_iast hx hb hK hP hD hS 0 0 rfl rfl (z_in (by omega) (by omega)) dX12_changes_18 (fun H locs hP hD hS => ?_)
  generalize ef3 : upd fa0_34 (p1 : Int32).toNatClampNeg y2 = f3 at hP hD
  have hBf3 : ∀ k, 0 ≤ (f3 k).toInt ∧ (f3 k).toInt ≤ 11 := by rw [← ef3]; exact z_updB hBfa0_34 (by first | decide | omega) (by first | decide | omega)
  have hP : va_P (dC, dI) vwCl [(ha0_34, .inl (cI, 12, .inl f3)), (ha0, .inr (12, [.ref ha0_0, .ref ha0_1, .ref ha0_2, .ref ha0_3, .ref ha0_4, .ref ha0_5, .ref ha0_6, .ref ha0_7, .ref ha0_8, .int ia0_9, .int ia0_10, .int ia0_11, .int ia0_12, .int ia0_13, .int ia0_14, .int ia0_15, .ref ha0_16, .ref ha0_17, .ref ha0_18, .ref ha0_19, .int ia0_20, .int ia0_21, .int ia0_22, .ref ha0_23, .int ia0_24, .int ia0_25, .int ia0_26, .int ia0_27, .int ia0_28, .ref ha0_29, .int ia0_30, .int ia0_31, .int ia0_32, .ref ha0_33, .ref ha0_34, .ref ha0_35, .int ia0_36, .int ia0_37]))] H := hP
  have hD : va_D A [(ha0_34, .inl (cI, 12, .inl f3)), (ha0, .inr (12, [.ref ha0_0, .ref ha0_1, .ref ha0_2, .ref ha0_3, .ref ha0_4, .ref ha0_5, .ref ha0_6, .ref ha0_7, .ref ha0_8, .int ia0_9, .int ia0_10, .int ia0_11, .int ia0_12, .int ia0_13, .int ia0_14, .int ia0_15, .ref ha0_16, .ref ha0_17, .ref ha0_18, .ref ha0_19, .int ia0_20, .int ia0_21, .int ia0_22, .ref ha0_23, .int ia0_24, .int ia0_25, .int ia0_26, .int ia0_27, .int ia0_28, .ref ha0_29, .int ia0_30, .int ia0_31, .int ia0_32, .ref ha0_33, .ref ha0_34, .ref ha0_35, .int ia0_36, .int ia0_37]))] := hD
  refine lv_aload_n hx hb dX12_changes_19 rfl (lv_at hl 1 rfl) ?_
  refine va_get (D := (dC, dI)) (ci := 12) (v := .ref ha0_34) (C := RX12) (T := TX12) (N := 38) hx hb hts in_X12_changes_X12 hown hK hP 1 rfl rfl 34 (by decide) (hts (.fieldLink RX12 68 "EachOnHisCueModel" "order" "[I") (by decide +kernel)) (fun _ h9 => h9) rfl dX12_changes_20 ?_
  refine lv_iload_n hx hb dX12_changes_23 rfl (lv_at hl 3 rfl) ?_
  refine lv_iload_n hx hb dX12_changes_24 rfl (lv_at hl 0 rfl) ?_
  refine va_iast hx hb hK hP hD hS 0 0 rfl rfl (z_in (by omega) (by omega)) dX12_changes_25 (fun H locs hP hD hS => ?_)
  generalize ef4 : upd f3 (p2 : Int32).toNatClampNeg y1 = f4 at hP hD
  have hBf4 : ∀ k, 0 ≤ (f4 k).toInt ∧ (f4 k).toInt ≤ 11 := by rw [← ef4]; exact z_updB hBf3 (by first | decide | omega) (by first | decide | omega)
  have hP : va_P (dC, dI) vwCl [(ha0_34, .inl (cI, 12, .inl f4)), (ha0, .inr (12, [.ref ha0_0, .ref ha0_1, .ref ha0_2, .ref ha0_3, .ref ha0_4, .ref ha0_5, .ref ha0_6, .ref ha0_7, .ref ha0_8, .int ia0_9, .int ia0_10, .int ia0_11, .int ia0_12, .int ia0_13, .int ia0_14, .int ia0_15, .ref ha0_16, .ref ha0_17, .ref ha0_18, .ref ha0_19, .int ia0_20, .int ia0_21, .int ia0_22, .ref ha0_23, .int ia0_24, .int ia0_25, .int ia0_26, .int ia0_27, .int ia0_28, .ref ha0_29, .int ia0_30, .int ia0_31, .int ia0_32, .ref ha0_33, .ref ha0_34, .ref ha0_35, .int ia0_36, .int ia0_37]))] H := hP
  have hD : va_D A [(ha0_34, .inl (cI, 12, .inl f4)), (ha0, .inr (12, [.ref ha0_0, .ref ha0_1, .ref ha0_2, .ref ha0_3, .ref ha0_4, .ref ha0_5, .ref ha0_6, .ref ha0_7, .ref ha0_8, .int ia0_9, .int ia0_10, .int ia0_11, .int ia0_12, .int ia0_13, .int ia0_14, .int ia0_15, .ref ha0_16, .ref ha0_17, .ref ha0_18, .ref ha0_19, .int ia0_20, .int ia0_21, .int ia0_22, .ref ha0_23, .int ia0_24, .int ia0_25, .int ia0_26, .int ia0_27, .int ia0_28, .ref ha0_29, .int ia0_30, .int ia0_31, .int ia0_32, .ref ha0_33, .ref ha0_34, .ref ha0_35, .int ia0_36, .int ia0_37]))] := hD
  have hP9 := hP.sub (ws' := [(ha0_34, .inl (cI, 12, .inl f4)), (ha0, .inr (12, [.ref ha0_0, .ref ha0_1, .ref ha0_2, .ref ha0_3, .ref ha0_4, .ref ha0_5, .ref ha0_6, .ref ha0_7, .ref ha0_8, .int ia0_9, .int ia0_10, .int ia0_11, .int ia0_12, .int ia0_13, .int ia0_14, .int ia0_15, .ref ha0_16, .ref ha0_17, .ref ha0_18, .ref ha0_19, .int ia0_20, .int ia0_21, .int ia0_22, .ref ha0_23, .int ia0_24, .int ia0_25, .int ia0_26, .int ia0_27, .int ia0_28, .ref ha0_29, .int ia0_30, .int ia0_31, .int ia0_32, .ref ha0_33, .ref ha0_34, .ref ha0_35, .int ia0_36, .int ia0_37]))]) [0, 1] rfl
  have hD9 := hD.sub (ws' := [(ha0_34, .inl (cI, 12, .inl f4)), (ha0, .inr (12, [.ref ha0_0, .ref ha0_1, .ref ha0_2, .ref ha0_3, .ref ha0_4, .ref ha0_5, .ref ha0_6, .ref ha0_7, .ref ha0_8, .int ia0_9, .int ia0_10, .int ia0_11, .int ia0_12, .int ia0_13, .int ia0_14, .int ia0_15, .ref ha0_16, .ref ha0_17, .ref ha0_18, .ref ha0_19, .int ia0_20, .int ia0_21, .int ia0_22, .ref ha0_23, .int ia0_24, .int ia0_25, .int ia0_26, .int ia0_27, .int ia0_28, .ref ha0_29, .int ia0_30, .int ia0_31, .int ia0_32, .ref ha0_33, .ref ha0_34, .ref ha0_35, .int ia0_36, .int ia0_37]))]) [0, 1] (by decide) rfl
  exact W.vret hx hb hr (fun t ht hW => ⟨⟨(fun k => [].getD k 0, fun k => [f4].getD k (fun _ => 0)), rfl, (show (∀ k, 0 ≤ (f4 k).toInt ∧ (f4 k).toInt ≤ 11) ∧ (True) from ⟨hBf4, trivial⟩), by rw [ht]; exact hP9, hD9⟩, hS.F ht⟩) hS.2.2 dX12_changes_26
set_option maxRecDepth 20000 in
theorem edX12_draw_0 : decode cX12_draw 0 = .ok (.aload_n 0, 1) ∧ decode cX12_draw 1 = .ok (.aload_n 0, 1) ∧ decode cX12_draw 2 = .ok (.getfield 279, 3) ∧ decode cX12_draw 5 = .ok (.ldc_w 282, 3) ∧ decode cX12_draw 8 = .ok (.imul, 1) ∧ decode cX12_draw 9 = .ok (.sipush 12345, 3) ∧ decode cX12_draw 12 = .ok (.iadd, 1) ∧ decode cX12_draw 13 = .ok (.putfield 279, 3) ∧ decode cX12_draw 16 = .ok (.aload_n 0, 1) ∧ decode cX12_draw 17 = .ok (.getfield 279, 3) ∧ decode cX12_draw 20 = .ok (.ldc_w 283, 3) ∧ decode cX12_draw 23 = .ok (.iand, 1) := by decide +kernel
theorem dX12_draw_0 : decode cX12_draw 0 = .ok (.aload_n 0, 1) := edX12_draw_0.1
theorem dX12_draw_1 : decode cX12_draw 1 = .ok (.aload_n 0, 1) := edX12_draw_0.2.1
theorem dX12_draw_2 : decode cX12_draw 2 = .ok (.getfield 279, 3) := edX12_draw_0.2.2.1
theorem dX12_draw_5 : decode cX12_draw 5 = .ok (.ldc_w 282, 3) := edX12_draw_0.2.2.2.1
theorem dX12_draw_8 : decode cX12_draw 8 = .ok (.imul, 1) := edX12_draw_0.2.2.2.2.1
theorem dX12_draw_9 : decode cX12_draw 9 = .ok (.sipush 12345, 3) := edX12_draw_0.2.2.2.2.2.1
theorem dX12_draw_12 : decode cX12_draw 12 = .ok (.iadd, 1) := edX12_draw_0.2.2.2.2.2.2.1
theorem dX12_draw_13 : decode cX12_draw 13 = .ok (.putfield 279, 3) := edX12_draw_0.2.2.2.2.2.2.2.1
theorem dX12_draw_16 : decode cX12_draw 16 = .ok (.aload_n 0, 1) := edX12_draw_0.2.2.2.2.2.2.2.2.1
theorem dX12_draw_17 : decode cX12_draw 17 = .ok (.getfield 279, 3) := edX12_draw_0.2.2.2.2.2.2.2.2.2.1
theorem dX12_draw_20 : decode cX12_draw 20 = .ok (.ldc_w 283, 3) := edX12_draw_0.2.2.2.2.2.2.2.2.2.2.1
theorem dX12_draw_23 : decode cX12_draw 23 = .ok (.iand, 1) := edX12_draw_0.2.2.2.2.2.2.2.2.2.2.2
set_option maxRecDepth 20000 in
theorem edX12_draw_24 : decode cX12_draw 24 = .ok (.ldc_w 284, 3) ∧ decode cX12_draw 27 = .ok (.idiv, 1) ∧ decode cX12_draw 28 = .ok (.iload_n 1, 1) ∧ decode cX12_draw 29 = .ok (.irem, 1) ∧ decode cX12_draw 30 = .ok (.ireturn, 1) := by decide +kernel
theorem dX12_draw_24 : decode cX12_draw 24 = .ok (.ldc_w 284, 3) := edX12_draw_24.1
theorem dX12_draw_27 : decode cX12_draw 27 = .ok (.idiv, 1) := edX12_draw_24.2.1
theorem dX12_draw_28 : decode cX12_draw 28 = .ok (.iload_n 1, 1) := edX12_draw_24.2.2.1
theorem dX12_draw_29 : decode cX12_draw 29 = .ok (.irem, 1) := edX12_draw_24.2.2.2.1
theorem dX12_draw_30 : decode cX12_draw 30 = .ok (.ireturn, 1) := edX12_draw_24.2.2.2.2
noncomputable def voX12_draw : List Cond := [.fieldLink RX12 279 "EachOnHisCueModel" "lots" "I", .constant RX12 282 (1103515245), .constant RX12 283 (2147483647), .constant RX12 284 (65536)]
noncomputable def vsX12_draw : List Cond := .code yX12_draw cX12_draw 2 (some .int) :: (voX12_draw ++ (wsX120))
theorem zgX12_draw : zGd vsX12_draw := z_gdC rfl (z_gdA (z_gdO (by decide +kernel) : zGd voX12_draw) (zgX12))
theorem in_X12_draw_X12 : ∀ w ∈ wsX120, w ∈ vsX12_draw := fun _ h => List.mem_cons_of_mem _ (List.mem_append_right _ (h))
set_option maxHeartbeats 4000000 in
set_option maxRecDepth 100000 in
theorem wX12_draw (l : Launch) (dC : Nat → ClassId) (dI : Nat → Nat → Nat) (cI cQ : ClassId) (ha0 ha0_0 ha0_1 ha0_2 ha0_3 ha0_4 ha0_5 ha0_6 ha0_7 ha0_8 ha0_16 ha0_17 ha0_18 ha0_19 ha0_23 ha0_29 ha0_33 ha0_34 ha0_35 : Nat) (ia0_9 : Int32) (hia0_9l : 0 ≤ ia0_9.toInt) (hia0_9h : ia0_9.toInt ≤ 5) (ia0_10 : Int32) (hia0_10l : 0 ≤ ia0_10.toInt) (hia0_10h : ia0_10.toInt ≤ 12) (ia0_11 : Int32) (ia0_12 : Int32) (ia0_13 : Int32) (ia0_14 : Int32) (hia0_14l : (-9) ≤ ia0_14.toInt) (hia0_14h : ia0_14.toInt ≤ 11) (ia0_15 : Int32) (ia0_20 : Int32) (hia0_20l : 0 ≤ ia0_20.toInt) (hia0_20h : ia0_20.toInt ≤ 80) (ia0_21 : Int32) (hia0_21l : 0 ≤ ia0_21.toInt) (hia0_21h : ia0_21.toInt ≤ 80) (ia0_22 : Int32) (hia0_22l : 0 ≤ ia0_22.toInt) (hia0_22h : ia0_22.toInt ≤ 40) (ia0_24 : Int32) (hia0_24l : 0 ≤ ia0_24.toInt) (hia0_24h : ia0_24.toInt ≤ 1) (ia0_25 : Int32) (hia0_25l : 0 ≤ ia0_25.toInt) (hia0_25h : ia0_25.toInt ≤ 1) (ia0_26 : Int32) (hia0_26l : 0 ≤ ia0_26.toInt) (hia0_26h : ia0_26.toInt ≤ 300) (ia0_27 : Int32) (hia0_27l : (-9) ≤ ia0_27.toInt) (hia0_27h : ia0_27.toInt ≤ 11) (ia0_28 : Int32) (ia0_30 : Int32) (hia0_30l : 0 ≤ ia0_30.toInt) (hia0_30h : ia0_30.toInt ≤ 60) (ia0_31 : Int32) (ia0_32 : Int32) (hia0_32l : 0 ≤ ia0_32.toInt) (hia0_32h : ia0_32.toInt ≤ 1) (ia0_36 : Int32) (hia0_36l : 0 ≤ ia0_36.toInt) (hia0_36h : ia0_36.toInt ≤ 12) (ia0_37 : Int32) (p1 : Int32) (hp1l : 1 ≤ p1.toInt) (hp1h : p1.toInt ≤ 5) (sz : Nat) : Met l yX12_draw vsX12_draw ({ frames := 0, cells := 0, slots := 0, locals := 0 }) (va_Pc [.ref ha0, .int p1] (zB dC dI cI cQ [(ha0, .inr (12, [.ref ha0_0, .ref ha0_1, .ref ha0_2, .ref ha0_3, .ref ha0_4, .ref ha0_5, .ref ha0_6, .ref ha0_7, .ref ha0_8, .int ia0_9, .int ia0_10, .int ia0_11, .int ia0_12, .int ia0_13, .int ia0_14, .int ia0_15, .ref ha0_16, .ref ha0_17, .ref ha0_18, .ref ha0_19, .int ia0_20, .int ia0_21, .int ia0_22, .ref ha0_23, .int ia0_24, .int ia0_25, .int ia0_26, .int ia0_27, .int ia0_28, .ref ha0_29, .int ia0_30, .int ia0_31, .int ia0_32, .ref ha0_33, .ref ha0_34, .ref ha0_35, .int ia0_36, .int ia0_37]))] sz)) (zWi dC dI (va_A [(ha0, .inr (12, [.ref ha0_0, .ref ha0_1, .ref ha0_2, .ref ha0_3, .ref ha0_4, .ref ha0_5, .ref ha0_6, .ref ha0_7, .ref ha0_8, .int ia0_9, .int ia0_10, .int ia0_11, .int ia0_12, .int ia0_13, .int ia0_14, .int ia0_15, .ref ha0_16, .ref ha0_17, .ref ha0_18, .ref ha0_19, .int ia0_20, .int ia0_21, .int ia0_22, .ref ha0_23, .int ia0_24, .int ia0_25, .int ia0_26, .int ia0_27, .int ia0_28, .ref ha0_29, .int ia0_30, .int ia0_31, .int ia0_32, .ref ha0_33, .ref ha0_34, .ref ha0_35, .int ia0_36, .int ia0_37]))] sz) (fun u => [(ha0, .inr (12, [.ref ha0_0, .ref ha0_1, .ref ha0_2, .ref ha0_3, .ref ha0_4, .ref ha0_5, .ref ha0_6, .ref ha0_7, .ref ha0_8, .int ia0_9, .int ia0_10, .int ia0_11, .int ia0_12, .int ia0_13, .int ia0_14, .int ia0_15, .ref ha0_16, .ref ha0_17, .ref ha0_18, .ref ha0_19, .int ia0_20, .int ia0_21, .int ia0_22, .ref ha0_23, .int ia0_24, .int ia0_25, .int ia0_26, .int ia0_27, .int ia0_28, .ref ha0_29, .int ia0_30, .int ia0_31, .int ia0_32, .ref ha0_33, .ref ha0_34, .ref ha0_35, .int ia0_36, .int (u.1 0)]))]) (fun r u => ((-2147483648) ≤ (u.1 0).toInt ∧ (u.1 0).toInt ≤ 2147483647) ∧ ((-2147483648) ≤ r.toInt ∧ r.toInt ≤ 2147483647) ∧ True)) 0 0 (va_A [(ha0, .inr (12, [.ref ha0_0, .ref ha0_1, .ref ha0_2, .ref ha0_3, .ref ha0_4, .ref ha0_5, .ref ha0_6, .ref ha0_7, .ref ha0_8, .int ia0_9, .int ia0_10, .int ia0_11, .int ia0_12, .int ia0_13, .int ia0_14, .int ia0_15, .ref ha0_16, .ref ha0_17, .ref ha0_18, .ref ha0_19, .int ia0_20, .int ia0_21, .int ia0_22, .ref ha0_23, .int ia0_24, .int ia0_25, .int ia0_26, .int ia0_27, .int ia0_28, .ref ha0_29, .int ia0_30, .int ia0_31, .int ia0_32, .ref ha0_33, .ref ha0_34, .ref ha0_35, .int ia0_36, .int ia0_37]))] sz) := by
  refine Met.ofW (cc := cX12_draw) (maxL := 2) (ret := (some .int)) (by decide) rfl ?_
  intro p e s m args below meth c s₁ B hml hv
  obtain ⟨rfl, hsz, hP, hZ, hD0⟩ := hv
  obtain ⟨hK, hAO, hN⟩ := id hZ
  have hx := B.exec
  have hb := B.bytes
  have hr := B.returns
  have hts := atoms_spec (ws := vsX12_draw) B.pre
  have hown : s.vm.findClass RX12 = some m.cls := findClass_of_methodNamed B.named
  have hlocks := B.notSynchronized
  subst hsz
  have hD := hD0.self (sz := s.heap.size)
  generalize hAe : va_A [(ha0, .inr (12, [.ref ha0_0, .ref ha0_1, .ref ha0_2, .ref ha0_3, .ref ha0_4, .ref ha0_5, .ref ha0_6, .ref ha0_7, .ref ha0_8, .int ia0_9, .int ia0_10, .int ia0_11, .int ia0_12, .int ia0_13, .int ia0_14, .int ia0_15, .ref ha0_16, .ref ha0_17, .ref ha0_18, .ref ha0_19, .int ia0_20, .int ia0_21, .int ia0_22, .ref ha0_23, .int ia0_24, .int ia0_25, .int ia0_26, .int ia0_27, .int ia0_28, .ref ha0_29, .int ia0_30, .int ia0_31, .int ia0_32, .ref ha0_33, .ref ha0_34, .ref ha0_35, .int ia0_36, .int ia0_37]))] s.heap.size = A at hD ⊢
  have hA : ∀ q : Nat, s.heap.size ≤ q → A q := fun q h => by rw [← hAe]; exact Or.inr h
  have hS : va_S A s.heap s.heap [] := va_S.rf
  have hP : va_P (dC, dI) vwCl [(ha0, .inr (12, [.ref ha0_0, .ref ha0_1, .ref ha0_2, .ref ha0_3, .ref ha0_4, .ref ha0_5, .ref ha0_6, .ref ha0_7, .ref ha0_8, .int ia0_9, .int ia0_10, .int ia0_11, .int ia0_12, .int ia0_13, .int ia0_14, .int ia0_15, .ref ha0_16, .ref ha0_17, .ref ha0_18, .ref ha0_19, .int ia0_20, .int ia0_21, .int ia0_22, .ref ha0_23, .int ia0_24, .int ia0_25, .int ia0_26, .int ia0_27, .int ia0_28, .ref ha0_29, .int ia0_30, .int ia0_31, .int ia0_32, .ref ha0_33, .ref ha0_34, .ref ha0_35, .int ia0_36, .int ia0_37]))] s.heap := hP
  have hl := lv_entry ([.ref ha0, .int p1]) (n := 2) (Nat.le_of_ble_eq_true rfl)
  rw [lg_entry_eq]
  generalize (lg_sl ([.ref ha0, .int p1]) ++ List.replicate (2 - (lg_sl ([.ref ha0, .int p1])).length) Slot.unset).toArray = ls at hl ⊢
  have hl : lv_has ls 2 [(0, .ref ha0), (1, .int p1)] := hl
  refine lv_aload_n hx hb dX12_draw_0 rfl (lv_at hl 0 rfl) ?_
  refine lv_aload_n hx hb dX12_draw_1 rfl (lv_at hl 0 rfl) ?_
  refine va_get (D := (dC, dI)) (ci := 12) (v := .int ia0_37) (C := RX12) (T := TX12) (N := 38) hx hb hts in_X12_draw_X12 hown hK hP 0 rfl rfl 37 (by decide) (hts (.fieldLink RX12 279 "EachOnHisCueModel" "lots" "I") (by decide +kernel)) (fun _ h9 => h9) rfl dX12_draw_2 ?_
  refine lv_ldcw (own := RX12) (v := 1103515245) hx hb hown (hts (.constant RX12 282 (1103515245)) (by decide +kernel)) dX12_draw_5 ?_
  refine lv_imul hx hb dX12_draw_8 ?_
  refine lv_topi (fun y1 ey1 => ?_)
  refine lv_sipush (v := 12345) hx hb dX12_draw_9 (by decide) ?_
  refine lv_iadd hx hb dX12_draw_12 ?_
  refine lv_topi (fun y2 ey2 => ?_)
  refine va_put (D := (dC, dI)) (ci := 12) (v := .int y2) (ty := .int) (C := RX12) (T := TX12) (N := 38) hx hb hts in_X12_draw_X12 tyX12 tyX12_ok nmX12 hown hK hP hD hS 0 rfl rfl 37 (by decide) (hts (.fieldLink RX12 279 "EachOnHisCueModel" "lots" "I") (by decide +kernel)) (fun _ h9 => h9) rfl (by decide +kernel) rfl rfl (Nat.le_of_ble_eq_true rfl) dX12_draw_13 (fun H locs hP hD hS => ?_)
  have hP : va_P (dC, dI) vwCl [(ha0, .inr (12, [.ref ha0_0, .ref ha0_1, .ref ha0_2, .ref ha0_3, .ref ha0_4, .ref ha0_5, .ref ha0_6, .ref ha0_7, .ref ha0_8, .int ia0_9, .int ia0_10, .int ia0_11, .int ia0_12, .int ia0_13, .int ia0_14, .int ia0_15, .ref ha0_16, .ref ha0_17, .ref ha0_18, .ref ha0_19, .int ia0_20, .int ia0_21, .int ia0_22, .ref ha0_23, .int ia0_24, .int ia0_25, .int ia0_26, .int ia0_27, .int ia0_28, .ref ha0_29, .int ia0_30, .int ia0_31, .int ia0_32, .ref ha0_33, .ref ha0_34, .ref ha0_35, .int ia0_36, .int y2]))] H := hP
  have hD : va_D A [(ha0, .inr (12, [.ref ha0_0, .ref ha0_1, .ref ha0_2, .ref ha0_3, .ref ha0_4, .ref ha0_5, .ref ha0_6, .ref ha0_7, .ref ha0_8, .int ia0_9, .int ia0_10, .int ia0_11, .int ia0_12, .int ia0_13, .int ia0_14, .int ia0_15, .ref ha0_16, .ref ha0_17, .ref ha0_18, .ref ha0_19, .int ia0_20, .int ia0_21, .int ia0_22, .ref ha0_23, .int ia0_24, .int ia0_25, .int ia0_26, .int ia0_27, .int ia0_28, .ref ha0_29, .int ia0_30, .int ia0_31, .int ia0_32, .ref ha0_33, .ref ha0_34, .ref ha0_35, .int ia0_36, .int y2]))] := hD
  refine lv_aload_n hx hb dX12_draw_16 rfl (lv_at hl 0 rfl) ?_
  refine va_get (D := (dC, dI)) (ci := 12) (v := .int y2) (C := RX12) (T := TX12) (N := 38) hx hb hts in_X12_draw_X12 hown hK hP 0 rfl rfl 37 (by decide) (hts (.fieldLink RX12 279 "EachOnHisCueModel" "lots" "I") (by decide +kernel)) (fun _ h9 => h9) rfl dX12_draw_17 ?_
  refine lv_ldcw (own := RX12) (v := 2147483647) hx hb hown (hts (.constant RX12 283 (2147483647)) (by decide +kernel)) dX12_draw_20 ?_
  refine lv_iand hx hb dX12_draw_23 ?_
  refine lv_topi (fun y3 ey3 => ?_)
  refine lv_ldcw (own := RX12) (v := 65536) hx hb hown (hts (.constant RX12 284 (65536)) (by decide +kernel)) dX12_draw_24 ?_
  refine lv_idiv hx hb dX12_draw_27 (by decide) ?_
  refine lv_topi (fun y4 ey4 => ?_)
  refine lv_iload_n hx hb dX12_draw_28 rfl (lv_at hl 1 rfl) ?_
  refine lv_irem hx hb dX12_draw_29 (z_n0 (by omega)) ?_
  refine lv_topi (fun y5 ey5 => ?_)
  have hP9 := hP.sub (ws' := [(ha0, .inr (12, [.ref ha0_0, .ref ha0_1, .ref ha0_2, .ref ha0_3, .ref ha0_4, .ref ha0_5, .ref ha0_6, .ref ha0_7, .ref ha0_8, .int ia0_9, .int ia0_10, .int ia0_11, .int ia0_12, .int ia0_13, .int ia0_14, .int ia0_15, .ref ha0_16, .ref ha0_17, .ref ha0_18, .ref ha0_19, .int ia0_20, .int ia0_21, .int ia0_22, .ref ha0_23, .int ia0_24, .int ia0_25, .int ia0_26, .int ia0_27, .int ia0_28, .ref ha0_29, .int ia0_30, .int ia0_31, .int ia0_32, .ref ha0_33, .ref ha0_34, .ref ha0_35, .int ia0_36, .int y2]))]) [0] rfl
  have hD9 := hD.sub (ws' := [(ha0, .inr (12, [.ref ha0_0, .ref ha0_1, .ref ha0_2, .ref ha0_3, .ref ha0_4, .ref ha0_5, .ref ha0_6, .ref ha0_7, .ref ha0_8, .int ia0_9, .int ia0_10, .int ia0_11, .int ia0_12, .int ia0_13, .int ia0_14, .int ia0_15, .ref ha0_16, .ref ha0_17, .ref ha0_18, .ref ha0_19, .int ia0_20, .int ia0_21, .int ia0_22, .ref ha0_23, .int ia0_24, .int ia0_25, .int ia0_26, .int ia0_27, .int ia0_28, .ref ha0_29, .int ia0_30, .int ia0_31, .int ia0_32, .ref ha0_33, .ref ha0_34, .ref ha0_35, .int ia0_36, .int y2]))]) [0] (by decide) rfl
  exact W.iret (v := y5) hx hb hr (fun t ht hW => ⟨⟨y5, (fun k => [y2].getD k 0, fun k => [].getD k (fun _ => 0)), rfl, (show ((-2147483648) ≤ (y2 : Int32).toInt ∧ (y2 : Int32).toInt ≤ 2147483647) ∧ ((-2147483648) ≤ (y5 : Int32).toInt ∧ (y5 : Int32).toInt ≤ 2147483647) ∧ (True) from ⟨⟨(z_lo _), (z_hi _)⟩, ⟨z_lo _, z_hi _⟩, trivial⟩), by rw [ht]; exact hP9, hD9⟩, hS.F ht⟩) hS.2.2 dX12_draw_30
