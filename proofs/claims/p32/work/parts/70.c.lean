def FX12_saidWords (fa0_5 : Nat → Int32) (ia0_27 : Int32) (p1 : Int32) : Int32 := (if p1 = ia0_27 then ((fa0_5 (p1).toNatClampNeg) + (1 : Int32)) else ((fa0_5 (p1).toNatClampNeg) + (0 : Int32)))
set_option maxHeartbeats 4000000 in
set_option maxRecDepth 100000 in
theorem rX12_saidWords_F (l : Launch) (dC : Nat → ClassId) (dI : Nat → Nat → Nat) (cI cQ : ClassId) (ha0 ha0_5 ha0_0 ha0_1 ha0_2 ha0_3 ha0_4 ha0_6 ha0_7 ha0_8 ha0_16 ha0_17 ha0_18 ha0_19 ha0_23 ha0_29 ha0_33 ha0_34 ha0_35 : Nat) (fa0_5 : Nat → Int32) (hBfa0_5 : ∀ k, 0 ≤ (fa0_5 k).toInt ∧ (fa0_5 k).toInt ≤ 4) (ia0_9 : Int32) (hia0_9l : 0 ≤ ia0_9.toInt) (hia0_9h : ia0_9.toInt ≤ 5) (ia0_10 : Int32) (hia0_10l : 0 ≤ ia0_10.toInt) (hia0_10h : ia0_10.toInt ≤ 12) (ia0_11 : Int32) (ia0_12 : Int32) (ia0_13 : Int32) (ia0_14 : Int32) (hia0_14l : (-9) ≤ ia0_14.toInt) (hia0_14h : ia0_14.toInt ≤ 11) (ia0_15 : Int32) (ia0_20 : Int32) (hia0_20l : 0 ≤ ia0_20.toInt) (hia0_20h : ia0_20.toInt ≤ 80) (ia0_21 : Int32) (hia0_21l : 0 ≤ ia0_21.toInt) (hia0_21h : ia0_21.toInt ≤ 80) (ia0_22 : Int32) (hia0_22l : 0 ≤ ia0_22.toInt) (hia0_22h : ia0_22.toInt ≤ 40) (ia0_24 : Int32) (hia0_24l : 0 ≤ ia0_24.toInt) (hia0_24h : ia0_24.toInt ≤ 1) (ia0_25 : Int32) (hia0_25l : 0 ≤ ia0_25.toInt) (hia0_25h : ia0_25.toInt ≤ 1) (ia0_26 : Int32) (hia0_26l : 0 ≤ ia0_26.toInt) (hia0_26h : ia0_26.toInt ≤ 300) (ia0_27 : Int32) (hia0_27l : (-9) ≤ ia0_27.toInt) (hia0_27h : ia0_27.toInt ≤ 11) (ia0_28 : Int32) (ia0_30 : Int32) (hia0_30l : 0 ≤ ia0_30.toInt) (hia0_30h : ia0_30.toInt ≤ 60) (ia0_31 : Int32) (ia0_32 : Int32) (hia0_32l : 0 ≤ ia0_32.toInt) (hia0_32h : ia0_32.toInt ≤ 1) (ia0_36 : Int32) (hia0_36l : 0 ≤ ia0_36.toInt) (hia0_36h : ia0_36.toInt ≤ 12) (ia0_37 : Int32) (p1 : Int32) (hp1l : 0 ≤ p1.toInt) (hp1h : p1.toInt ≤ 11) : Met l yX12_saidWords vsX12_saidWords ({ frames := 0, cells := 0, slots := 0, locals := 0 }) (va_Pc [.ref ha0, .int p1] (zRB dC dI cI cQ [(ha0_5, .inl (cI, 12, .inl fa0_5)), (ha0, .inr (12, [.ref ha0_0, .ref ha0_1, .ref ha0_2, .ref ha0_3, .ref ha0_4, .ref ha0_5, .ref ha0_6, .ref ha0_7, .ref ha0_8, .int ia0_9, .int ia0_10, .int ia0_11, .int ia0_12, .int ia0_13, .int ia0_14, .int ia0_15, .ref ha0_16, .ref ha0_17, .ref ha0_18, .ref ha0_19, .int ia0_20, .int ia0_21, .int ia0_22, .ref ha0_23, .int ia0_24, .int ia0_25, .int ia0_26, .int ia0_27, .int ia0_28, .ref ha0_29, .int ia0_30, .int ia0_31, .int ia0_32, .ref ha0_33, .ref ha0_34, .ref ha0_35, .int ia0_36, .int ia0_37]))])) (vp_Si (fun r => 0 ≤ r.toInt ∧ r.toInt ≤ 5 ∧ (r.toInt = (fa0_5 p1.toNatClampNeg).toInt + (if p1.toInt = ia0_27.toInt then 1 else 0)) ∧ r = FX12_saidWords fa0_5 ia0_27 p1)) 0 0 (fun _ => False) := by
  refine Met.ofW (cc := cX12_saidWords) (maxL := 2) (ret := (some .int)) (by decide) rfl ?_
  intro p e s m args below meth c s₁ B hml hv
  obtain ⟨rfl, hP, hZ⟩ := hv
  obtain ⟨hK, hAO, hN⟩ := id hZ
  have hx := B.exec
  have hb := B.bytes
  have hr := B.returns
  have hts := atoms_spec (ws := vsX12_saidWords) B.pre
  have hown : s.vm.findClass RX12 = some m.cls := findClass_of_methodNamed B.named
  have hlocks := B.notSynchronized
  have hl := lv_entry ([.ref ha0, .int p1]) (n := 2) (Nat.le_of_ble_eq_true rfl)
  rw [lg_entry_eq]
  generalize (lg_sl ([.ref ha0, .int p1]) ++ List.replicate (2 - (lg_sl ([.ref ha0, .int p1])).length) Slot.unset).toArray = ls at hl ⊢
  have hl : lv_has ls 2 [(0, .ref ha0), (1, .int p1)] := hl
  refine lv_aload_n hx hb dX12_saidWords_0 rfl (lv_at hl 0 rfl) ?_
  refine va_get (D := (dC, dI)) (ci := 12) (v := .ref ha0_5) (C := RX12) (T := TX12) (N := 38) hx hb hts in_X12_saidWords_X12 hown hK hP 1 rfl rfl 5 (by decide) (hts (.fieldLink RX12 25 "EachOnHisCueModel" "many" "[I") (by decide +kernel)) (fun _ h9 => h9) rfl dX12_saidWords_1 ?_
  refine lv_iload_n hx hb dX12_saidWords_4 rfl (lv_at hl 1 rfl) ?_
  refine va_iald hx hb hK hP 0 0 rfl rfl (z_in (by omega) (by omega)) dX12_saidWords_5 ?_
  refine lv_topi (fun y1 ey1 => ?_)
  have gy1 : y1.toInt = (fa0_5 (p1 : Int32).toNatClampNeg).toInt := by rw [ey1]
  have hy1 : 0 ≤ y1.toInt ∧ y1.toInt ≤ 4 := by rw [ey1]; exact hBfa0_5 _
  obtain ⟨hy1, hy1_⟩ := hy1
  refine lv_iload_n hx hb dX12_saidWords_6 rfl (lv_at hl 1 rfl) ?_
  refine lv_aload_n hx hb dX12_saidWords_7 rfl (lv_at hl 0 rfl) ?_
  refine va_get (D := (dC, dI)) (ci := 12) (v := .int ia0_27) (C := RX12) (T := TX12) (N := 38) hx hb hts in_X12_saidWords_X12 hown hK hP 1 rfl rfl 27 (by decide) (hts (.fieldLink RX12 59 "EachOnHisCueModel" "joked" "I") (by decide +kernel)) (fun _ h9 => h9) rfl dX12_saidWords_8 ?_
  refine lv_icmp_ne (tgt := 18) hx hb dX12_saidWords_11 (by decide) (fun hc2 => ?_) (fun hc2 => ?_)
  · have q3 : p1.toInt ≠ ia0_27.toInt := z_ne rfl rfl hc2
    refine lv_iconst (v := 0) hx hb dX12_saidWords_18 (by decide) ?_
    refine lv_iadd hx hb dX12_saidWords_19 ?_
    refine lv_topi (fun y4 ey4 => ?_)
    have hy4 : y4.toInt = y1.toInt + 0 := by rw [ey4]; exact z_add rfl (by decide) (by omega) (by omega)
    exact W.iret (v := y4) hx hb hr (fun t ht hW => ⟨y4, rfl, ⟨by first | decide | omega, by first | decide | omega, by first | omega | (intro _; omega) | (intro h; exact absurd h (by decide)) | (refine ⟨?_, ?_⟩ <;> omega) | (split <;> omega), by subst ey4 ey1; rw [FX12_saidWords, if_neg hc2]⟩, ht⟩) (fun _ h => absurd h List.not_mem_nil) dX12_saidWords_20
  · have q5 : p1.toInt = ia0_27.toInt := z_eq rfl rfl hc2
    refine lv_iconst (v := 1) hx hb dX12_saidWords_14 (by decide) ?_
    refine lv_goto (tgt := 19) hx hb dX12_saidWords_15 (by decide) ?_
    refine lv_iadd hx hb dX12_saidWords_19 ?_
    refine lv_topi (fun y6 ey6 => ?_)
    have hy6 : y6.toInt = y1.toInt + 1 := by rw [ey6]; exact z_add rfl (by decide) (by omega) (by omega)
    exact W.iret (v := y6) hx hb hr (fun t ht hW => ⟨y6, rfl, ⟨by first | decide | omega, by first | decide | omega, by first | omega | (intro _; omega) | (intro h; exact absurd h (by decide)) | (refine ⟨?_, ?_⟩ <;> omega) | (split <;> omega), by subst ey6 ey1; rw [FX12_saidWords, if_pos hc2]⟩, ht⟩) (fun _ h => absurd h List.not_mem_nil) dX12_saidWords_20
def FX12_saidWord (fa0_5 : Nat → Int32) (fa0_8 : Nat → Int32) (ia0_28 : Int32) (p1 : Int32) (p2 : Int32) : Int32 := (if p2 = (fa0_5 (p1).toNatClampNeg) then ia0_28 else (fa0_8 ((((5 : Int32) * p1) + p2)).toNatClampNeg))
set_option maxHeartbeats 4000000 in
set_option maxRecDepth 100000 in
theorem rX12_saidWord_F (l : Launch) (dC : Nat → ClassId) (dI : Nat → Nat → Nat) (cI cQ : ClassId) (ha0 ha0_5 ha0_8 ha0_0 ha0_1 ha0_2 ha0_3 ha0_4 ha0_6 ha0_7 ha0_16 ha0_17 ha0_18 ha0_19 ha0_23 ha0_29 ha0_33 ha0_34 ha0_35 : Nat) (fa0_5 : Nat → Int32) (hBfa0_5 : ∀ k, 0 ≤ (fa0_5 k).toInt ∧ (fa0_5 k).toInt ≤ 4) (fa0_8 : Nat → Int32) (ia0_9 : Int32) (hia0_9l : 0 ≤ ia0_9.toInt) (hia0_9h : ia0_9.toInt ≤ 5) (ia0_10 : Int32) (hia0_10l : 0 ≤ ia0_10.toInt) (hia0_10h : ia0_10.toInt ≤ 12) (ia0_11 : Int32) (ia0_12 : Int32) (ia0_13 : Int32) (ia0_14 : Int32) (hia0_14l : (-9) ≤ ia0_14.toInt) (hia0_14h : ia0_14.toInt ≤ 11) (ia0_15 : Int32) (ia0_20 : Int32) (hia0_20l : 0 ≤ ia0_20.toInt) (hia0_20h : ia0_20.toInt ≤ 80) (ia0_21 : Int32) (hia0_21l : 0 ≤ ia0_21.toInt) (hia0_21h : ia0_21.toInt ≤ 80) (ia0_22 : Int32) (hia0_22l : 0 ≤ ia0_22.toInt) (hia0_22h : ia0_22.toInt ≤ 40) (ia0_24 : Int32) (hia0_24l : 0 ≤ ia0_24.toInt) (hia0_24h : ia0_24.toInt ≤ 1) (ia0_25 : Int32) (hia0_25l : 0 ≤ ia0_25.toInt) (hia0_25h : ia0_25.toInt ≤ 1) (ia0_26 : Int32) (hia0_26l : 0 ≤ ia0_26.toInt) (hia0_26h : ia0_26.toInt ≤ 300) (ia0_27 : Int32) (hia0_27l : (-9) ≤ ia0_27.toInt) (hia0_27h : ia0_27.toInt ≤ 11) (ia0_28 : Int32) (ia0_30 : Int32) (hia0_30l : 0 ≤ ia0_30.toInt) (hia0_30h : ia0_30.toInt ≤ 60) (ia0_31 : Int32) (ia0_32 : Int32) (hia0_32l : 0 ≤ ia0_32.toInt) (hia0_32h : ia0_32.toInt ≤ 1) (ia0_36 : Int32) (hia0_36l : 0 ≤ ia0_36.toInt) (hia0_36h : ia0_36.toInt ≤ 12) (ia0_37 : Int32) (p1 : Int32) (hp1l : 0 ≤ p1.toInt) (hp1h : p1.toInt ≤ 11) (p2 : Int32) (hp2l : 0 ≤ p2.toInt) (hp2h : p2.toInt ≤ 4) : Met l yX12_saidWord vsX12_saidWord ({ frames := 0, cells := 0, slots := 0, locals := 0 }) (va_Pc [.ref ha0, .int p1, .int p2] (zRB dC dI cI cQ [(ha0_5, .inl (cI, 12, .inl fa0_5)), (ha0_8, .inl (cI, 60, .inl fa0_8)), (ha0, .inr (12, [.ref ha0_0, .ref ha0_1, .ref ha0_2, .ref ha0_3, .ref ha0_4, .ref ha0_5, .ref ha0_6, .ref ha0_7, .ref ha0_8, .int ia0_9, .int ia0_10, .int ia0_11, .int ia0_12, .int ia0_13, .int ia0_14, .int ia0_15, .ref ha0_16, .ref ha0_17, .ref ha0_18, .ref ha0_19, .int ia0_20, .int ia0_21, .int ia0_22, .ref ha0_23, .int ia0_24, .int ia0_25, .int ia0_26, .int ia0_27, .int ia0_28, .ref ha0_29, .int ia0_30, .int ia0_31, .int ia0_32, .ref ha0_33, .ref ha0_34, .ref ha0_35, .int ia0_36, .int ia0_37]))])) (vp_Si (fun r => (-2147483648) ≤ r.toInt ∧ r.toInt ≤ 2147483647 ∧ (r.toInt = zJw fa0_8 fa0_5 ia0_28 p1.toInt p2.toInt) ∧ r = FX12_saidWord fa0_5 fa0_8 ia0_28 p1 p2)) 0 0 (fun _ => False) := by
  refine Met.ofW (cc := cX12_saidWord) (maxL := 3) (ret := (some .int)) (by decide) rfl ?_
  intro p e s m args below meth c s₁ B hml hv
  obtain ⟨rfl, hP, hZ⟩ := hv
  obtain ⟨hK, hAO, hN⟩ := id hZ
  have hx := B.exec
  have hb := B.bytes
  have hr := B.returns
  have hts := atoms_spec (ws := vsX12_saidWord) B.pre
  have hown : s.vm.findClass RX12 = some m.cls := findClass_of_methodNamed B.named
  have hlocks := B.notSynchronized
  have hl := lv_entry ([.ref ha0, .int p1, .int p2]) (n := 3) (Nat.le_of_ble_eq_true rfl)
  rw [lg_entry_eq]
  generalize (lg_sl ([.ref ha0, .int p1, .int p2]) ++ List.replicate (3 - (lg_sl ([.ref ha0, .int p1, .int p2])).length) Slot.unset).toArray = ls at hl ⊢
  have hl : lv_has ls 3 [(0, .ref ha0), (1, .int p1), (2, .int p2)] := hl
  refine lv_iload_n hx hb dX12_saidWord_0 rfl (lv_at hl 2 rfl) ?_
  refine lv_aload_n hx hb dX12_saidWord_1 rfl (lv_at hl 0 rfl) ?_
  refine va_get (D := (dC, dI)) (ci := 12) (v := .ref ha0_5) (C := RX12) (T := TX12) (N := 38) hx hb hts in_X12_saidWord_X12 hown hK hP 2 rfl rfl 5 (by decide) (hts (.fieldLink RX12 25 "EachOnHisCueModel" "many" "[I") (by decide +kernel)) (fun _ h9 => h9) rfl dX12_saidWord_2 ?_
  refine lv_iload_n hx hb dX12_saidWord_5 rfl (lv_at hl 1 rfl) ?_
  refine va_iald hx hb hK hP 0 0 rfl rfl (z_in (by omega) (by omega)) dX12_saidWord_6 ?_
  refine lv_topi (fun y1 ey1 => ?_)
  have gy1 : y1.toInt = (fa0_5 (p1 : Int32).toNatClampNeg).toInt := by rw [ey1]
  have hy1 : 0 ≤ y1.toInt ∧ y1.toInt ≤ 4 := by rw [ey1]; exact hBfa0_5 _
  obtain ⟨hy1, hy1_⟩ := hy1
  refine lv_icmp_ne (tgt := 17) hx hb dX12_saidWord_7 (by decide) (fun hc2 => ?_) (fun hc2 => ?_)
  · have q3 : p2.toInt ≠ y1.toInt := z_ne rfl rfl hc2
    refine lv_aload_n hx hb dX12_saidWord_17 rfl (lv_at hl 0 rfl) ?_
    refine va_get (D := (dC, dI)) (ci := 12) (v := .ref ha0_8) (C := RX12) (T := TX12) (N := 38) hx hb hts in_X12_saidWord_X12 hown hK hP 2 rfl rfl 8 (by decide) (hts (.fieldLink RX12 34 "EachOnHisCueModel" "word" "[I") (by decide +kernel)) (fun _ h9 => h9) rfl dX12_saidWord_18 ?_
    refine lv_iconst (v := 5) hx hb dX12_saidWord_21 (by decide) ?_
    refine lv_iload_n hx hb dX12_saidWord_22 rfl (lv_at hl 1 rfl) ?_
    refine lv_imul hx hb dX12_saidWord_23 ?_
    refine lv_topi (fun y4 ey4 => ?_)
    have hy4 : y4.toInt = 5 * p1.toInt := by rw [ey4]; exact z_mul (by decide) rfl (by omega) (by omega)
    refine lv_iload_n hx hb dX12_saidWord_24 rfl (lv_at hl 2 rfl) ?_
    refine lv_iadd hx hb dX12_saidWord_25 ?_
    refine lv_topi (fun y5 ey5 => ?_)
    have hy5 : y5.toInt = y4.toInt + p2.toInt := by rw [ey5]; exact z_add rfl rfl (by omega) (by omega)
    refine va_iald hx hb hK hP 1 0 rfl rfl (z_in (by omega) (by omega)) dX12_saidWord_26 ?_
    refine lv_topi (fun y6 ey6 => ?_)
    have gy6 : y6.toInt = (fa0_8 (y5 : Int32).toNatClampNeg).toInt := by rw [ey6]
    exact W.iret (v := y6) hx hb hr (fun t ht hW => ⟨y6, rfl, ⟨z_lo _, z_hi _, (by exact z_jw2 gy1 (by omega) gy6 (by omega)), by subst ey6 ey5 ey4 ey1; rw [FX12_saidWord, if_neg hc2]⟩, ht⟩) (fun _ h => absurd h List.not_mem_nil) dX12_saidWord_27
  · have q7 : p2.toInt = y1.toInt := z_eq rfl rfl hc2
    refine lv_aload_n hx hb dX12_saidWord_10 rfl (lv_at hl 0 rfl) ?_
    refine va_get (D := (dC, dI)) (ci := 12) (v := .int ia0_28) (C := RX12) (T := TX12) (N := 38) hx hb hts in_X12_saidWord_X12 hown hK hP 2 rfl rfl 28 (by decide) (hts (.fieldLink RX12 172 "EachOnHisCueModel" "joke" "I") (by decide +kernel)) (fun _ h9 => h9) rfl dX12_saidWord_11 ?_
    refine lv_goto (tgt := 27) hx hb dX12_saidWord_14 (by decide) ?_
    exact W.iret (v := ia0_28) hx hb hr (fun t ht hW => ⟨ia0_28, rfl, ⟨z_lo _, z_hi _, (by exact z_jw1 gy1 (by omega)), by subst ey1; rw [FX12_saidWord, if_pos hc2]⟩, ht⟩) (fun _ h => absurd h List.not_mem_nil) dX12_saidWord_27
def FX12_doesEnd_L29_0 (fa0_5 : Nat → Int32) (fa0_8 : Nat → Int32) (ia0_27 : Int32) (ia0_28 : Int32) (p1 : Int32) (p2 : Int32) (p3 : Int32) : Nat → Int32 → Int32
  | 0, _ => 0
  | n + 1, v7 => (if (FX12_least p3 (fa0_5 ((p2 - (1 : Int32))).toNatClampNeg)) < v7 then (1 : Int32) else (if (FX12_saidWord fa0_5 fa0_8 ia0_28 p1 ((FX12_saidWords fa0_5 ia0_27 p1) - v7)) = (fa0_8 (((((5 : Int32) * (p2 - (1 : Int32))) + (fa0_5 ((p2 - (1 : Int32))).toNatClampNeg)) - v7)).toNatClampNeg) then (FX12_doesEnd_L29_0 fa0_5 fa0_8 ia0_27 ia0_28 p1 p2 p3  n (v7 + 1)) else (0 : Int32)))
def FX12_doesEnd (fa0_5 : Nat → Int32) (fa0_8 : Nat → Int32) (ia0_27 : Int32) (ia0_28 : Int32) (p1 : Int32) (p2 : Int32) (p3 : Int32) : Int32 := (if (FX12_least p3 (fa0_5 ((p2 - (1 : Int32))).toNatClampNeg)) ≤ (FX12_saidWords fa0_5 ia0_27 p1) then (FX12_doesEnd_L29_0 fa0_5 fa0_8 ia0_27 ia0_28 p1 p2 p3  ((6 - (1 : Int32).toInt).toNat + 1) (1 : Int32)) else (0 : Int32))
set_option maxHeartbeats 4000000 in
set_option maxRecDepth 100000 in
theorem rX12_doesEnd_F (l : Launch) (dC : Nat → ClassId) (dI : Nat → Nat → Nat) (cI cQ : ClassId) (ha0 ha0_5 ha0_8 ha0_0 ha0_1 ha0_2 ha0_3 ha0_4 ha0_6 ha0_7 ha0_16 ha0_17 ha0_18 ha0_19 ha0_23 ha0_29 ha0_33 ha0_34 ha0_35 : Nat) (fa0_5 : Nat → Int32) (hBfa0_5 : ∀ k, 0 ≤ (fa0_5 k).toInt ∧ (fa0_5 k).toInt ≤ 4) (fa0_8 : Nat → Int32) (ia0_9 : Int32) (hia0_9l : 0 ≤ ia0_9.toInt) (hia0_9h : ia0_9.toInt ≤ 5) (ia0_10 : Int32) (hia0_10l : 0 ≤ ia0_10.toInt) (hia0_10h : ia0_10.toInt ≤ 12) (ia0_11 : Int32) (ia0_12 : Int32) (ia0_13 : Int32) (ia0_14 : Int32) (hia0_14l : (-9) ≤ ia0_14.toInt) (hia0_14h : ia0_14.toInt ≤ 11) (ia0_15 : Int32) (ia0_20 : Int32) (hia0_20l : 0 ≤ ia0_20.toInt) (hia0_20h : ia0_20.toInt ≤ 80) (ia0_21 : Int32) (hia0_21l : 0 ≤ ia0_21.toInt) (hia0_21h : ia0_21.toInt ≤ 80) (ia0_22 : Int32) (hia0_22l : 0 ≤ ia0_22.toInt) (hia0_22h : ia0_22.toInt ≤ 40) (ia0_24 : Int32) (hia0_24l : 0 ≤ ia0_24.toInt) (hia0_24h : ia0_24.toInt ≤ 1) (ia0_25 : Int32) (hia0_25l : 0 ≤ ia0_25.toInt) (hia0_25h : ia0_25.toInt ≤ 1) (ia0_26 : Int32) (hia0_26l : 0 ≤ ia0_26.toInt) (hia0_26h : ia0_26.toInt ≤ 300) (ia0_27 : Int32) (hia0_27l : (-9) ≤ ia0_27.toInt) (hia0_27h : ia0_27.toInt ≤ 11) (ia0_28 : Int32) (ia0_30 : Int32) (hia0_30l : 0 ≤ ia0_30.toInt) (hia0_30h : ia0_30.toInt ≤ 60) (ia0_31 : Int32) (ia0_32 : Int32) (hia0_32l : 0 ≤ ia0_32.toInt) (hia0_32h : ia0_32.toInt ≤ 1) (ia0_36 : Int32) (hia0_36l : 0 ≤ ia0_36.toInt) (hia0_36h : ia0_36.toInt ≤ 12) (ia0_37 : Int32) (p1 : Int32) (hp1l : 0 ≤ p1.toInt) (hp1h : p1.toInt ≤ 11) (p2 : Int32) (hp2l : 1 ≤ p2.toInt) (hp2h : p2.toInt ≤ 11) (p3 : Int32) : Met l yX12_doesEnd vsX12_doesEnd ({ frames := 1, cells := 0, slots := 0, locals := 22 }) (va_Pc [.ref ha0, .int p1, .int p2, .int p3] (zRB dC dI cI cQ [(ha0_5, .inl (cI, 12, .inl fa0_5)), (ha0_8, .inl (cI, 60, .inl fa0_8)), (ha0, .inr (12, [.ref ha0_0, .ref ha0_1, .ref ha0_2, .ref ha0_3, .ref ha0_4, .ref ha0_5, .ref ha0_6, .ref ha0_7, .ref ha0_8, .int ia0_9, .int ia0_10, .int ia0_11, .int ia0_12, .int ia0_13, .int ia0_14, .int ia0_15, .ref ha0_16, .ref ha0_17, .ref ha0_18, .ref ha0_19, .int ia0_20, .int ia0_21, .int ia0_22, .ref ha0_23, .int ia0_24, .int ia0_25, .int ia0_26, .int ia0_27, .int ia0_28, .ref ha0_29, .int ia0_30, .int ia0_31, .int ia0_32, .ref ha0_33, .ref ha0_34, .ref ha0_35, .int ia0_36, .int ia0_37]))])) (vp_Si (fun r => 0 ≤ r.toInt ∧ r.toInt ≤ 1 ∧ r = FX12_doesEnd fa0_5 fa0_8 ia0_27 ia0_28 p1 p2 p3)) 0 0 (fun _ => False) := by
  refine Met.ofW (cc := cX12_doesEnd) (maxL := 6) (ret := (some .boolean)) (by decide) rfl ?_
  intro p e s m args below meth c s₁ B hml hv
  obtain ⟨rfl, hP, hZ⟩ := hv
  obtain ⟨hK, hAO, hN⟩ := id hZ
  have hx := B.exec
  have hb := B.bytes
  have hr := B.returns
  have hts := atoms_spec (ws := vsX12_doesEnd) B.pre
  have hown : s.vm.findClass RX12 = some m.cls := findClass_of_methodNamed B.named
  have hlocks := B.notSynchronized
  have hp3l := z_lo p3
  have hp3h := z_hi p3
  have hl := lv_entry ([.ref ha0, .int p1, .int p2, .int p3]) (n := 6) (Nat.le_of_ble_eq_true rfl)
  rw [lg_entry_eq]
  generalize (lg_sl ([.ref ha0, .int p1, .int p2, .int p3]) ++ List.replicate (6 - (lg_sl ([.ref ha0, .int p1, .int p2, .int p3])).length) Slot.unset).toArray = ls at hl ⊢
  have hl : lv_has ls 6 [(0, .ref ha0), (1, .int p1), (2, .int p2), (3, .int p3)] := hl
  refine lv_iload_n hx hb dX12_doesEnd_0 rfl (lv_at hl 3 rfl) ?_
  refine lv_aload_n hx hb dX12_doesEnd_1 rfl (lv_at hl 0 rfl) ?_
  refine va_get (D := (dC, dI)) (ci := 12) (v := .ref ha0_5) (C := RX12) (T := TX12) (N := 38) hx hb hts in_X12_doesEnd_X12 hown hK hP 2 rfl rfl 5 (by decide) (hts (.fieldLink RX12 25 "EachOnHisCueModel" "many" "[I") (by decide +kernel)) (fun _ h9 => h9) rfl dX12_doesEnd_2 ?_
  refine lv_iload_n hx hb dX12_doesEnd_5 rfl (lv_at hl 2 rfl) ?_
  refine lv_iconst (v := 1) hx hb dX12_doesEnd_6 (by decide) ?_
  refine lv_isub hx hb dX12_doesEnd_7 ?_
  refine lv_topi (fun y1 ey1 => ?_)
  have hy1 : y1.toInt = p2.toInt - 1 := by rw [ey1]; exact z_sub rfl (by decide) (by omega) (by omega)
  refine va_iald hx hb hK hP 0 0 rfl rfl (z_in (by omega) (by omega)) dX12_doesEnd_8 ?_
  refine lv_topi (fun y2 ey2 => ?_)
  have gy2 : y2.toInt = (fa0_5 (y1 : Int32).toNatClampNeg).toInt := by rw [ey2]
  have hy2 : 0 ≤ y2.toInt ∧ y2.toInt ≤ 4 := by rw [ey2]; exact hBfa0_5 _
  obtain ⟨hy2, hy2_⟩ := hy2
  refine z_rdi (va_runS (As := [.int p3, .int y2]) (rest := []) ⟨hx, hb, hml, hown, hts⟩ (rX12_least_F l dC dI cI cQ p3 y2) (va_cwS 2 hts gv_X12_doesEnd_X12_least_175 rfl rfl rfl (by decide +kernel) ⟨Nat.le_of_ble_eq_true rfl, Nat.le_of_ble_eq_true rfl⟩) ⟨z_blindR, z_preR hZ hP [] rfl⟩ rfl rfl hl.1 rfl (lv_room (Nat.le_of_ble_eq_true rfl)) dX12_doesEnd_9 ⟨Nat.le_of_ble_eq_true rfl, Nat.le_of_ble_eq_true rfl⟩) (fun y3 hy3 => ?_)
  obtain ⟨hy3_0, hy3_1, hy3_2, ey3⟩ := hy3
  refine lv_istore (lv' := [(4, .int y3), (0, .ref ha0), (1, .int p1), (2, .int p2), (3, .int p3)]) hx hb dX12_doesEnd_12 hl (by decide) rfl (fun ls hl => ?_)
  refine lv_aload_n hx hb dX12_doesEnd_14 rfl (lv_at hl 1 rfl) ?_
  refine lv_iload_n hx hb dX12_doesEnd_15 rfl (lv_at hl 2 rfl) ?_
  refine z_rdi (va_runV (As := [.int p1]) (rest := []) ⟨hx, hb, hml, hown, hts⟩ (rX12_saidWords_F l dC dI cI cQ ha0 ha0_5 ha0_0 ha0_1 ha0_2 ha0_3 ha0_4 ha0_6 ha0_7 ha0_8 ha0_16 ha0_17 ha0_18 ha0_19 ha0_23 ha0_29 ha0_33 ha0_34 ha0_35 fa0_5 hBfa0_5 ia0_9 hia0_9l hia0_9h ia0_10 hia0_10l hia0_10h ia0_11 ia0_12 ia0_13 ia0_14 hia0_14l hia0_14h ia0_15 ia0_20 hia0_20l hia0_20h ia0_21 hia0_21l hia0_21h ia0_22 hia0_22l hia0_22h ia0_24 hia0_24l hia0_24h ia0_25 hia0_25l hia0_25h ia0_26 hia0_26l hia0_26h ia0_27 hia0_27l hia0_27h ia0_28 ia0_30 hia0_30l hia0_30h ia0_31 ia0_32 hia0_32l hia0_32h ia0_36 hia0_36l hia0_36h ia0_37 p1 hp1l hp1h) (cwV 1 hts gv_X12_doesEnd_X12_saidWords_179 rfl rfl rfl (by decide +kernel) ⟨Nat.le_of_ble_eq_true rfl, Nat.le_of_ble_eq_true rfl⟩) ⟨z_blindR, va_recv hK hP (ci := 12) (q0 := 2) rfl rfl, z_preR hZ hP [0, 2] rfl⟩ rfl rfl hl.1 rfl (lv_room (Nat.le_of_ble_eq_true rfl)) dX12_doesEnd_16 ⟨Nat.le_of_ble_eq_true rfl, Nat.le_of_ble_eq_true rfl⟩) (fun y4 hy4 => ?_)
  obtain ⟨hy4_0, hy4_1, hy4_2, ey4⟩ := hy4
  refine lv_iload hx hb dX12_doesEnd_19 (lv_at hl 0 rfl) ?_
  refine lv_icmp_ge (tgt := 26) hx hb dX12_doesEnd_21 (by decide) (fun hc5 => ?_) (fun hc5 => ?_)
  · have q6 : y3.toInt ≤ y4.toInt := z_le rfl rfl hc5
    refine lv_iconst (v := 1) hx hb dX12_doesEnd_26 (by decide) ?_
    refine lv_istore (lv' := [(5, .int 1), (4, .int y3), (0, .ref ha0), (1, .int p1), (2, .int p2), (3, .int p3)]) hx hb dX12_doesEnd_27 hl (by decide) rfl (fun ls hl => ?_)
    have hL144 : ∀ (n : Nat) (v7 : Int32) (ls : Array Slot), 1 ≤ v7.toInt → v7.toInt ≤ 6 → (FX12_doesEnd fa0_5 fa0_8 ia0_27 ia0_28 p1 p2 p3 = FX12_doesEnd_L29_0 fa0_5 fa0_8 ia0_27 ia0_28 p1 p2 p3  n v7) → (6 - v7.toInt).toNat < n → lv_has ls 6 [(5, .int v7), (4, .int y3), (0, .ref ha0), (1, .int p1), (2, .int p2), (3, .int p3)] → W p l e (headSpec vsX12_doesEnd ({ frames := 1, cells := 0, slots := 0, locals := 22 })).room s m ([.ref ha0, .int p1, .int p2, .int p3] : List Value).toArray below meth c s.heap [] 0 0 (MQ below (vp_Si (fun r => 0 ≤ r.toInt ∧ r.toInt ≤ 1 ∧ r = FX12_doesEnd fa0_5 fa0_8 ia0_27 ia0_28 p1 p2 p3)) ([.ref ha0, .int p1, .int p2, .int p3] : List Value).toArray s 0 0 (fun _ => False)) (F0 m 29 ls []) := by
      intro n
      induction n with
      | zero =>
        intro v7 ls hi145_0 hi145_1 hi145_F hi145_m hl
        exact absurd hi145_m (Nat.not_lt_zero _)
      | succ n ih =>
        intro v7 ls hi145_0 hi145_1 hi145_F hi145_m hl
        have ih146 := ih
        refine lv_iload hx hb dX12_doesEnd_29 (lv_at hl 0 rfl) ?_
        refine lv_iload hx hb dX12_doesEnd_31 (lv_at hl 1 rfl) ?_
        refine lv_icmp_gt (tgt := 82) hx hb dX12_doesEnd_33 (by decide) (fun hc147 => ?_) (fun hc147 => ?_)
        · have q148 : y3.toInt < v7.toInt := z_lt rfl rfl hc147
          refine lv_iconst (v := 1) hx hb dX12_doesEnd_82 (by decide) ?_
          exact W.zret (v := 1) hx hb hr (rfl) (fun t ht hW => ⟨1, rfl, ⟨by first | decide | omega, by first | decide | omega, by subst ey4 ey3 ey2 ey1; rw [hi145_F, FX12_doesEnd_L29_0, if_pos hc147]⟩, ht⟩) (fun _ h => absurd h List.not_mem_nil) dX12_doesEnd_83
        · have q149 : v7.toInt ≤ y3.toInt := z_nlt rfl rfl hc147
          refine lv_aload_n hx hb dX12_doesEnd_36 rfl (lv_at hl 2 rfl) ?_
          refine lv_iload_n hx hb dX12_doesEnd_37 rfl (lv_at hl 3 rfl) ?_
          refine lv_aload_n hx hb dX12_doesEnd_38 rfl (lv_at hl 2 rfl) ?_
          refine lv_iload_n hx hb dX12_doesEnd_39 rfl (lv_at hl 3 rfl) ?_
          refine z_rdi (va_runV (As := [.int p1]) (rest := [.int p1, .ref ha0]) ⟨hx, hb, hml, hown, hts⟩ (rX12_saidWords_F l dC dI cI cQ ha0 ha0_5 ha0_0 ha0_1 ha0_2 ha0_3 ha0_4 ha0_6 ha0_7 ha0_8 ha0_16 ha0_17 ha0_18 ha0_19 ha0_23 ha0_29 ha0_33 ha0_34 ha0_35 fa0_5 hBfa0_5 ia0_9 hia0_9l hia0_9h ia0_10 hia0_10l hia0_10h ia0_11 ia0_12 ia0_13 ia0_14 hia0_14l hia0_14h ia0_15 ia0_20 hia0_20l hia0_20h ia0_21 hia0_21l hia0_21h ia0_22 hia0_22l hia0_22h ia0_24 hia0_24l hia0_24h ia0_25 hia0_25l hia0_25h ia0_26 hia0_26l hia0_26h ia0_27 hia0_27l hia0_27h ia0_28 ia0_30 hia0_30l hia0_30h ia0_31 ia0_32 hia0_32l hia0_32h ia0_36 hia0_36l hia0_36h ia0_37 p1 hp1l hp1h) (cwV 1 hts gv_X12_doesEnd_X12_saidWords_179 rfl rfl rfl (by decide +kernel) ⟨Nat.le_of_ble_eq_true rfl, Nat.le_of_ble_eq_true rfl⟩) ⟨z_blindR, va_recv hK hP (ci := 12) (q0 := 2) rfl rfl, z_preR hZ hP [0, 2] rfl⟩ rfl rfl hl.1 rfl (lv_room (Nat.le_of_ble_eq_true rfl)) dX12_doesEnd_40 ⟨Nat.le_of_ble_eq_true rfl, Nat.le_of_ble_eq_true rfl⟩) (fun y150 hy150 => ?_)
          obtain ⟨hy150_0, hy150_1, hy150_2, ey150⟩ := hy150
          obtain rfl : y4 = y150 := ey4.trans ey150.symm
          refine lv_iload hx hb dX12_doesEnd_43 (lv_at hl 0 rfl) ?_
          refine lv_isub hx hb dX12_doesEnd_45 ?_
          refine lv_topi (fun y151 ey151 => ?_)
          have hy151 : y151.toInt = y4.toInt - v7.toInt := by rw [ey151]; exact z_sub rfl rfl (by omega) (by omega)
          refine z_rdi (va_runV (As := [.int p1, .int y151]) (rest := []) ⟨hx, hb, hml, hown, hts⟩ (rX12_saidWord_F l dC dI cI cQ ha0 ha0_5 ha0_8 ha0_0 ha0_1 ha0_2 ha0_3 ha0_4 ha0_6 ha0_7 ha0_16 ha0_17 ha0_18 ha0_19 ha0_23 ha0_29 ha0_33 ha0_34 ha0_35 fa0_5 hBfa0_5 fa0_8 ia0_9 hia0_9l hia0_9h ia0_10 hia0_10l hia0_10h ia0_11 ia0_12 ia0_13 ia0_14 hia0_14l hia0_14h ia0_15 ia0_20 hia0_20l hia0_20h ia0_21 hia0_21l hia0_21h ia0_22 hia0_22l hia0_22h ia0_24 hia0_24l hia0_24h ia0_25 hia0_25l hia0_25h ia0_26 hia0_26l hia0_26h ia0_27 hia0_27l hia0_27h ia0_28 ia0_30 hia0_30l hia0_30h ia0_31 ia0_32 hia0_32l hia0_32h ia0_36 hia0_36l hia0_36h ia0_37 p1 hp1l hp1h y151 (by first | decide | omega) (by first | decide | omega)) (cwV 2 hts gv_X12_doesEnd_X12_saidWord_182 rfl rfl rfl (by decide +kernel) ⟨Nat.le_of_ble_eq_true rfl, Nat.le_of_ble_eq_true rfl⟩) ⟨z_blindR, va_recv hK hP (ci := 12) (q0 := 2) rfl rfl, z_preR hZ hP [0, 1, 2] rfl⟩ rfl rfl hl.1 rfl (lv_room (Nat.le_of_ble_eq_true rfl)) dX12_doesEnd_46 ⟨Nat.le_of_ble_eq_true rfl, Nat.le_of_ble_eq_true rfl⟩) (fun y152 hy152 => ?_)
          obtain ⟨hy152_0, hy152_1, hy152_2, ey152⟩ := hy152
          refine lv_aload_n hx hb dX12_doesEnd_49 rfl (lv_at hl 2 rfl) ?_
          refine va_get (D := (dC, dI)) (ci := 12) (v := .ref ha0_8) (C := RX12) (T := TX12) (N := 38) hx hb hts in_X12_doesEnd_X12 hown hK hP 2 rfl rfl 8 (by decide) (hts (.fieldLink RX12 34 "EachOnHisCueModel" "word" "[I") (by decide +kernel)) (fun _ h9 => h9) rfl dX12_doesEnd_50 ?_
          refine lv_iconst (v := 5) hx hb dX12_doesEnd_53 (by decide) ?_
          refine lv_iload_n hx hb dX12_doesEnd_54 rfl (lv_at hl 4 rfl) ?_
          refine lv_iconst (v := 1) hx hb dX12_doesEnd_55 (by decide) ?_
          refine lv_isub hx hb dX12_doesEnd_56 ?_
          refine lv_topi (fun y153 ey153 => ?_)
          obtain rfl : y1 = y153 := ey1.trans ey153.symm
          refine lv_imul hx hb dX12_doesEnd_57 ?_
          refine lv_topi (fun y154 ey154 => ?_)
          have hy154 : y154.toInt = 5 * y1.toInt := by rw [ey154]; exact z_mul (by decide) rfl (by omega) (by omega)
          refine lv_aload_n hx hb dX12_doesEnd_58 rfl (lv_at hl 2 rfl) ?_
          refine va_get (D := (dC, dI)) (ci := 12) (v := .ref ha0_5) (C := RX12) (T := TX12) (N := 38) hx hb hts in_X12_doesEnd_X12 hown hK hP 2 rfl rfl 5 (by decide) (hts (.fieldLink RX12 25 "EachOnHisCueModel" "many" "[I") (by decide +kernel)) (fun _ h9 => h9) rfl dX12_doesEnd_59 ?_
          refine lv_iload_n hx hb dX12_doesEnd_62 rfl (lv_at hl 4 rfl) ?_
          refine lv_iconst (v := 1) hx hb dX12_doesEnd_63 (by decide) ?_
          refine lv_isub hx hb dX12_doesEnd_64 ?_
          refine lv_topi (fun y155 ey155 => ?_)
          obtain rfl : y1 = y155 := ey1.trans ey155.symm
          refine va_iald hx hb hK hP 0 0 rfl rfl (z_in (by omega) (by omega)) dX12_doesEnd_65 ?_
          refine lv_topi (fun y156 ey156 => ?_)
          obtain rfl : y2 = y156 := ey2.trans ey156.symm
          refine lv_iadd hx hb dX12_doesEnd_66 ?_
          refine lv_topi (fun y157 ey157 => ?_)
          have hy157 : y157.toInt = y154.toInt + y2.toInt := by rw [ey157]; exact z_add rfl rfl (by omega) (by omega)
          refine lv_iload hx hb dX12_doesEnd_67 (lv_at hl 0 rfl) ?_
          refine lv_isub hx hb dX12_doesEnd_69 ?_
          refine lv_topi (fun y158 ey158 => ?_)
          have hy158 : y158.toInt = y157.toInt - v7.toInt := by rw [ey158]; exact z_sub rfl rfl (by omega) (by omega)
          refine va_iald hx hb hK hP 1 0 rfl rfl (z_in (by omega) (by omega)) dX12_doesEnd_70 ?_
          refine lv_topi (fun y159 ey159 => ?_)
          have gy159 : y159.toInt = (fa0_8 (y158 : Int32).toNatClampNeg).toInt := by rw [ey159]
          refine lv_icmp_eq (tgt := 76) hx hb dX12_doesEnd_71 (by decide) (fun hc160 => ?_) (fun hc160 => ?_)
          · have q161 : y152.toInt = y159.toInt := z_eq rfl rfl hc160
            obtain ⟨y162, ey162⟩ : ∃ y : Int32, y = v7 + 1 := ⟨_, rfl⟩
            refine lv_iinc (v := y162) (lv' := [(5, .int y162), (4, .int y3), (0, .ref ha0), (1, .int p1), (2, .int p2), (3, .int p3)]) hx hb dX12_doesEnd_76 hl (k := 0) rfl (by rw [ey162]; rfl) (by decide) rfl (fun ls hl => ?_)
            have hy162 : y162.toInt = v7.toInt + 1 := by rw [ey162]; exact z_add rfl (by decide) (by omega) (by omega)
            refine lv_goto (tgt := 29) hx hb dX12_doesEnd_79 (by decide) ?_
            exact ih146 y162 ls (by first | decide | omega) (by first | decide | omega) (by subst ey162 ey159 ey158 ey157 ey154 ey152 ey151 ey4 ey3 ey2 ey1; rw [hi145_F, FX12_doesEnd_L29_0, if_neg hc147, if_pos hc160]) (by omega) (lv_sub hl [0, 1, 2, 3, 4, 5] rfl)
          · have q163 : y152.toInt ≠ y159.toInt := z_ne rfl rfl hc160
            refine lv_iconst (v := 0) hx hb dX12_doesEnd_74 (by decide) ?_
            exact W.zret (v := 0) hx hb hr (rfl) (fun t ht hW => ⟨0, rfl, ⟨by first | decide | omega, by first | decide | omega, by subst ey159 ey158 ey157 ey154 ey152 ey151 ey4 ey3 ey2 ey1; rw [hi145_F, FX12_doesEnd_L29_0, if_neg hc147, if_neg hc160]⟩, ht⟩) (fun _ h => absurd h List.not_mem_nil) dX12_doesEnd_75
    exact hL144 ((6 - (1 : Int32).toInt).toNat + 1) 1 ls (by decide) (by decide) (by subst ey4 ey3 ey2 ey1; rw [FX12_doesEnd, if_pos hc5]) (by omega) hl
  · have q164 : y4.toInt < y3.toInt := z_nle rfl rfl hc5
    refine lv_iconst (v := 0) hx hb dX12_doesEnd_24 (by decide) ?_
    exact W.zret (v := 0) hx hb hr (rfl) (fun t ht hW => ⟨0, rfl, ⟨by first | decide | omega, by first | decide | omega, by subst ey4 ey3 ey2 ey1; rw [FX12_doesEnd, if_neg hc5]⟩, ht⟩) (fun _ h => absurd h List.not_mem_nil) dX12_doesEnd_25
def FX12_isCued (fa0_1 : Nat → Int32) (fa0_2 : Nat → Int32) (fa0_4 : Nat → Int32) (fa0_5 : Nat → Int32) (fa0_6 : Nat → Int32) (fa0_8 : Nat → Int32) (ia0_27 : Int32) (ia0_28 : Int32) (p1 : Int32) (p2 : Int32) : Int32 := (if p1 = (0 : Int32) then (0 : Int32) else (if (fa0_1 ((fa0_4 (p1).toNatClampNeg)).toNatClampNeg) = (3 : Int32) then (FX12_doesEnd fa0_5 fa0_8 ia0_27 ia0_28 p2 p1 (FX12_least (fa0_6 (p1).toNatClampNeg) (fa0_2 ((fa0_4 (p1).toNatClampNeg)).toNatClampNeg))) else (if (fa0_1 ((fa0_4 (p1).toNatClampNeg)).toNatClampNeg) = (4 : Int32) then (FX12_doesEnd fa0_5 fa0_8 ia0_27 ia0_28 p2 p1 (FX12_least (fa0_6 (p1).toNatClampNeg) (fa0_2 ((fa0_4 (p1).toNatClampNeg)).toNatClampNeg))) else (FX12_doesEnd fa0_5 fa0_8 ia0_27 ia0_28 p2 p1 (fa0_6 (p1).toNatClampNeg)))))
set_option maxHeartbeats 4000000 in
set_option maxRecDepth 100000 in
theorem rX12_isCued_F (l : Launch) (dC : Nat → ClassId) (dI : Nat → Nat → Nat) (cI cQ : ClassId) (ha0 ha0_1 ha0_2 ha0_4 ha0_5 ha0_6 ha0_8 ha0_0 ha0_3 ha0_7 ha0_16 ha0_17 ha0_18 ha0_19 ha0_23 ha0_29 ha0_33 ha0_34 ha0_35 : Nat) (fa0_1 : Nat → Int32) (fa0_2 : Nat → Int32) (fa0_4 : Nat → Int32) (hBfa0_4 : ∀ k, 0 ≤ (fa0_4 k).toInt ∧ (fa0_4 k).toInt ≤ 4) (fa0_5 : Nat → Int32) (hBfa0_5 : ∀ k, 0 ≤ (fa0_5 k).toInt ∧ (fa0_5 k).toInt ≤ 4) (fa0_6 : Nat → Int32) (hBfa0_6 : ∀ k, 0 ≤ (fa0_6 k).toInt ∧ (fa0_6 k).toInt ≤ 9) (fa0_8 : Nat → Int32) (ia0_9 : Int32) (hia0_9l : 0 ≤ ia0_9.toInt) (hia0_9h : ia0_9.toInt ≤ 5) (ia0_10 : Int32) (hia0_10l : 0 ≤ ia0_10.toInt) (hia0_10h : ia0_10.toInt ≤ 12) (ia0_11 : Int32) (ia0_12 : Int32) (ia0_13 : Int32) (ia0_14 : Int32) (hia0_14l : (-9) ≤ ia0_14.toInt) (hia0_14h : ia0_14.toInt ≤ 11) (ia0_15 : Int32) (ia0_20 : Int32) (hia0_20l : 0 ≤ ia0_20.toInt) (hia0_20h : ia0_20.toInt ≤ 80) (ia0_21 : Int32) (hia0_21l : 0 ≤ ia0_21.toInt) (hia0_21h : ia0_21.toInt ≤ 80) (ia0_22 : Int32) (hia0_22l : 0 ≤ ia0_22.toInt) (hia0_22h : ia0_22.toInt ≤ 40) (ia0_24 : Int32) (hia0_24l : 0 ≤ ia0_24.toInt) (hia0_24h : ia0_24.toInt ≤ 1) (ia0_25 : Int32) (hia0_25l : 0 ≤ ia0_25.toInt) (hia0_25h : ia0_25.toInt ≤ 1) (ia0_26 : Int32) (hia0_26l : 0 ≤ ia0_26.toInt) (hia0_26h : ia0_26.toInt ≤ 300) (ia0_27 : Int32) (hia0_27l : (-9) ≤ ia0_27.toInt) (hia0_27h : ia0_27.toInt ≤ 11) (ia0_28 : Int32) (ia0_30 : Int32) (hia0_30l : 0 ≤ ia0_30.toInt) (hia0_30h : ia0_30.toInt ≤ 60) (ia0_31 : Int32) (ia0_32 : Int32) (hia0_32l : 0 ≤ ia0_32.toInt) (hia0_32h : ia0_32.toInt ≤ 1) (ia0_36 : Int32) (hia0_36l : 0 ≤ ia0_36.toInt) (hia0_36h : ia0_36.toInt ≤ 12) (ia0_37 : Int32) (p1 : Int32) (hp1l : 0 ≤ p1.toInt) (hp1h : p1.toInt ≤ 11) (p2 : Int32) (hp2l : 0 ≤ p2.toInt) (hp2h : p2.toInt ≤ 11) : Met l yX12_isCued vsX12_isCued ({ frames := 2, cells := 0, slots := 0, locals := 47 }) (va_Pc [.ref ha0, .int p1, .int p2] (zRB dC dI cI cQ [(ha0_1, .inl (cI, 5, .inl fa0_1)), (ha0_2, .inl (cI, 5, .inl fa0_2)), (ha0_4, .inl (cI, 12, .inl fa0_4)), (ha0_5, .inl (cI, 12, .inl fa0_5)), (ha0_6, .inl (cI, 12, .inl fa0_6)), (ha0_8, .inl (cI, 60, .inl fa0_8)), (ha0, .inr (12, [.ref ha0_0, .ref ha0_1, .ref ha0_2, .ref ha0_3, .ref ha0_4, .ref ha0_5, .ref ha0_6, .ref ha0_7, .ref ha0_8, .int ia0_9, .int ia0_10, .int ia0_11, .int ia0_12, .int ia0_13, .int ia0_14, .int ia0_15, .ref ha0_16, .ref ha0_17, .ref ha0_18, .ref ha0_19, .int ia0_20, .int ia0_21, .int ia0_22, .ref ha0_23, .int ia0_24, .int ia0_25, .int ia0_26, .int ia0_27, .int ia0_28, .ref ha0_29, .int ia0_30, .int ia0_31, .int ia0_32, .ref ha0_33, .ref ha0_34, .ref ha0_35, .int ia0_36, .int ia0_37]))])) (vp_Si (fun r => 0 ≤ r.toInt ∧ r.toInt ≤ 1 ∧ r = FX12_isCued fa0_1 fa0_2 fa0_4 fa0_5 fa0_6 fa0_8 ia0_27 ia0_28 p1 p2)) 0 0 (fun _ => False) := by
  refine Met.ofW (cc := cX12_isCued) (maxL := 5) (ret := (some .boolean)) (by decide) rfl ?_
  intro p e s m args below meth c s₁ B hml hv
  obtain ⟨rfl, hP, hZ⟩ := hv
  obtain ⟨hK, hAO, hN⟩ := id hZ
  have hx := B.exec
  have hb := B.bytes
  have hr := B.returns
  have hts := atoms_spec (ws := vsX12_isCued) B.pre
  have hown : s.vm.findClass RX12 = some m.cls := findClass_of_methodNamed B.named
  have hlocks := B.notSynchronized
  have hl := lv_entry ([.ref ha0, .int p1, .int p2]) (n := 5) (Nat.le_of_ble_eq_true rfl)
  rw [lg_entry_eq]
  generalize (lg_sl ([.ref ha0, .int p1, .int p2]) ++ List.replicate (5 - (lg_sl ([.ref ha0, .int p1, .int p2])).length) Slot.unset).toArray = ls at hl ⊢
  have hl : lv_has ls 5 [(0, .ref ha0), (1, .int p1), (2, .int p2)] := hl
  refine lv_iload_n hx hb dX12_isCued_0 rfl (lv_at hl 1 rfl) ?_
  refine lv_if_ne (tgt := 6) hx hb dX12_isCued_1 (by decide) (fun hc1 => ?_) (fun hc1 => ?_)
  · have q2 : p1.toInt ≠ 0 := z_ne rfl (by decide) hc1
    refine lv_aload_n hx hb dX12_isCued_6 rfl (lv_at hl 0 rfl) ?_
    refine va_get (D := (dC, dI)) (ci := 12) (v := .ref ha0_4) (C := RX12) (T := TX12) (N := 38) hx hb hts in_X12_isCued_X12 hown hK hP 6 rfl rfl 4 (by decide) (hts (.fieldLink RX12 22 "EachOnHisCueModel" "whose" "[I") (by decide +kernel)) (fun _ h9 => h9) rfl dX12_isCued_7 ?_
    refine lv_iload_n hx hb dX12_isCued_10 rfl (lv_at hl 1 rfl) ?_
    refine va_iald hx hb hK hP 2 0 rfl rfl (z_in (by omega) (by omega)) dX12_isCued_11 ?_
    refine lv_topi (fun y3 ey3 => ?_)
    have gy3 : y3.toInt = (fa0_4 (p1 : Int32).toNatClampNeg).toInt := by rw [ey3]
    have hy3 : 0 ≤ y3.toInt ∧ y3.toInt ≤ 4 := by rw [ey3]; exact hBfa0_4 _
    obtain ⟨hy3, hy3_⟩ := hy3
    refine lv_istore_n (lv' := [(3, .int y3), (0, .ref ha0), (1, .int p1), (2, .int p2)]) hx hb dX12_isCued_12 rfl hl (by decide) rfl (fun ls hl => ?_)
    refine lv_aload_n hx hb dX12_isCued_13 rfl (lv_at hl 1 rfl) ?_
    refine va_get (D := (dC, dI)) (ci := 12) (v := .ref ha0_1) (C := RX12) (T := TX12) (N := 38) hx hb hts in_X12_isCued_X12 hown hK hP 6 rfl rfl 1 (by decide) (hts (.fieldLink RX12 13 "EachOnHisCueModel" "kind" "[I") (by decide +kernel)) (fun _ h9 => h9) rfl dX12_isCued_14 ?_
    refine lv_iload_n hx hb dX12_isCued_17 rfl (lv_at hl 0 rfl) ?_
    refine va_iald hx hb hK hP 0 0 rfl rfl (z_in (by omega) (by omega)) dX12_isCued_18 ?_
    refine lv_topi (fun y4 ey4 => ?_)
    have gy4 : y4.toInt = (fa0_1 (y3 : Int32).toNatClampNeg).toInt := by rw [ey4]
    refine lv_iconst (v := 3) hx hb dX12_isCued_19 (by decide) ?_
    refine lv_icmp_eq (tgt := 33) hx hb dX12_isCued_20 (by decide) (fun hc5 => ?_) (fun hc5 => ?_)
    · have q6 : y4.toInt = 3 := z_eq rfl (by decide) hc5
      refine lv_iconst (v := 1) hx hb dX12_isCued_33 (by decide) ?_
      refine lv_goto (tgt := 38) hx hb dX12_isCued_34 (by decide) ?_
      refine lv_istore (lv' := [(4, .int 1), (3, .int y3), (0, .ref ha0), (1, .int p1), (2, .int p2)]) hx hb dX12_isCued_38 hl (by decide) rfl (fun ls hl => ?_)
      refine lv_aload_n hx hb dX12_isCued_40 rfl (lv_at hl 2 rfl) ?_
      refine lv_iload_n hx hb dX12_isCued_41 rfl (lv_at hl 4 rfl) ?_
      refine lv_iload_n hx hb dX12_isCued_42 rfl (lv_at hl 3 rfl) ?_
      refine lv_iload hx hb dX12_isCued_43 (lv_at hl 0 rfl) ?_
      refine lv_if_eq (tgt := 66) hx hb dX12_isCued_45 (by decide) (fun hc7 => ?_) (fun hc7 => ?_)
      · exact absurd hc7 (by decide)
      · skip
        refine lv_aload_n hx hb dX12_isCued_48 rfl (lv_at hl 2 rfl) ?_
        refine va_get (D := (dC, dI)) (ci := 12) (v := .ref ha0_6) (C := RX12) (T := TX12) (N := 38) hx hb hts in_X12_isCued_X12 hown hK hP 6 rfl rfl 6 (by decide) (hts (.fieldLink RX12 28 "EachOnHisCueModel" "cue" "[I") (by decide +kernel)) (fun _ h9 => h9) rfl dX12_isCued_49 ?_
        refine lv_iload_n hx hb dX12_isCued_52 rfl (lv_at hl 3 rfl) ?_
        refine va_iald hx hb hK hP 4 0 rfl rfl (z_in (by omega) (by omega)) dX12_isCued_53 ?_
        refine lv_topi (fun y8 ey8 => ?_)
        have gy8 : y8.toInt = (fa0_6 (p1 : Int32).toNatClampNeg).toInt := by rw [ey8]
        have hy8 : 0 ≤ y8.toInt ∧ y8.toInt ≤ 9 := by rw [ey8]; exact hBfa0_6 _
        obtain ⟨hy8, hy8_⟩ := hy8
        refine lv_aload_n hx hb dX12_isCued_54 rfl (lv_at hl 2 rfl) ?_
        refine va_get (D := (dC, dI)) (ci := 12) (v := .ref ha0_2) (C := RX12) (T := TX12) (N := 38) hx hb hts in_X12_isCued_X12 hown hK hP 6 rfl rfl 2 (by decide) (hts (.fieldLink RX12 16 "EachOnHisCueModel" "figure" "[I") (by decide +kernel)) (fun _ h9 => h9) rfl dX12_isCued_55 ?_
        refine lv_iload_n hx hb dX12_isCued_58 rfl (lv_at hl 1 rfl) ?_
        refine va_iald hx hb hK hP 1 0 rfl rfl (z_in (by omega) (by omega)) dX12_isCued_59 ?_
        refine lv_topi (fun y9 ey9 => ?_)
        have gy9 : y9.toInt = (fa0_2 (y3 : Int32).toNatClampNeg).toInt := by rw [ey9]
        refine z_rdi (va_runS (As := [.int y8, .int y9]) (rest := [.int p1, .int p2, .ref ha0]) ⟨hx, hb, hml, hown, hts⟩ (rX12_least_F l dC dI cI cQ y8 y9) (va_cwS 2 hts gv_X12_isCued_X12_least_175 rfl rfl rfl (by decide +kernel) ⟨Nat.le_of_ble_eq_true rfl, Nat.le_of_ble_eq_true rfl⟩) ⟨z_blindR, z_preR hZ hP [] rfl⟩ rfl rfl hl.1 rfl (lv_room (Nat.le_of_ble_eq_true rfl)) dX12_isCued_60 ⟨Nat.le_of_ble_eq_true rfl, Nat.le_of_ble_eq_true rfl⟩) (fun y10 hy10 => ?_)
        obtain ⟨hy10_0, hy10_1, hy10_2, ey10⟩ := hy10
        refine lv_goto (tgt := 72) hx hb dX12_isCued_63 (by decide) ?_
        refine z_rdi (va_runV (As := [.int p2, .int p1, .int y10]) (rest := []) ⟨hx, hb, hml, hown, hts⟩ (rX12_doesEnd_F l dC dI cI cQ ha0 ha0_5 ha0_8 ha0_0 ha0_1 ha0_2 ha0_3 ha0_4 ha0_6 ha0_7 ha0_16 ha0_17 ha0_18 ha0_19 ha0_23 ha0_29 ha0_33 ha0_34 ha0_35 fa0_5 hBfa0_5 fa0_8 ia0_9 hia0_9l hia0_9h ia0_10 hia0_10l hia0_10h ia0_11 ia0_12 ia0_13 ia0_14 hia0_14l hia0_14h ia0_15 ia0_20 hia0_20l hia0_20h ia0_21 hia0_21l hia0_21h ia0_22 hia0_22l hia0_22h ia0_24 hia0_24l hia0_24h ia0_25 hia0_25l hia0_25h ia0_26 hia0_26l hia0_26h ia0_27 hia0_27l hia0_27h ia0_28 ia0_30 hia0_30l hia0_30h ia0_31 ia0_32 hia0_32l hia0_32h ia0_36 hia0_36l hia0_36h ia0_37 p2 hp2l hp2h p1 (by first | decide | omega) (by first | decide | omega) y10) (cwV 3 hts gv_X12_isCued_X12_doesEnd_185 rfl rfl rfl (by decide +kernel) ⟨Nat.le_of_ble_eq_true rfl, Nat.le_of_ble_eq_true rfl⟩) ⟨z_blindR, va_recv hK hP (ci := 12) (q0 := 6) rfl rfl, z_preR hZ hP [3, 5, 6] rfl⟩ rfl rfl hl.1 rfl (lv_room (Nat.le_of_ble_eq_true rfl)) dX12_isCued_72 ⟨Nat.le_of_ble_eq_true rfl, Nat.le_of_ble_eq_true rfl⟩) (fun y11 hy11 => ?_)
        obtain ⟨hy11_0, hy11_1, ey11⟩ := hy11
        exact W.zret (v := y11) hx hb hr (z_nb (by omega) (by omega)) (fun t ht hW => ⟨y11, rfl, ⟨by first | decide | omega, by first | decide | omega, by subst ey11 ey10 ey9 ey8 ey4 ey3; rw [FX12_isCued, if_neg hc1, if_pos hc5]⟩, ht⟩) (fun _ h => absurd h List.not_mem_nil) dX12_isCued_75
    · have q12 : y4.toInt ≠ 3 := z_ne rfl (by decide) hc5
      refine lv_aload_n hx hb dX12_isCued_23 rfl (lv_at hl 1 rfl) ?_
      refine va_get (D := (dC, dI)) (ci := 12) (v := .ref ha0_1) (C := RX12) (T := TX12) (N := 38) hx hb hts in_X12_isCued_X12 hown hK hP 6 rfl rfl 1 (by decide) (hts (.fieldLink RX12 13 "EachOnHisCueModel" "kind" "[I") (by decide +kernel)) (fun _ h9 => h9) rfl dX12_isCued_24 ?_
      refine lv_iload_n hx hb dX12_isCued_27 rfl (lv_at hl 0 rfl) ?_
      refine va_iald hx hb hK hP 0 0 rfl rfl (z_in (by omega) (by omega)) dX12_isCued_28 ?_
      refine lv_topi (fun y13 ey13 => ?_)
      obtain rfl : y4 = y13 := ey4.trans ey13.symm
      refine lv_iconst (v := 4) hx hb dX12_isCued_29 (by decide) ?_
      refine lv_icmp_ne (tgt := 37) hx hb dX12_isCued_30 (by decide) (fun hc14 => ?_) (fun hc14 => ?_)
      · have q15 : y4.toInt ≠ 4 := z_ne rfl (by decide) hc14
        refine lv_iconst (v := 0) hx hb dX12_isCued_37 (by decide) ?_
        refine lv_istore (lv' := [(4, .int 0), (3, .int y3), (0, .ref ha0), (1, .int p1), (2, .int p2)]) hx hb dX12_isCued_38 hl (by decide) rfl (fun ls hl => ?_)
        refine lv_aload_n hx hb dX12_isCued_40 rfl (lv_at hl 2 rfl) ?_
        refine lv_iload_n hx hb dX12_isCued_41 rfl (lv_at hl 4 rfl) ?_
        refine lv_iload_n hx hb dX12_isCued_42 rfl (lv_at hl 3 rfl) ?_
        refine lv_iload hx hb dX12_isCued_43 (lv_at hl 0 rfl) ?_
        refine lv_if_eq (tgt := 66) hx hb dX12_isCued_45 (by decide) (fun hc16 => ?_) (fun hc16 => ?_)
        · skip
          refine lv_aload_n hx hb dX12_isCued_66 rfl (lv_at hl 2 rfl) ?_
          refine va_get (D := (dC, dI)) (ci := 12) (v := .ref ha0_6) (C := RX12) (T := TX12) (N := 38) hx hb hts in_X12_isCued_X12 hown hK hP 6 rfl rfl 6 (by decide) (hts (.fieldLink RX12 28 "EachOnHisCueModel" "cue" "[I") (by decide +kernel)) (fun _ h9 => h9) rfl dX12_isCued_67 ?_
          refine lv_iload_n hx hb dX12_isCued_70 rfl (lv_at hl 3 rfl) ?_
          refine va_iald hx hb hK hP 4 0 rfl rfl (z_in (by omega) (by omega)) dX12_isCued_71 ?_
          refine lv_topi (fun y17 ey17 => ?_)
          have gy17 : y17.toInt = (fa0_6 (p1 : Int32).toNatClampNeg).toInt := by rw [ey17]
          have hy17 : 0 ≤ y17.toInt ∧ y17.toInt ≤ 9 := by rw [ey17]; exact hBfa0_6 _
          obtain ⟨hy17, hy17_⟩ := hy17
          refine z_rdi (va_runV (As := [.int p2, .int p1, .int y17]) (rest := []) ⟨hx, hb, hml, hown, hts⟩ (rX12_doesEnd_F l dC dI cI cQ ha0 ha0_5 ha0_8 ha0_0 ha0_1 ha0_2 ha0_3 ha0_4 ha0_6 ha0_7 ha0_16 ha0_17 ha0_18 ha0_19 ha0_23 ha0_29 ha0_33 ha0_34 ha0_35 fa0_5 hBfa0_5 fa0_8 ia0_9 hia0_9l hia0_9h ia0_10 hia0_10l hia0_10h ia0_11 ia0_12 ia0_13 ia0_14 hia0_14l hia0_14h ia0_15 ia0_20 hia0_20l hia0_20h ia0_21 hia0_21l hia0_21h ia0_22 hia0_22l hia0_22h ia0_24 hia0_24l hia0_24h ia0_25 hia0_25l hia0_25h ia0_26 hia0_26l hia0_26h ia0_27 hia0_27l hia0_27h ia0_28 ia0_30 hia0_30l hia0_30h ia0_31 ia0_32 hia0_32l hia0_32h ia0_36 hia0_36l hia0_36h ia0_37 p2 hp2l hp2h p1 (by first | decide | omega) (by first | decide | omega) y17) (cwV 3 hts gv_X12_isCued_X12_doesEnd_185 rfl rfl rfl (by decide +kernel) ⟨Nat.le_of_ble_eq_true rfl, Nat.le_of_ble_eq_true rfl⟩) ⟨z_blindR, va_recv hK hP (ci := 12) (q0 := 6) rfl rfl, z_preR hZ hP [3, 5, 6] rfl⟩ rfl rfl hl.1 rfl (lv_room (Nat.le_of_ble_eq_true rfl)) dX12_isCued_72 ⟨Nat.le_of_ble_eq_true rfl, Nat.le_of_ble_eq_true rfl⟩) (fun y18 hy18 => ?_)
          obtain ⟨hy18_0, hy18_1, ey18⟩ := hy18
          exact W.zret (v := y18) hx hb hr (z_nb (by omega) (by omega)) (fun t ht hW => ⟨y18, rfl, ⟨by first | decide | omega, by first | decide | omega, by subst ey18 ey17 ey4 ey3; rw [FX12_isCued, if_neg hc1, if_neg hc5, if_neg hc14]⟩, ht⟩) (fun _ h => absurd h List.not_mem_nil) dX12_isCued_75
        · exact absurd hc16 (by decide)
      · have q19 : y4.toInt = 4 := z_eq rfl (by decide) hc14
        refine lv_iconst (v := 1) hx hb dX12_isCued_33 (by decide) ?_
        refine lv_goto (tgt := 38) hx hb dX12_isCued_34 (by decide) ?_
        refine lv_istore (lv' := [(4, .int 1), (3, .int y3), (0, .ref ha0), (1, .int p1), (2, .int p2)]) hx hb dX12_isCued_38 hl (by decide) rfl (fun ls hl => ?_)
        refine lv_aload_n hx hb dX12_isCued_40 rfl (lv_at hl 2 rfl) ?_
        refine lv_iload_n hx hb dX12_isCued_41 rfl (lv_at hl 4 rfl) ?_
        refine lv_iload_n hx hb dX12_isCued_42 rfl (lv_at hl 3 rfl) ?_
        refine lv_iload hx hb dX12_isCued_43 (lv_at hl 0 rfl) ?_
        refine lv_if_eq (tgt := 66) hx hb dX12_isCued_45 (by decide) (fun hc20 => ?_) (fun hc20 => ?_)
        · exact absurd hc20 (by decide)
        · skip
          refine lv_aload_n hx hb dX12_isCued_48 rfl (lv_at hl 2 rfl) ?_
          refine va_get (D := (dC, dI)) (ci := 12) (v := .ref ha0_6) (C := RX12) (T := TX12) (N := 38) hx hb hts in_X12_isCued_X12 hown hK hP 6 rfl rfl 6 (by decide) (hts (.fieldLink RX12 28 "EachOnHisCueModel" "cue" "[I") (by decide +kernel)) (fun _ h9 => h9) rfl dX12_isCued_49 ?_
          refine lv_iload_n hx hb dX12_isCued_52 rfl (lv_at hl 3 rfl) ?_
          refine va_iald hx hb hK hP 4 0 rfl rfl (z_in (by omega) (by omega)) dX12_isCued_53 ?_
          refine lv_topi (fun y21 ey21 => ?_)
          have gy21 : y21.toInt = (fa0_6 (p1 : Int32).toNatClampNeg).toInt := by rw [ey21]
          have hy21 : 0 ≤ y21.toInt ∧ y21.toInt ≤ 9 := by rw [ey21]; exact hBfa0_6 _
          obtain ⟨hy21, hy21_⟩ := hy21
          refine lv_aload_n hx hb dX12_isCued_54 rfl (lv_at hl 2 rfl) ?_
          refine va_get (D := (dC, dI)) (ci := 12) (v := .ref ha0_2) (C := RX12) (T := TX12) (N := 38) hx hb hts in_X12_isCued_X12 hown hK hP 6 rfl rfl 2 (by decide) (hts (.fieldLink RX12 16 "EachOnHisCueModel" "figure" "[I") (by decide +kernel)) (fun _ h9 => h9) rfl dX12_isCued_55 ?_
          refine lv_iload_n hx hb dX12_isCued_58 rfl (lv_at hl 1 rfl) ?_
          refine va_iald hx hb hK hP 1 0 rfl rfl (z_in (by omega) (by omega)) dX12_isCued_59 ?_
          refine lv_topi (fun y22 ey22 => ?_)
          have gy22 : y22.toInt = (fa0_2 (y3 : Int32).toNatClampNeg).toInt := by rw [ey22]
          refine z_rdi (va_runS (As := [.int y21, .int y22]) (rest := [.int p1, .int p2, .ref ha0]) ⟨hx, hb, hml, hown, hts⟩ (rX12_least_F l dC dI cI cQ y21 y22) (va_cwS 2 hts gv_X12_isCued_X12_least_175 rfl rfl rfl (by decide +kernel) ⟨Nat.le_of_ble_eq_true rfl, Nat.le_of_ble_eq_true rfl⟩) ⟨z_blindR, z_preR hZ hP [] rfl⟩ rfl rfl hl.1 rfl (lv_room (Nat.le_of_ble_eq_true rfl)) dX12_isCued_60 ⟨Nat.le_of_ble_eq_true rfl, Nat.le_of_ble_eq_true rfl⟩) (fun y23 hy23 => ?_)
          obtain ⟨hy23_0, hy23_1, hy23_2, ey23⟩ := hy23
          refine lv_goto (tgt := 72) hx hb dX12_isCued_63 (by decide) ?_
          refine z_rdi (va_runV (As := [.int p2, .int p1, .int y23]) (rest := []) ⟨hx, hb, hml, hown, hts⟩ (rX12_doesEnd_F l dC dI cI cQ ha0 ha0_5 ha0_8 ha0_0 ha0_1 ha0_2 ha0_3 ha0_4 ha0_6 ha0_7 ha0_16 ha0_17 ha0_18 ha0_19 ha0_23 ha0_29 ha0_33 ha0_34 ha0_35 fa0_5 hBfa0_5 fa0_8 ia0_9 hia0_9l hia0_9h ia0_10 hia0_10l hia0_10h ia0_11 ia0_12 ia0_13 ia0_14 hia0_14l hia0_14h ia0_15 ia0_20 hia0_20l hia0_20h ia0_21 hia0_21l hia0_21h ia0_22 hia0_22l hia0_22h ia0_24 hia0_24l hia0_24h ia0_25 hia0_25l hia0_25h ia0_26 hia0_26l hia0_26h ia0_27 hia0_27l hia0_27h ia0_28 ia0_30 hia0_30l hia0_30h ia0_31 ia0_32 hia0_32l hia0_32h ia0_36 hia0_36l hia0_36h ia0_37 p2 hp2l hp2h p1 (by first | decide | omega) (by first | decide | omega) y23) (cwV 3 hts gv_X12_isCued_X12_doesEnd_185 rfl rfl rfl (by decide +kernel) ⟨Nat.le_of_ble_eq_true rfl, Nat.le_of_ble_eq_true rfl⟩) ⟨z_blindR, va_recv hK hP (ci := 12) (q0 := 6) rfl rfl, z_preR hZ hP [3, 5, 6] rfl⟩ rfl rfl hl.1 rfl (lv_room (Nat.le_of_ble_eq_true rfl)) dX12_isCued_72 ⟨Nat.le_of_ble_eq_true rfl, Nat.le_of_ble_eq_true rfl⟩) (fun y24 hy24 => ?_)
          obtain ⟨hy24_0, hy24_1, ey24⟩ := hy24
          exact W.zret (v := y24) hx hb hr (z_nb (by omega) (by omega)) (fun t ht hW => ⟨y24, rfl, ⟨by first | decide | omega, by first | decide | omega, by subst ey24 ey23 ey22 ey21 ey4 ey3; rw [FX12_isCued, if_neg hc1, if_neg hc5, if_pos hc14]⟩, ht⟩) (fun _ h => absurd h List.not_mem_nil) dX12_isCued_75
  · have q25 : p1.toInt = 0 := z_eq rfl (by decide) hc1
    refine lv_iconst (v := 0) hx hb dX12_isCued_4 (by decide) ?_
    exact W.zret (v := 0) hx hb hr (rfl) (fun t ht hW => ⟨0, rfl, ⟨by first | decide | omega, by first | decide | omega, by rw [FX12_isCued, if_pos hc1]⟩, ht⟩) (fun _ h => absurd h List.not_mem_nil) dX12_isCued_5
def FX12_comesWith_L58_0 (fa0_1 : Nat → Int32) (fa0_2 : Nat → Int32) (fa0_4 : Nat → Int32) (fa0_5 : Nat → Int32) (fa0_6 : Nat → Int32) (fa0_8 : Nat → Int32) (ia0_10 : Int32) (ia0_12 : Int32) (ia0_13 : Int32) (ia0_27 : Int32) (ia0_28 : Int32) (p1 : Int32) (p2 : Int32) : Nat → Int32 → Int32 → Int32
  | 0, _, _ => 0
  | n + 1, v12, v13 => (if ia0_10 ≤ v12 then v13 else (if (fa0_4 (v12).toNatClampNeg) = p1 then (if (FX12_isCued fa0_1 fa0_2 fa0_4 fa0_5 fa0_6 fa0_8 ia0_27 ia0_28 v12 p2) = (0 : Int32) then (FX12_comesWith_L58_0 fa0_1 fa0_2 fa0_4 fa0_5 fa0_6 fa0_8 ia0_10 ia0_12 ia0_13 ia0_27 ia0_28 p1 p2  n (v12 + 1) v13) else (if v13 < (0 : Int32) then (FX12_comesWith_L58_0 fa0_1 fa0_2 fa0_4 fa0_5 fa0_6 fa0_8 ia0_10 ia0_12 ia0_13 ia0_27 ia0_28 p1 p2  n (v12 + 1) v12) else (if (fa0_1 (p1).toNatClampNeg) = (5 : Int32) then 0 else (FX12_comesWith_L58_0 fa0_1 fa0_2 fa0_4 fa0_5 fa0_6 fa0_8 ia0_10 ia0_12 ia0_13 ia0_27 ia0_28 p1 p2  n (v12 + 1) v13)))) else (FX12_comesWith_L58_0 fa0_1 fa0_2 fa0_4 fa0_5 fa0_6 fa0_8 ia0_10 ia0_12 ia0_13 ia0_27 ia0_28 p1 p2  n (v12 + 1) v13)))
def FX12_comesWith_L58_1 (fa0_1 : Nat → Int32) (fa0_2 : Nat → Int32) (fa0_4 : Nat → Int32) (fa0_5 : Nat → Int32) (fa0_6 : Nat → Int32) (fa0_8 : Nat → Int32) (ia0_10 : Int32) (ia0_12 : Int32) (ia0_13 : Int32) (ia0_27 : Int32) (ia0_28 : Int32) (p1 : Int32) (p2 : Int32) : Nat → Int32 → Int32 → Int32
  | 0, _, _ => 0
  | n + 1, v232, v233 => (if ia0_10 ≤ v232 then v233 else (if (fa0_4 (v232).toNatClampNeg) = p1 then (if ((ia0_12 >>> (v232 &&& 31)) &&& (1 : Int32)) = (1 : Int32) then (FX12_comesWith_L58_1 fa0_1 fa0_2 fa0_4 fa0_5 fa0_6 fa0_8 ia0_10 ia0_12 ia0_13 ia0_27 ia0_28 p1 p2  n (v232 + 1) v233) else (if (FX12_isCued fa0_1 fa0_2 fa0_4 fa0_5 fa0_6 fa0_8 ia0_27 ia0_28 v232 p2) = (0 : Int32) then ((-9) : Int32) else v232)) else (FX12_comesWith_L58_1 fa0_1 fa0_2 fa0_4 fa0_5 fa0_6 fa0_8 ia0_10 ia0_12 ia0_13 ia0_27 ia0_28 p1 p2  n (v232 + 1) v233)))
def FX12_comesWith_L58_2 (fa0_1 : Nat → Int32) (fa0_2 : Nat → Int32) (fa0_4 : Nat → Int32) (fa0_5 : Nat → Int32) (fa0_6 : Nat → Int32) (fa0_8 : Nat → Int32) (ia0_10 : Int32) (ia0_12 : Int32) (ia0_13 : Int32) (ia0_27 : Int32) (ia0_28 : Int32) (p1 : Int32) (p2 : Int32) : Nat → Int32 → Int32 → Int32
  | 0, _, _ => 0
  | n + 1, v418, v419 => (if ia0_10 ≤ v418 then v419 else (if (fa0_4 (v418).toNatClampNeg) = p1 then (if (FX12_isCued fa0_1 fa0_2 fa0_4 fa0_5 fa0_6 fa0_8 ia0_27 ia0_28 v418 p2) = (0 : Int32) then (FX12_comesWith_L58_2 fa0_1 fa0_2 fa0_4 fa0_5 fa0_6 fa0_8 ia0_10 ia0_12 ia0_13 ia0_27 ia0_28 p1 p2  n (v418 + 1) v419) else (if v419 < (0 : Int32) then (FX12_comesWith_L58_2 fa0_1 fa0_2 fa0_4 fa0_5 fa0_6 fa0_8 ia0_10 ia0_12 ia0_13 ia0_27 ia0_28 p1 p2  n (v418 + 1) v418) else (if (fa0_1 (p1).toNatClampNeg) = (5 : Int32) then (FX12_comesWith_L58_2 fa0_1 fa0_2 fa0_4 fa0_5 fa0_6 fa0_8 ia0_10 ia0_12 ia0_13 ia0_27 ia0_28 p1 p2  n (v418 + 1) v418) else 0))) else (FX12_comesWith_L58_2 fa0_1 fa0_2 fa0_4 fa0_5 fa0_6 fa0_8 ia0_10 ia0_12 ia0_13 ia0_27 ia0_28 p1 p2  n (v418 + 1) v419)))
def FX12_comesWith (fa0_1 : Nat → Int32) (fa0_2 : Nat → Int32) (fa0_4 : Nat → Int32) (fa0_5 : Nat → Int32) (fa0_6 : Nat → Int32) (fa0_8 : Nat → Int32) (ia0_10 : Int32) (ia0_12 : Int32) (ia0_13 : Int32) (ia0_27 : Int32) (ia0_28 : Int32) (p1 : Int32) (p2 : Int32) : Int32 := (if (fa0_1 (p1).toNatClampNeg) = (4 : Int32) then ((-9) : Int32) else (if ((ia0_13 >>> (p1 &&& 31)) &&& (1 : Int32)) = (1 : Int32) then ((-9) : Int32) else (if (fa0_1 (p1).toNatClampNeg) = (1 : Int32) then (FX12_comesWith_L58_0 fa0_1 fa0_2 fa0_4 fa0_5 fa0_6 fa0_8 ia0_10 ia0_12 ia0_13 ia0_27 ia0_28 p1 p2  ((12 - (0 : Int32).toInt).toNat + 1) (0 : Int32) ((-9) : Int32)) else (if (fa0_1 (p1).toNatClampNeg) = (5 : Int32) then (FX12_comesWith_L58_2 fa0_1 fa0_2 fa0_4 fa0_5 fa0_6 fa0_8 ia0_10 ia0_12 ia0_13 ia0_27 ia0_28 p1 p2  ((12 - (0 : Int32).toInt).toNat + 1) (0 : Int32) ((-9) : Int32)) else (FX12_comesWith_L58_1 fa0_1 fa0_2 fa0_4 fa0_5 fa0_6 fa0_8 ia0_10 ia0_12 ia0_13 ia0_27 ia0_28 p1 p2  ((12 - (0 : Int32).toInt).toNat + 1) (0 : Int32) ((-9) : Int32))))))
set_option maxHeartbeats 4000000 in
set_option maxRecDepth 100000 in
theorem rX12_comesWith_F (l : Launch) (dC : Nat → ClassId) (dI : Nat → Nat → Nat) (cI cQ : ClassId) (ha0 ha0_1 ha0_2 ha0_4 ha0_5 ha0_6 ha0_8 ha0_0 ha0_3 ha0_7 ha0_16 ha0_17 ha0_18 ha0_19 ha0_23 ha0_29 ha0_33 ha0_34 ha0_35 : Nat) (fa0_1 : Nat → Int32) (fa0_2 : Nat → Int32) (fa0_4 : Nat → Int32) (hBfa0_4 : ∀ k, 0 ≤ (fa0_4 k).toInt ∧ (fa0_4 k).toInt ≤ 4) (fa0_5 : Nat → Int32) (hBfa0_5 : ∀ k, 0 ≤ (fa0_5 k).toInt ∧ (fa0_5 k).toInt ≤ 4) (fa0_6 : Nat → Int32) (hBfa0_6 : ∀ k, 0 ≤ (fa0_6 k).toInt ∧ (fa0_6 k).toInt ≤ 9) (fa0_8 : Nat → Int32) (ia0_9 : Int32) (hia0_9l : 0 ≤ ia0_9.toInt) (hia0_9h : ia0_9.toInt ≤ 5) (ia0_10 : Int32) (hia0_10l : 0 ≤ ia0_10.toInt) (hia0_10h : ia0_10.toInt ≤ 12) (ia0_11 : Int32) (ia0_12 : Int32) (ia0_13 : Int32) (ia0_14 : Int32) (hia0_14l : (-9) ≤ ia0_14.toInt) (hia0_14h : ia0_14.toInt ≤ 11) (ia0_15 : Int32) (ia0_20 : Int32) (hia0_20l : 0 ≤ ia0_20.toInt) (hia0_20h : ia0_20.toInt ≤ 80) (ia0_21 : Int32) (hia0_21l : 0 ≤ ia0_21.toInt) (hia0_21h : ia0_21.toInt ≤ 80) (ia0_22 : Int32) (hia0_22l : 0 ≤ ia0_22.toInt) (hia0_22h : ia0_22.toInt ≤ 40) (ia0_24 : Int32) (hia0_24l : 0 ≤ ia0_24.toInt) (hia0_24h : ia0_24.toInt ≤ 1) (ia0_25 : Int32) (hia0_25l : 0 ≤ ia0_25.toInt) (hia0_25h : ia0_25.toInt ≤ 1) (ia0_26 : Int32) (hia0_26l : 0 ≤ ia0_26.toInt) (hia0_26h : ia0_26.toInt ≤ 300) (ia0_27 : Int32) (hia0_27l : (-9) ≤ ia0_27.toInt) (hia0_27h : ia0_27.toInt ≤ 11) (ia0_28 : Int32) (ia0_30 : Int32) (hia0_30l : 0 ≤ ia0_30.toInt) (hia0_30h : ia0_30.toInt ≤ 60) (ia0_31 : Int32) (ia0_32 : Int32) (hia0_32l : 0 ≤ ia0_32.toInt) (hia0_32h : ia0_32.toInt ≤ 1) (ia0_36 : Int32) (hia0_36l : 0 ≤ ia0_36.toInt) (hia0_36h : ia0_36.toInt ≤ 12) (ia0_37 : Int32) (p1 : Int32) (hp1l : 0 ≤ p1.toInt) (hp1h : p1.toInt ≤ 4) (p2 : Int32) (hp2l : 0 ≤ p2.toInt) (hp2h : p2.toInt ≤ 11) : Met l yX12_comesWith vsX12_comesWith ({ frames := 3, cells := 0, slots := 0, locals := 71 }) (va_Pc [.ref ha0, .int p1, .int p2] (zRB dC dI cI cQ [(ha0_1, .inl (cI, 5, .inl fa0_1)), (ha0_2, .inl (cI, 5, .inl fa0_2)), (ha0_4, .inl (cI, 12, .inl fa0_4)), (ha0_5, .inl (cI, 12, .inl fa0_5)), (ha0_6, .inl (cI, 12, .inl fa0_6)), (ha0_8, .inl (cI, 60, .inl fa0_8)), (ha0, .inr (12, [.ref ha0_0, .ref ha0_1, .ref ha0_2, .ref ha0_3, .ref ha0_4, .ref ha0_5, .ref ha0_6, .ref ha0_7, .ref ha0_8, .int ia0_9, .int ia0_10, .int ia0_11, .int ia0_12, .int ia0_13, .int ia0_14, .int ia0_15, .ref ha0_16, .ref ha0_17, .ref ha0_18, .ref ha0_19, .int ia0_20, .int ia0_21, .int ia0_22, .ref ha0_23, .int ia0_24, .int ia0_25, .int ia0_26, .int ia0_27, .int ia0_28, .ref ha0_29, .int ia0_30, .int ia0_31, .int ia0_32, .ref ha0_33, .ref ha0_34, .ref ha0_35, .int ia0_36, .int ia0_37]))])) (vp_Si (fun r => (-9) ≤ r.toInt ∧ r.toInt ≤ 11 ∧ r = FX12_comesWith fa0_1 fa0_2 fa0_4 fa0_5 fa0_6 fa0_8 ia0_10 ia0_12 ia0_13 ia0_27 ia0_28 p1 p2)) 0 0 (fun _ => False) := by
  refine Met.ofW (cc := cX12_comesWith) (maxL := 7) (ret := (some .int)) (by decide) rfl ?_
  intro p e s m args below meth c s₁ B hml hv
  obtain ⟨rfl, hP, hZ⟩ := hv
  obtain ⟨hK, hAO, hN⟩ := id hZ
  have hx := B.exec
  have hb := B.bytes
  have hr := B.returns
  have hts := atoms_spec (ws := vsX12_comesWith) B.pre
  have hown : s.vm.findClass RX12 = some m.cls := findClass_of_methodNamed B.named
  have hlocks := B.notSynchronized
  have hl := lv_entry ([.ref ha0, .int p1, .int p2]) (n := 7) (Nat.le_of_ble_eq_true rfl)
  rw [lg_entry_eq]
  generalize (lg_sl ([.ref ha0, .int p1, .int p2]) ++ List.replicate (7 - (lg_sl ([.ref ha0, .int p1, .int p2])).length) Slot.unset).toArray = ls at hl ⊢
  have hl : lv_has ls 7 [(0, .ref ha0), (1, .int p1), (2, .int p2)] := hl
  refine lv_aload_n hx hb dX12_comesWith_0 rfl (lv_at hl 0 rfl) ?_
  refine va_get (D := (dC, dI)) (ci := 12) (v := .ref ha0_1) (C := RX12) (T := TX12) (N := 38) hx hb hts in_X12_comesWith_X12 hown hK hP 6 rfl rfl 1 (by decide) (hts (.fieldLink RX12 13 "EachOnHisCueModel" "kind" "[I") (by decide +kernel)) (fun _ h9 => h9) rfl dX12_comesWith_1 ?_
  refine lv_iload_n hx hb dX12_comesWith_4 rfl (lv_at hl 1 rfl) ?_
  refine va_iald hx hb hK hP 0 0 rfl rfl (z_in (by omega) (by omega)) dX12_comesWith_5 ?_
  refine lv_topi (fun y1 ey1 => ?_)
  have gy1 : y1.toInt = (fa0_1 (p1 : Int32).toNatClampNeg).toInt := by rw [ey1]
  refine lv_iconst (v := 4) hx hb dX12_comesWith_6 (by decide) ?_
  refine lv_icmp_eq (tgt := 22) hx hb dX12_comesWith_7 (by decide) (fun hc2 => ?_) (fun hc2 => ?_)
  · have q3 : y1.toInt = 4 := z_eq rfl (by decide) hc2
    refine lv_bipush (v := (-9)) hx hb dX12_comesWith_22 (by decide) ?_
    exact W.iret (v := (-9)) hx hb hr (fun t ht hW => ⟨(-9), rfl, ⟨by first | decide | omega, by first | decide | omega, by subst ey1; rw [FX12_comesWith, if_pos hc2]⟩, ht⟩) (fun _ h => absurd h List.not_mem_nil) dX12_comesWith_24
  · have q4 : y1.toInt ≠ 4 := z_ne rfl (by decide) hc2
    refine lv_aload_n hx hb dX12_comesWith_10 rfl (lv_at hl 0 rfl) ?_
    refine va_get (D := (dC, dI)) (ci := 12) (v := .int ia0_13) (C := RX12) (T := TX12) (N := 38) hx hb hts in_X12_comesWith_X12 hown hK hP 6 rfl rfl 13 (by decide) (hts (.fieldLink RX12 154 "EachOnHisCueModel" "dead" "I") (by decide +kernel)) (fun _ h9 => h9) rfl dX12_comesWith_11 ?_
    refine lv_iload_n hx hb dX12_comesWith_14 rfl (lv_at hl 1 rfl) ?_
    refine lv_ishr hx hb dX12_comesWith_15 ?_
    refine lv_topi (fun y5 ey5 => ?_)
    refine lv_iconst (v := 1) hx hb dX12_comesWith_16 (by decide) ?_
    refine lv_iand hx hb dX12_comesWith_17 ?_
    refine lv_topi (fun y6 ey6 => ?_)
    have hy6 : 0 ≤ y6.toInt ∧ y6.toInt ≤ 1 := by rw [ey6]; exact z_and1 _
    obtain ⟨hy6, hy6_⟩ := hy6
    refine lv_iconst (v := 1) hx hb dX12_comesWith_18 (by decide) ?_
    refine lv_icmp_ne (tgt := 25) hx hb dX12_comesWith_19 (by decide) (fun hc7 => ?_) (fun hc7 => ?_)
    · have q8 : y6.toInt ≠ 1 := z_ne rfl (by decide) hc7
      refine lv_aload_n hx hb dX12_comesWith_25 rfl (lv_at hl 0 rfl) ?_
      refine va_get (D := (dC, dI)) (ci := 12) (v := .ref ha0_1) (C := RX12) (T := TX12) (N := 38) hx hb hts in_X12_comesWith_X12 hown hK hP 6 rfl rfl 1 (by decide) (hts (.fieldLink RX12 13 "EachOnHisCueModel" "kind" "[I") (by decide +kernel)) (fun _ h9 => h9) rfl dX12_comesWith_26 ?_
      refine lv_iload_n hx hb dX12_comesWith_29 rfl (lv_at hl 1 rfl) ?_
      refine va_iald hx hb hK hP 0 0 rfl rfl (z_in (by omega) (by omega)) dX12_comesWith_30 ?_
      refine lv_topi (fun y9 ey9 => ?_)
      obtain rfl : y1 = y9 := ey1.trans ey9.symm
      refine lv_iconst (v := 1) hx hb dX12_comesWith_31 (by decide) ?_
      refine lv_icmp_eq (tgt := 45) hx hb dX12_comesWith_32 (by decide) (fun hc10 => ?_) (fun hc10 => ?_)
      · have q11 : y1.toInt = 1 := z_eq rfl (by decide) hc10
        refine lv_iconst (v := 1) hx hb dX12_comesWith_45 (by decide) ?_
        refine lv_goto (tgt := 50) hx hb dX12_comesWith_46 (by decide) ?_
        refine lv_istore_n (lv' := [(3, .int 1), (0, .ref ha0), (1, .int p1), (2, .int p2)]) hx hb dX12_comesWith_50 rfl hl (by decide) rfl (fun ls hl => ?_)
        refine lv_bipush (v := (-9)) hx hb dX12_comesWith_51 (by decide) ?_
        refine lv_istore (lv' := [(4, .int (-9)), (3, .int 1), (0, .ref ha0), (1, .int p1), (2, .int p2)]) hx hb dX12_comesWith_53 hl (by decide) rfl (fun ls hl => ?_)
        refine lv_iconst (v := 0) hx hb dX12_comesWith_55 (by decide) ?_
        refine lv_istore (lv' := [(5, .int 0), (4, .int (-9)), (3, .int 1), (0, .ref ha0), (1, .int p1), (2, .int p2)]) hx hb dX12_comesWith_56 hl (by decide) rfl (fun ls hl => ?_)
        have hL201 : ∀ (n : Nat) (v12 : Int32) (v13 : Int32) (ls : Array Slot), 0 ≤ v12.toInt → v12.toInt ≤ 12 → (-9) ≤ v13.toInt → v13.toInt ≤ 11 → (FX12_comesWith fa0_1 fa0_2 fa0_4 fa0_5 fa0_6 fa0_8 ia0_10 ia0_12 ia0_13 ia0_27 ia0_28 p1 p2 = FX12_comesWith_L58_0 fa0_1 fa0_2 fa0_4 fa0_5 fa0_6 fa0_8 ia0_10 ia0_12 ia0_13 ia0_27 ia0_28 p1 p2  n v12 v13) → (12 - v12.toInt).toNat < n → lv_has ls 7 [(5, .int v12), (4, .int v13), (3, .int 1), (0, .ref ha0), (1, .int p1), (2, .int p2)] → W p l e (headSpec vsX12_comesWith ({ frames := 3, cells := 0, slots := 0, locals := 71 })).room s m ([.ref ha0, .int p1, .int p2] : List Value).toArray below meth c s.heap [] 0 0 (MQ below (vp_Si (fun r => (-9) ≤ r.toInt ∧ r.toInt ≤ 11 ∧ r = FX12_comesWith fa0_1 fa0_2 fa0_4 fa0_5 fa0_6 fa0_8 ia0_10 ia0_12 ia0_13 ia0_27 ia0_28 p1 p2)) ([.ref ha0, .int p1, .int p2] : List Value).toArray s 0 0 (fun _ => False)) (F0 m 58 ls []) := by
          intro n
          induction n with
          | zero =>
            intro v12 v13 ls hi202_0 hi202_1 hi202_2 hi202_3 hi202_F hi202_m hl
            exact absurd hi202_m (Nat.not_lt_zero _)
          | succ n ih =>
            intro v12 v13 ls hi202_0 hi202_1 hi202_2 hi202_3 hi202_F hi202_m hl
            have ih203 := ih
            refine lv_iload hx hb dX12_comesWith_58 (lv_at hl 0 rfl) ?_
            refine lv_aload_n hx hb dX12_comesWith_60 rfl (lv_at hl 3 rfl) ?_
            refine va_get (D := (dC, dI)) (ci := 12) (v := .int ia0_10) (C := RX12) (T := TX12) (N := 38) hx hb hts in_X12_comesWith_X12 hown hK hP 6 rfl rfl 10 (by decide) (hts (.fieldLink RX12 79 "EachOnHisCueModel" "lines" "I") (by decide +kernel)) (fun _ h9 => h9) rfl dX12_comesWith_61 ?_
            refine lv_icmp_ge (tgt := 154) hx hb dX12_comesWith_64 (by decide) (fun hc204 => ?_) (fun hc204 => ?_)
            · have q205 : ia0_10.toInt ≤ v12.toInt := z_le rfl rfl hc204
              refine lv_iload hx hb dX12_comesWith_154 (lv_at hl 1 rfl) ?_
              exact W.iret (v := v13) hx hb hr (fun t ht hW => ⟨v13, rfl, ⟨by first | decide | omega, by first | decide | omega, by subst ey6 ey5 ey1; rw [hi202_F, FX12_comesWith_L58_0, if_pos hc204]⟩, ht⟩) (fun _ h => absurd h List.not_mem_nil) dX12_comesWith_156
            · have q206 : v12.toInt < ia0_10.toInt := z_nle rfl rfl hc204
              refine lv_aload_n hx hb dX12_comesWith_67 rfl (lv_at hl 3 rfl) ?_
              refine va_get (D := (dC, dI)) (ci := 12) (v := .ref ha0_4) (C := RX12) (T := TX12) (N := 38) hx hb hts in_X12_comesWith_X12 hown hK hP 6 rfl rfl 4 (by decide) (hts (.fieldLink RX12 22 "EachOnHisCueModel" "whose" "[I") (by decide +kernel)) (fun _ h9 => h9) rfl dX12_comesWith_68 ?_
              refine lv_iload hx hb dX12_comesWith_71 (lv_at hl 0 rfl) ?_
              refine va_iald hx hb hK hP 2 0 rfl rfl (z_in (by omega) (by omega)) dX12_comesWith_73 ?_
              refine lv_topi (fun y207 ey207 => ?_)
              have gy207 : y207.toInt = (fa0_4 (v12 : Int32).toNatClampNeg).toInt := by rw [ey207]
              have hy207 : 0 ≤ y207.toInt ∧ y207.toInt ≤ 4 := by rw [ey207]; exact hBfa0_4 _
              obtain ⟨hy207, hy207_⟩ := hy207
              refine lv_iload_n hx hb dX12_comesWith_74 rfl (lv_at hl 4 rfl) ?_
              refine lv_icmp_ne (tgt := 148) hx hb dX12_comesWith_75 (by decide) (fun hc208 => ?_) (fun hc208 => ?_)
              · have q209 : y207.toInt ≠ p1.toInt := z_ne rfl rfl hc208
                obtain ⟨y210, ey210⟩ : ∃ y : Int32, y = v12 + 1 := ⟨_, rfl⟩
                refine lv_iinc (v := y210) (lv' := [(5, .int y210), (4, .int v13), (3, .int 1), (0, .ref ha0), (1, .int p1), (2, .int p2)]) hx hb dX12_comesWith_148 hl (k := 0) rfl (by rw [ey210]; rfl) (by decide) rfl (fun ls hl => ?_)
                have hy210 : y210.toInt = v12.toInt + 1 := by rw [ey210]; exact z_add rfl (by decide) (by omega) (by omega)
                refine lv_goto (tgt := 58) hx hb dX12_comesWith_151 (by decide) ?_
                exact ih203 y210 v13 ls (by first | decide | omega) (by first | decide | omega) hi202_2 hi202_3 (by subst ey210 ey207 ey6 ey5 ey1; rw [hi202_F, FX12_comesWith_L58_0, if_neg hc204, if_neg hc208]) (by omega) (lv_sub hl [0, 1, 2, 3, 4, 5] rfl)
              · have q211 : y207.toInt = p1.toInt := z_eq rfl rfl hc208
                refine lv_iload_n hx hb dX12_comesWith_78 rfl (lv_at hl 2 rfl) ?_
                refine lv_if_ne (tgt := 98) hx hb dX12_comesWith_79 (by decide) (fun hc212 => ?_) (fun hc212 => ?_)
                · skip
                  refine lv_aload_n hx hb dX12_comesWith_98 rfl (lv_at hl 3 rfl) ?_
                  refine lv_iload hx hb dX12_comesWith_99 (lv_at hl 0 rfl) ?_
                  refine lv_iload_n hx hb dX12_comesWith_101 rfl (lv_at hl 5 rfl) ?_
                  refine z_rdi (va_runV (As := [.int v12, .int p2]) (rest := []) ⟨hx, hb, hml, hown, hts⟩ (rX12_isCued_F l dC dI cI cQ ha0 ha0_1 ha0_2 ha0_4 ha0_5 ha0_6 ha0_8 ha0_0 ha0_3 ha0_7 ha0_16 ha0_17 ha0_18 ha0_19 ha0_23 ha0_29 ha0_33 ha0_34 ha0_35 fa0_1 fa0_2 fa0_4 hBfa0_4 fa0_5 hBfa0_5 fa0_6 hBfa0_6 fa0_8 ia0_9 hia0_9l hia0_9h ia0_10 hia0_10l hia0_10h ia0_11 ia0_12 ia0_13 ia0_14 hia0_14l hia0_14h ia0_15 ia0_20 hia0_20l hia0_20h ia0_21 hia0_21l hia0_21h ia0_22 hia0_22l hia0_22h ia0_24 hia0_24l hia0_24h ia0_25 hia0_25l hia0_25h ia0_26 hia0_26l hia0_26h ia0_27 hia0_27l hia0_27h ia0_28 ia0_30 hia0_30l hia0_30h ia0_31 ia0_32 hia0_32l hia0_32h ia0_36 hia0_36l hia0_36h ia0_37 v12 (by first | decide | omega) (by first | decide | omega) p2 hp2l hp2h) (cwV 2 hts gv_X12_comesWith_X12_isCued_188 rfl rfl rfl (by decide +kernel) ⟨Nat.le_of_ble_eq_true rfl, Nat.le_of_ble_eq_true rfl⟩) ⟨z_blindR, va_recv hK hP (ci := 12) (q0 := 6) rfl rfl, z_preR hZ hP [0, 1, 2, 3, 4, 5, 6] rfl⟩ rfl rfl hl.1 rfl (lv_room (Nat.le_of_ble_eq_true rfl)) dX12_comesWith_102 ⟨Nat.le_of_ble_eq_true rfl, Nat.le_of_ble_eq_true rfl⟩) (fun y213 hy213 => ?_)
                  obtain ⟨hy213_0, hy213_1, ey213⟩ := hy213
                  refine lv_istore (lv' := [(6, .int y213), (5, .int v12), (4, .int v13), (3, .int 1), (0, .ref ha0), (1, .int p1), (2, .int p2)]) hx hb dX12_comesWith_105 hl (by decide) rfl (fun ls hl => ?_)
                  refine lv_iload_n hx hb dX12_comesWith_107 rfl (lv_at hl 3 rfl) ?_
                  refine lv_if_ne (tgt := 124) hx hb dX12_comesWith_108 (by decide) (fun hc214 => ?_) (fun hc214 => ?_)
                  · skip
                    refine lv_iload hx hb dX12_comesWith_124 (lv_at hl 0 rfl) ?_
                    refine lv_if_eq (tgt := 148) hx hb dX12_comesWith_126 (by decide) (fun hc215 => ?_) (fun hc215 => ?_)
                    · have q216 : y213.toInt = 0 := z_eq rfl (by decide) hc215
                      obtain ⟨y217, ey217⟩ : ∃ y : Int32, y = v12 + 1 := ⟨_, rfl⟩
                      refine lv_iinc (v := y217) (lv' := [(5, .int y217), (6, .int y213), (4, .int v13), (3, .int 1), (0, .ref ha0), (1, .int p1), (2, .int p2)]) hx hb dX12_comesWith_148 hl (k := 1) rfl (by rw [ey217]; rfl) (by decide) rfl (fun ls hl => ?_)
                      have hy217 : y217.toInt = v12.toInt + 1 := by rw [ey217]; exact z_add rfl (by decide) (by omega) (by omega)
                      refine lv_goto (tgt := 58) hx hb dX12_comesWith_151 (by decide) ?_
                      exact ih203 y217 v13 ls (by first | decide | omega) (by first | decide | omega) hi202_2 hi202_3 (by subst ey217 ey213 ey207 ey6 ey5 ey1; rw [hi202_F, FX12_comesWith_L58_0, if_neg hc204, if_pos hc208, if_pos hc215]) (by omega) (lv_sub hl [0, 2, 3, 4, 5, 6] rfl)
                    · have q218 : y213.toInt ≠ 0 := z_ne rfl (by decide) hc215
                      refine lv_iload hx hb dX12_comesWith_129 (lv_at hl 2 rfl) ?_
                      refine lv_if_lt (tgt := 144) hx hb dX12_comesWith_131 (by decide) (fun hc219 => ?_) (fun hc219 => ?_)
                      · have q220 : v13.toInt < 0 := z_lt rfl (by decide) hc219
                        refine lv_iload hx hb dX12_comesWith_144 (lv_at hl 1 rfl) ?_
                        refine lv_istore (lv' := [(4, .int v12), (6, .int y213), (5, .int v12), (3, .int 1), (0, .ref ha0), (1, .int p1), (2, .int p2)]) hx hb dX12_comesWith_146 hl (by decide) rfl (fun ls hl => ?_)
                        obtain ⟨y221, ey221⟩ : ∃ y : Int32, y = v12 + 1 := ⟨_, rfl⟩
                        refine lv_iinc (v := y221) (lv' := [(5, .int y221), (4, .int v12), (6, .int y213), (3, .int 1), (0, .ref ha0), (1, .int p1), (2, .int p2)]) hx hb dX12_comesWith_148 hl (k := 2) rfl (by rw [ey221]; rfl) (by decide) rfl (fun ls hl => ?_)
                        have hy221 : y221.toInt = v12.toInt + 1 := by rw [ey221]; exact z_add rfl (by decide) (by omega) (by omega)
                        refine lv_goto (tgt := 58) hx hb dX12_comesWith_151 (by decide) ?_
                        exact ih203 y221 v12 ls (by first | decide | omega) (by first | decide | omega) (by first | decide | omega) (by first | decide | omega) (by subst ey221 ey213 ey207 ey6 ey5 ey1; rw [hi202_F, FX12_comesWith_L58_0, if_neg hc204, if_pos hc208, if_neg hc215, if_pos hc219]) (by omega) (lv_sub hl [0, 1, 3, 4, 5, 6] rfl)
                      · have q222 : 0 ≤ v13.toInt := z_nlt rfl (by decide) hc219
                        refine lv_aload_n hx hb dX12_comesWith_134 rfl (lv_at hl 4 rfl) ?_
                        refine va_get (D := (dC, dI)) (ci := 12) (v := .ref ha0_1) (C := RX12) (T := TX12) (N := 38) hx hb hts in_X12_comesWith_X12 hown hK hP 6 rfl rfl 1 (by decide) (hts (.fieldLink RX12 13 "EachOnHisCueModel" "kind" "[I") (by decide +kernel)) (fun _ h9 => h9) rfl dX12_comesWith_135 ?_
                        refine lv_iload_n hx hb dX12_comesWith_138 rfl (lv_at hl 5 rfl) ?_
                        refine va_iald hx hb hK hP 0 0 rfl rfl (z_in (by omega) (by omega)) dX12_comesWith_139 ?_
                        refine lv_topi (fun y223 ey223 => ?_)
                        obtain rfl : y1 = y223 := ey1.trans ey223.symm
                        refine lv_iconst (v := 5) hx hb dX12_comesWith_140 (by decide) ?_
                        refine lv_icmp_ne (tgt := 148) hx hb dX12_comesWith_141 (by decide) (fun hc224 => ?_) (fun hc224 => ?_)
                        · have q225 : y1.toInt ≠ 5 := z_ne rfl (by decide) hc224
                          obtain ⟨y226, ey226⟩ : ∃ y : Int32, y = v12 + 1 := ⟨_, rfl⟩
                          refine lv_iinc (v := y226) (lv' := [(5, .int y226), (6, .int y213), (4, .int v13), (3, .int 1), (0, .ref ha0), (1, .int p1), (2, .int p2)]) hx hb dX12_comesWith_148 hl (k := 1) rfl (by rw [ey226]; rfl) (by decide) rfl (fun ls hl => ?_)
                          have hy226 : y226.toInt = v12.toInt + 1 := by rw [ey226]; exact z_add rfl (by decide) (by omega) (by omega)
                          refine lv_goto (tgt := 58) hx hb dX12_comesWith_151 (by decide) ?_
                          exact ih203 y226 v13 ls (by first | decide | omega) (by first | decide | omega) hi202_2 hi202_3 (by subst ey226 ey213 ey207 ey6 ey5 ey1; rw [hi202_F, FX12_comesWith_L58_0, if_neg hc204, if_pos hc208, if_neg hc215, if_neg hc219, if_neg hc224]) (by omega) (lv_sub hl [0, 2, 3, 4, 5, 6] rfl)
                        · have q227 : y1.toInt = 5 := z_eq rfl (by decide) hc224
                          exfalso; omega
                  · exact absurd hc214 (by decide)
                · exact absurd hc212 (by decide)
        exact hL201 ((12 - (0 : Int32).toInt).toNat + 1) 0 (-9) ls (by decide) (by decide) (by decide) (by decide) (by subst ey6 ey5 ey1; rw [FX12_comesWith, if_neg hc2, if_neg hc7, if_pos hc10]) (by omega) hl
      · have q228 : y1.toInt ≠ 1 := z_ne rfl (by decide) hc10
        refine lv_aload_n hx hb dX12_comesWith_35 rfl (lv_at hl 0 rfl) ?_
        refine va_get (D := (dC, dI)) (ci := 12) (v := .ref ha0_1) (C := RX12) (T := TX12) (N := 38) hx hb hts in_X12_comesWith_X12 hown hK hP 6 rfl rfl 1 (by decide) (hts (.fieldLink RX12 13 "EachOnHisCueModel" "kind" "[I") (by decide +kernel)) (fun _ h9 => h9) rfl dX12_comesWith_36 ?_
        refine lv_iload_n hx hb dX12_comesWith_39 rfl (lv_at hl 1 rfl) ?_
        refine va_iald hx hb hK hP 0 0 rfl rfl (z_in (by omega) (by omega)) dX12_comesWith_40 ?_
        refine lv_topi (fun y229 ey229 => ?_)
        obtain rfl : y1 = y229 := ey1.trans ey229.symm
        refine lv_iconst (v := 5) hx hb dX12_comesWith_41 (by decide) ?_
        refine lv_icmp_ne (tgt := 49) hx hb dX12_comesWith_42 (by decide) (fun hc230 => ?_) (fun hc230 => ?_)
        · have q231 : y1.toInt ≠ 5 := z_ne rfl (by decide) hc230
          refine lv_iconst (v := 0) hx hb dX12_comesWith_49 (by decide) ?_
          refine lv_istore_n (lv' := [(3, .int 0), (0, .ref ha0), (1, .int p1), (2, .int p2)]) hx hb dX12_comesWith_50 rfl hl (by decide) rfl (fun ls hl => ?_)
          refine lv_bipush (v := (-9)) hx hb dX12_comesWith_51 (by decide) ?_
          refine lv_istore (lv' := [(4, .int (-9)), (3, .int 0), (0, .ref ha0), (1, .int p1), (2, .int p2)]) hx hb dX12_comesWith_53 hl (by decide) rfl (fun ls hl => ?_)
          refine lv_iconst (v := 0) hx hb dX12_comesWith_55 (by decide) ?_
          refine lv_istore (lv' := [(5, .int 0), (4, .int (-9)), (3, .int 0), (0, .ref ha0), (1, .int p1), (2, .int p2)]) hx hb dX12_comesWith_56 hl (by decide) rfl (fun ls hl => ?_)
          have hL394 : ∀ (n : Nat) (v232 : Int32) (v233 : Int32) (ls : Array Slot), 0 ≤ v232.toInt → v232.toInt ≤ 12 → (-9) ≤ v233.toInt → v233.toInt ≤ (-9) → (FX12_comesWith fa0_1 fa0_2 fa0_4 fa0_5 fa0_6 fa0_8 ia0_10 ia0_12 ia0_13 ia0_27 ia0_28 p1 p2 = FX12_comesWith_L58_1 fa0_1 fa0_2 fa0_4 fa0_5 fa0_6 fa0_8 ia0_10 ia0_12 ia0_13 ia0_27 ia0_28 p1 p2  n v232 v233) → (12 - v232.toInt).toNat < n → lv_has ls 7 [(5, .int v232), (4, .int v233), (3, .int 0), (0, .ref ha0), (1, .int p1), (2, .int p2)] → W p l e (headSpec vsX12_comesWith ({ frames := 3, cells := 0, slots := 0, locals := 71 })).room s m ([.ref ha0, .int p1, .int p2] : List Value).toArray below meth c s.heap [] 0 0 (MQ below (vp_Si (fun r => (-9) ≤ r.toInt ∧ r.toInt ≤ 11 ∧ r = FX12_comesWith fa0_1 fa0_2 fa0_4 fa0_5 fa0_6 fa0_8 ia0_10 ia0_12 ia0_13 ia0_27 ia0_28 p1 p2)) ([.ref ha0, .int p1, .int p2] : List Value).toArray s 0 0 (fun _ => False)) (F0 m 58 ls []) := by
            intro n
            induction n with
            | zero =>
              intro v232 v233 ls hi395_0 hi395_1 hi395_2 hi395_3 hi395_F hi395_m hl
              exact absurd hi395_m (Nat.not_lt_zero _)
            | succ n ih =>
              intro v232 v233 ls hi395_0 hi395_1 hi395_2 hi395_3 hi395_F hi395_m hl
              have ih396 := ih
              refine lv_iload hx hb dX12_comesWith_58 (lv_at hl 0 rfl) ?_
              refine lv_aload_n hx hb dX12_comesWith_60 rfl (lv_at hl 3 rfl) ?_
              refine va_get (D := (dC, dI)) (ci := 12) (v := .int ia0_10) (C := RX12) (T := TX12) (N := 38) hx hb hts in_X12_comesWith_X12 hown hK hP 6 rfl rfl 10 (by decide) (hts (.fieldLink RX12 79 "EachOnHisCueModel" "lines" "I") (by decide +kernel)) (fun _ h9 => h9) rfl dX12_comesWith_61 ?_
              refine lv_icmp_ge (tgt := 154) hx hb dX12_comesWith_64 (by decide) (fun hc397 => ?_) (fun hc397 => ?_)
              · have q398 : ia0_10.toInt ≤ v232.toInt := z_le rfl rfl hc397
                refine lv_iload hx hb dX12_comesWith_154 (lv_at hl 1 rfl) ?_
                exact W.iret (v := v233) hx hb hr (fun t ht hW => ⟨v233, rfl, ⟨by first | decide | omega, by first | decide | omega, by subst ey6 ey5 ey1; rw [hi395_F, FX12_comesWith_L58_1, if_pos hc397]⟩, ht⟩) (fun _ h => absurd h List.not_mem_nil) dX12_comesWith_156
              · have q399 : v232.toInt < ia0_10.toInt := z_nle rfl rfl hc397
                refine lv_aload_n hx hb dX12_comesWith_67 rfl (lv_at hl 3 rfl) ?_
                refine va_get (D := (dC, dI)) (ci := 12) (v := .ref ha0_4) (C := RX12) (T := TX12) (N := 38) hx hb hts in_X12_comesWith_X12 hown hK hP 6 rfl rfl 4 (by decide) (hts (.fieldLink RX12 22 "EachOnHisCueModel" "whose" "[I") (by decide +kernel)) (fun _ h9 => h9) rfl dX12_comesWith_68 ?_
                refine lv_iload hx hb dX12_comesWith_71 (lv_at hl 0 rfl) ?_
                refine va_iald hx hb hK hP 2 0 rfl rfl (z_in (by omega) (by omega)) dX12_comesWith_73 ?_
                refine lv_topi (fun y400 ey400 => ?_)
                have gy400 : y400.toInt = (fa0_4 (v232 : Int32).toNatClampNeg).toInt := by rw [ey400]
                have hy400 : 0 ≤ y400.toInt ∧ y400.toInt ≤ 4 := by rw [ey400]; exact hBfa0_4 _
                obtain ⟨hy400, hy400_⟩ := hy400
                refine lv_iload_n hx hb dX12_comesWith_74 rfl (lv_at hl 4 rfl) ?_
                refine lv_icmp_ne (tgt := 148) hx hb dX12_comesWith_75 (by decide) (fun hc401 => ?_) (fun hc401 => ?_)
                · have q402 : y400.toInt ≠ p1.toInt := z_ne rfl rfl hc401
                  obtain ⟨y403, ey403⟩ : ∃ y : Int32, y = v232 + 1 := ⟨_, rfl⟩
                  refine lv_iinc (v := y403) (lv' := [(5, .int y403), (4, .int v233), (3, .int 0), (0, .ref ha0), (1, .int p1), (2, .int p2)]) hx hb dX12_comesWith_148 hl (k := 0) rfl (by rw [ey403]; rfl) (by decide) rfl (fun ls hl => ?_)
                  have hy403 : y403.toInt = v232.toInt + 1 := by rw [ey403]; exact z_add rfl (by decide) (by omega) (by omega)
                  refine lv_goto (tgt := 58) hx hb dX12_comesWith_151 (by decide) ?_
                  exact ih396 y403 v233 ls (by first | decide | omega) (by first | decide | omega) hi395_2 hi395_3 (by subst ey403 ey400 ey6 ey5 ey1; rw [hi395_F, FX12_comesWith_L58_1, if_neg hc397, if_neg hc401]) (by omega) (lv_sub hl [0, 1, 2, 3, 4, 5] rfl)
                · have q404 : y400.toInt = p1.toInt := z_eq rfl rfl hc401
                  refine lv_iload_n hx hb dX12_comesWith_78 rfl (lv_at hl 2 rfl) ?_
                  refine lv_if_ne (tgt := 98) hx hb dX12_comesWith_79 (by decide) (fun hc405 => ?_) (fun hc405 => ?_)
                  · exact absurd hc405 (by decide)
                  · skip
                    refine lv_aload_n hx hb dX12_comesWith_82 rfl (lv_at hl 3 rfl) ?_
                    refine va_get (D := (dC, dI)) (ci := 12) (v := .int ia0_12) (C := RX12) (T := TX12) (N := 38) hx hb hts in_X12_comesWith_X12 hown hK hP 6 rfl rfl 12 (by decide) (hts (.fieldLink RX12 151 "EachOnHisCueModel" "said" "I") (by decide +kernel)) (fun _ h9 => h9) rfl dX12_comesWith_83 ?_
                    refine lv_iload hx hb dX12_comesWith_86 (lv_at hl 0 rfl) ?_
                    refine lv_ishr hx hb dX12_comesWith_88 ?_
                    refine lv_topi (fun y406 ey406 => ?_)
                    refine lv_iconst (v := 1) hx hb dX12_comesWith_89 (by decide) ?_
                    refine lv_iand hx hb dX12_comesWith_90 ?_
                    refine lv_topi (fun y407 ey407 => ?_)
                    have hy407 : 0 ≤ y407.toInt ∧ y407.toInt ≤ 1 := by rw [ey407]; exact z_and1 _
                    obtain ⟨hy407, hy407_⟩ := hy407
                    refine lv_iconst (v := 1) hx hb dX12_comesWith_91 (by decide) ?_
                    refine lv_icmp_ne (tgt := 98) hx hb dX12_comesWith_92 (by decide) (fun hc408 => ?_) (fun hc408 => ?_)
                    · have q409 : y407.toInt ≠ 1 := z_ne rfl (by decide) hc408
                      refine lv_aload_n hx hb dX12_comesWith_98 rfl (lv_at hl 3 rfl) ?_
                      refine lv_iload hx hb dX12_comesWith_99 (lv_at hl 0 rfl) ?_
                      refine lv_iload_n hx hb dX12_comesWith_101 rfl (lv_at hl 5 rfl) ?_
                      refine z_rdi (va_runV (As := [.int v232, .int p2]) (rest := []) ⟨hx, hb, hml, hown, hts⟩ (rX12_isCued_F l dC dI cI cQ ha0 ha0_1 ha0_2 ha0_4 ha0_5 ha0_6 ha0_8 ha0_0 ha0_3 ha0_7 ha0_16 ha0_17 ha0_18 ha0_19 ha0_23 ha0_29 ha0_33 ha0_34 ha0_35 fa0_1 fa0_2 fa0_4 hBfa0_4 fa0_5 hBfa0_5 fa0_6 hBfa0_6 fa0_8 ia0_9 hia0_9l hia0_9h ia0_10 hia0_10l hia0_10h ia0_11 ia0_12 ia0_13 ia0_14 hia0_14l hia0_14h ia0_15 ia0_20 hia0_20l hia0_20h ia0_21 hia0_21l hia0_21h ia0_22 hia0_22l hia0_22h ia0_24 hia0_24l hia0_24h ia0_25 hia0_25l hia0_25h ia0_26 hia0_26l hia0_26h ia0_27 hia0_27l hia0_27h ia0_28 ia0_30 hia0_30l hia0_30h ia0_31 ia0_32 hia0_32l hia0_32h ia0_36 hia0_36l hia0_36h ia0_37 v232 (by first | decide | omega) (by first | decide | omega) p2 hp2l hp2h) (cwV 2 hts gv_X12_comesWith_X12_isCued_188 rfl rfl rfl (by decide +kernel) ⟨Nat.le_of_ble_eq_true rfl, Nat.le_of_ble_eq_true rfl⟩) ⟨z_blindR, va_recv hK hP (ci := 12) (q0 := 6) rfl rfl, z_preR hZ hP [0, 1, 2, 3, 4, 5, 6] rfl⟩ rfl rfl hl.1 rfl (lv_room (Nat.le_of_ble_eq_true rfl)) dX12_comesWith_102 ⟨Nat.le_of_ble_eq_true rfl, Nat.le_of_ble_eq_true rfl⟩) (fun y410 hy410 => ?_)
                      obtain ⟨hy410_0, hy410_1, ey410⟩ := hy410
                      refine lv_istore (lv' := [(6, .int y410), (5, .int v232), (4, .int v233), (3, .int 0), (0, .ref ha0), (1, .int p1), (2, .int p2)]) hx hb dX12_comesWith_105 hl (by decide) rfl (fun ls hl => ?_)
                      refine lv_iload_n hx hb dX12_comesWith_107 rfl (lv_at hl 3 rfl) ?_
                      refine lv_if_ne (tgt := 124) hx hb dX12_comesWith_108 (by decide) (fun hc411 => ?_) (fun hc411 => ?_)
                      · exact absurd hc411 (by decide)
                      · skip
                        refine lv_iload hx hb dX12_comesWith_111 (lv_at hl 0 rfl) ?_
                        refine lv_if_eq (tgt := 121) hx hb dX12_comesWith_113 (by decide) (fun hc412 => ?_) (fun hc412 => ?_)
                        · have q413 : y410.toInt = 0 := z_eq rfl (by decide) hc412
                          refine lv_bipush (v := (-9)) hx hb dX12_comesWith_121 (by decide) ?_
                          exact W.iret (v := (-9)) hx hb hr (fun t ht hW => ⟨(-9), rfl, ⟨by first | decide | omega, by first | decide | omega, by subst ey410 ey407 ey406 ey400 ey6 ey5 ey1; rw [hi395_F, FX12_comesWith_L58_1, if_neg hc397, if_pos hc401, if_neg hc408, if_pos hc412]⟩, ht⟩) (fun _ h => absurd h List.not_mem_nil) dX12_comesWith_123
                        · have q414 : y410.toInt ≠ 0 := z_ne rfl (by decide) hc412
                          refine lv_iload hx hb dX12_comesWith_116 (lv_at hl 1 rfl) ?_
                          refine lv_goto (tgt := 123) hx hb dX12_comesWith_118 (by decide) ?_
                          exact W.iret (v := v232) hx hb hr (fun t ht hW => ⟨v232, rfl, ⟨by first | decide | omega, by first | decide | omega, by subst ey410 ey407 ey406 ey400 ey6 ey5 ey1; rw [hi395_F, FX12_comesWith_L58_1, if_neg hc397, if_pos hc401, if_neg hc408, if_neg hc412]⟩, ht⟩) (fun _ h => absurd h List.not_mem_nil) dX12_comesWith_123
                    · have q415 : y407.toInt = 1 := z_eq rfl (by decide) hc408
                      refine lv_goto (tgt := 148) hx hb dX12_comesWith_95 (by decide) ?_
                      obtain ⟨y416, ey416⟩ : ∃ y : Int32, y = v232 + 1 := ⟨_, rfl⟩
                      refine lv_iinc (v := y416) (lv' := [(5, .int y416), (4, .int v233), (3, .int 0), (0, .ref ha0), (1, .int p1), (2, .int p2)]) hx hb dX12_comesWith_148 hl (k := 0) rfl (by rw [ey416]; rfl) (by decide) rfl (fun ls hl => ?_)
                      have hy416 : y416.toInt = v232.toInt + 1 := by rw [ey416]; exact z_add rfl (by decide) (by omega) (by omega)
                      refine lv_goto (tgt := 58) hx hb dX12_comesWith_151 (by decide) ?_
                      exact ih396 y416 v233 ls (by first | decide | omega) (by first | decide | omega) hi395_2 hi395_3 (by subst ey416 ey407 ey406 ey400 ey6 ey5 ey1; rw [hi395_F, FX12_comesWith_L58_1, if_neg hc397, if_pos hc401, if_pos hc408]) (by omega) (lv_sub hl [0, 1, 2, 3, 4, 5] rfl)
          exact hL394 ((12 - (0 : Int32).toInt).toNat + 1) 0 (-9) ls (by decide) (by decide) (by decide) (by decide) (by subst ey6 ey5 ey1; rw [FX12_comesWith, if_neg hc2, if_neg hc7, if_neg hc10, if_neg hc230]) (by omega) hl
        · have q417 : y1.toInt = 5 := z_eq rfl (by decide) hc230
          refine lv_iconst (v := 1) hx hb dX12_comesWith_45 (by decide) ?_
          refine lv_goto (tgt := 50) hx hb dX12_comesWith_46 (by decide) ?_
          refine lv_istore_n (lv' := [(3, .int 1), (0, .ref ha0), (1, .int p1), (2, .int p2)]) hx hb dX12_comesWith_50 rfl hl (by decide) rfl (fun ls hl => ?_)
          refine lv_bipush (v := (-9)) hx hb dX12_comesWith_51 (by decide) ?_
          refine lv_istore (lv' := [(4, .int (-9)), (3, .int 1), (0, .ref ha0), (1, .int p1), (2, .int p2)]) hx hb dX12_comesWith_53 hl (by decide) rfl (fun ls hl => ?_)
          refine lv_iconst (v := 0) hx hb dX12_comesWith_55 (by decide) ?_
          refine lv_istore (lv' := [(5, .int 0), (4, .int (-9)), (3, .int 1), (0, .ref ha0), (1, .int p1), (2, .int p2)]) hx hb dX12_comesWith_56 hl (by decide) rfl (fun ls hl => ?_)
          have hL607 : ∀ (n : Nat) (v418 : Int32) (v419 : Int32) (ls : Array Slot), 0 ≤ v418.toInt → v418.toInt ≤ 12 → (-9) ≤ v419.toInt → v419.toInt ≤ 11 → (FX12_comesWith fa0_1 fa0_2 fa0_4 fa0_5 fa0_6 fa0_8 ia0_10 ia0_12 ia0_13 ia0_27 ia0_28 p1 p2 = FX12_comesWith_L58_2 fa0_1 fa0_2 fa0_4 fa0_5 fa0_6 fa0_8 ia0_10 ia0_12 ia0_13 ia0_27 ia0_28 p1 p2  n v418 v419) → (12 - v418.toInt).toNat < n → lv_has ls 7 [(5, .int v418), (4, .int v419), (3, .int 1), (0, .ref ha0), (1, .int p1), (2, .int p2)] → W p l e (headSpec vsX12_comesWith ({ frames := 3, cells := 0, slots := 0, locals := 71 })).room s m ([.ref ha0, .int p1, .int p2] : List Value).toArray below meth c s.heap [] 0 0 (MQ below (vp_Si (fun r => (-9) ≤ r.toInt ∧ r.toInt ≤ 11 ∧ r = FX12_comesWith fa0_1 fa0_2 fa0_4 fa0_5 fa0_6 fa0_8 ia0_10 ia0_12 ia0_13 ia0_27 ia0_28 p1 p2)) ([.ref ha0, .int p1, .int p2] : List Value).toArray s 0 0 (fun _ => False)) (F0 m 58 ls []) := by
            intro n
            induction n with
            | zero =>
              intro v418 v419 ls hi608_0 hi608_1 hi608_2 hi608_3 hi608_F hi608_m hl
              exact absurd hi608_m (Nat.not_lt_zero _)
            | succ n ih =>
              intro v418 v419 ls hi608_0 hi608_1 hi608_2 hi608_3 hi608_F hi608_m hl
              have ih609 := ih
              refine lv_iload hx hb dX12_comesWith_58 (lv_at hl 0 rfl) ?_
              refine lv_aload_n hx hb dX12_comesWith_60 rfl (lv_at hl 3 rfl) ?_
              refine va_get (D := (dC, dI)) (ci := 12) (v := .int ia0_10) (C := RX12) (T := TX12) (N := 38) hx hb hts in_X12_comesWith_X12 hown hK hP 6 rfl rfl 10 (by decide) (hts (.fieldLink RX12 79 "EachOnHisCueModel" "lines" "I") (by decide +kernel)) (fun _ h9 => h9) rfl dX12_comesWith_61 ?_
              refine lv_icmp_ge (tgt := 154) hx hb dX12_comesWith_64 (by decide) (fun hc610 => ?_) (fun hc610 => ?_)
              · have q611 : ia0_10.toInt ≤ v418.toInt := z_le rfl rfl hc610
                refine lv_iload hx hb dX12_comesWith_154 (lv_at hl 1 rfl) ?_
                exact W.iret (v := v419) hx hb hr (fun t ht hW => ⟨v419, rfl, ⟨by first | decide | omega, by first | decide | omega, by subst ey6 ey5 ey1; rw [hi608_F, FX12_comesWith_L58_2, if_pos hc610]⟩, ht⟩) (fun _ h => absurd h List.not_mem_nil) dX12_comesWith_156
              · have q612 : v418.toInt < ia0_10.toInt := z_nle rfl rfl hc610
                refine lv_aload_n hx hb dX12_comesWith_67 rfl (lv_at hl 3 rfl) ?_
                refine va_get (D := (dC, dI)) (ci := 12) (v := .ref ha0_4) (C := RX12) (T := TX12) (N := 38) hx hb hts in_X12_comesWith_X12 hown hK hP 6 rfl rfl 4 (by decide) (hts (.fieldLink RX12 22 "EachOnHisCueModel" "whose" "[I") (by decide +kernel)) (fun _ h9 => h9) rfl dX12_comesWith_68 ?_
                refine lv_iload hx hb dX12_comesWith_71 (lv_at hl 0 rfl) ?_
                refine va_iald hx hb hK hP 2 0 rfl rfl (z_in (by omega) (by omega)) dX12_comesWith_73 ?_
                refine lv_topi (fun y613 ey613 => ?_)
                have gy613 : y613.toInt = (fa0_4 (v418 : Int32).toNatClampNeg).toInt := by rw [ey613]
                have hy613 : 0 ≤ y613.toInt ∧ y613.toInt ≤ 4 := by rw [ey613]; exact hBfa0_4 _
                obtain ⟨hy613, hy613_⟩ := hy613
                refine lv_iload_n hx hb dX12_comesWith_74 rfl (lv_at hl 4 rfl) ?_
                refine lv_icmp_ne (tgt := 148) hx hb dX12_comesWith_75 (by decide) (fun hc614 => ?_) (fun hc614 => ?_)
                · have q615 : y613.toInt ≠ p1.toInt := z_ne rfl rfl hc614
                  obtain ⟨y616, ey616⟩ : ∃ y : Int32, y = v418 + 1 := ⟨_, rfl⟩
                  refine lv_iinc (v := y616) (lv' := [(5, .int y616), (4, .int v419), (3, .int 1), (0, .ref ha0), (1, .int p1), (2, .int p2)]) hx hb dX12_comesWith_148 hl (k := 0) rfl (by rw [ey616]; rfl) (by decide) rfl (fun ls hl => ?_)
                  have hy616 : y616.toInt = v418.toInt + 1 := by rw [ey616]; exact z_add rfl (by decide) (by omega) (by omega)
                  refine lv_goto (tgt := 58) hx hb dX12_comesWith_151 (by decide) ?_
                  exact ih609 y616 v419 ls (by first | decide | omega) (by first | decide | omega) hi608_2 hi608_3 (by subst ey616 ey613 ey6 ey5 ey1; rw [hi608_F, FX12_comesWith_L58_2, if_neg hc610, if_neg hc614]) (by omega) (lv_sub hl [0, 1, 2, 3, 4, 5] rfl)
                · have q617 : y613.toInt = p1.toInt := z_eq rfl rfl hc614
                  refine lv_iload_n hx hb dX12_comesWith_78 rfl (lv_at hl 2 rfl) ?_
                  refine lv_if_ne (tgt := 98) hx hb dX12_comesWith_79 (by decide) (fun hc618 => ?_) (fun hc618 => ?_)
                  · skip
                    refine lv_aload_n hx hb dX12_comesWith_98 rfl (lv_at hl 3 rfl) ?_
                    refine lv_iload hx hb dX12_comesWith_99 (lv_at hl 0 rfl) ?_
                    refine lv_iload_n hx hb dX12_comesWith_101 rfl (lv_at hl 5 rfl) ?_
                    refine z_rdi (va_runV (As := [.int v418, .int p2]) (rest := []) ⟨hx, hb, hml, hown, hts⟩ (rX12_isCued_F l dC dI cI cQ ha0 ha0_1 ha0_2 ha0_4 ha0_5 ha0_6 ha0_8 ha0_0 ha0_3 ha0_7 ha0_16 ha0_17 ha0_18 ha0_19 ha0_23 ha0_29 ha0_33 ha0_34 ha0_35 fa0_1 fa0_2 fa0_4 hBfa0_4 fa0_5 hBfa0_5 fa0_6 hBfa0_6 fa0_8 ia0_9 hia0_9l hia0_9h ia0_10 hia0_10l hia0_10h ia0_11 ia0_12 ia0_13 ia0_14 hia0_14l hia0_14h ia0_15 ia0_20 hia0_20l hia0_20h ia0_21 hia0_21l hia0_21h ia0_22 hia0_22l hia0_22h ia0_24 hia0_24l hia0_24h ia0_25 hia0_25l hia0_25h ia0_26 hia0_26l hia0_26h ia0_27 hia0_27l hia0_27h ia0_28 ia0_30 hia0_30l hia0_30h ia0_31 ia0_32 hia0_32l hia0_32h ia0_36 hia0_36l hia0_36h ia0_37 v418 (by first | decide | omega) (by first | decide | omega) p2 hp2l hp2h) (cwV 2 hts gv_X12_comesWith_X12_isCued_188 rfl rfl rfl (by decide +kernel) ⟨Nat.le_of_ble_eq_true rfl, Nat.le_of_ble_eq_true rfl⟩) ⟨z_blindR, va_recv hK hP (ci := 12) (q0 := 6) rfl rfl, z_preR hZ hP [0, 1, 2, 3, 4, 5, 6] rfl⟩ rfl rfl hl.1 rfl (lv_room (Nat.le_of_ble_eq_true rfl)) dX12_comesWith_102 ⟨Nat.le_of_ble_eq_true rfl, Nat.le_of_ble_eq_true rfl⟩) (fun y619 hy619 => ?_)
                    obtain ⟨hy619_0, hy619_1, ey619⟩ := hy619
                    refine lv_istore (lv' := [(6, .int y619), (5, .int v418), (4, .int v419), (3, .int 1), (0, .ref ha0), (1, .int p1), (2, .int p2)]) hx hb dX12_comesWith_105 hl (by decide) rfl (fun ls hl => ?_)
                    refine lv_iload_n hx hb dX12_comesWith_107 rfl (lv_at hl 3 rfl) ?_
                    refine lv_if_ne (tgt := 124) hx hb dX12_comesWith_108 (by decide) (fun hc620 => ?_) (fun hc620 => ?_)
                    · skip
                      refine lv_iload hx hb dX12_comesWith_124 (lv_at hl 0 rfl) ?_
                      refine lv_if_eq (tgt := 148) hx hb dX12_comesWith_126 (by decide) (fun hc621 => ?_) (fun hc621 => ?_)
                      · have q622 : y619.toInt = 0 := z_eq rfl (by decide) hc621
                        obtain ⟨y623, ey623⟩ : ∃ y : Int32, y = v418 + 1 := ⟨_, rfl⟩
                        refine lv_iinc (v := y623) (lv' := [(5, .int y623), (6, .int y619), (4, .int v419), (3, .int 1), (0, .ref ha0), (1, .int p1), (2, .int p2)]) hx hb dX12_comesWith_148 hl (k := 1) rfl (by rw [ey623]; rfl) (by decide) rfl (fun ls hl => ?_)
                        have hy623 : y623.toInt = v418.toInt + 1 := by rw [ey623]; exact z_add rfl (by decide) (by omega) (by omega)
                        refine lv_goto (tgt := 58) hx hb dX12_comesWith_151 (by decide) ?_
                        exact ih609 y623 v419 ls (by first | decide | omega) (by first | decide | omega) hi608_2 hi608_3 (by subst ey623 ey619 ey613 ey6 ey5 ey1; rw [hi608_F, FX12_comesWith_L58_2, if_neg hc610, if_pos hc614, if_pos hc621]) (by omega) (lv_sub hl [0, 2, 3, 4, 5, 6] rfl)
                      · have q624 : y619.toInt ≠ 0 := z_ne rfl (by decide) hc621
                        refine lv_iload hx hb dX12_comesWith_129 (lv_at hl 2 rfl) ?_
                        refine lv_if_lt (tgt := 144) hx hb dX12_comesWith_131 (by decide) (fun hc625 => ?_) (fun hc625 => ?_)
                        · have q626 : v419.toInt < 0 := z_lt rfl (by decide) hc625
                          refine lv_iload hx hb dX12_comesWith_144 (lv_at hl 1 rfl) ?_
                          refine lv_istore (lv' := [(4, .int v418), (6, .int y619), (5, .int v418), (3, .int 1), (0, .ref ha0), (1, .int p1), (2, .int p2)]) hx hb dX12_comesWith_146 hl (by decide) rfl (fun ls hl => ?_)
                          obtain ⟨y627, ey627⟩ : ∃ y : Int32, y = v418 + 1 := ⟨_, rfl⟩
                          refine lv_iinc (v := y627) (lv' := [(5, .int y627), (4, .int v418), (6, .int y619), (3, .int 1), (0, .ref ha0), (1, .int p1), (2, .int p2)]) hx hb dX12_comesWith_148 hl (k := 2) rfl (by rw [ey627]; rfl) (by decide) rfl (fun ls hl => ?_)
                          have hy627 : y627.toInt = v418.toInt + 1 := by rw [ey627]; exact z_add rfl (by decide) (by omega) (by omega)
                          refine lv_goto (tgt := 58) hx hb dX12_comesWith_151 (by decide) ?_
                          exact ih609 y627 v418 ls (by first | decide | omega) (by first | decide | omega) (by first | decide | omega) (by first | decide | omega) (by subst ey627 ey619 ey613 ey6 ey5 ey1; rw [hi608_F, FX12_comesWith_L58_2, if_neg hc610, if_pos hc614, if_neg hc621, if_pos hc625]) (by omega) (lv_sub hl [0, 1, 3, 4, 5, 6] rfl)
                        · have q628 : 0 ≤ v419.toInt := z_nlt rfl (by decide) hc625
                          refine lv_aload_n hx hb dX12_comesWith_134 rfl (lv_at hl 4 rfl) ?_
                          refine va_get (D := (dC, dI)) (ci := 12) (v := .ref ha0_1) (C := RX12) (T := TX12) (N := 38) hx hb hts in_X12_comesWith_X12 hown hK hP 6 rfl rfl 1 (by decide) (hts (.fieldLink RX12 13 "EachOnHisCueModel" "kind" "[I") (by decide +kernel)) (fun _ h9 => h9) rfl dX12_comesWith_135 ?_
                          refine lv_iload_n hx hb dX12_comesWith_138 rfl (lv_at hl 5 rfl) ?_
                          refine va_iald hx hb hK hP 0 0 rfl rfl (z_in (by omega) (by omega)) dX12_comesWith_139 ?_
                          refine lv_topi (fun y629 ey629 => ?_)
                          obtain rfl : y1 = y629 := ey1.trans ey629.symm
                          refine lv_iconst (v := 5) hx hb dX12_comesWith_140 (by decide) ?_
                          refine lv_icmp_ne (tgt := 148) hx hb dX12_comesWith_141 (by decide) (fun hc630 => ?_) (fun hc630 => ?_)
                          · have q631 : y1.toInt ≠ 5 := z_ne rfl (by decide) hc630
                            exfalso; omega
                          · have q632 : y1.toInt = 5 := z_eq rfl (by decide) hc630
                            refine lv_iload hx hb dX12_comesWith_144 (lv_at hl 1 rfl) ?_
                            refine lv_istore (lv' := [(4, .int v418), (6, .int y619), (5, .int v418), (3, .int 1), (0, .ref ha0), (1, .int p1), (2, .int p2)]) hx hb dX12_comesWith_146 hl (by decide) rfl (fun ls hl => ?_)
                            obtain ⟨y633, ey633⟩ : ∃ y : Int32, y = v418 + 1 := ⟨_, rfl⟩
                            refine lv_iinc (v := y633) (lv' := [(5, .int y633), (4, .int v418), (6, .int y619), (3, .int 1), (0, .ref ha0), (1, .int p1), (2, .int p2)]) hx hb dX12_comesWith_148 hl (k := 2) rfl (by rw [ey633]; rfl) (by decide) rfl (fun ls hl => ?_)
                            have hy633 : y633.toInt = v418.toInt + 1 := by rw [ey633]; exact z_add rfl (by decide) (by omega) (by omega)
                            refine lv_goto (tgt := 58) hx hb dX12_comesWith_151 (by decide) ?_
                            exact ih609 y633 v418 ls (by first | decide | omega) (by first | decide | omega) (by first | decide | omega) (by first | decide | omega) (by subst ey633 ey619 ey613 ey6 ey5 ey1; rw [hi608_F, FX12_comesWith_L58_2, if_neg hc610, if_pos hc614, if_neg hc621, if_neg hc625, if_pos hc630]) (by omega) (lv_sub hl [0, 1, 3, 4, 5, 6] rfl)
                    · exact absurd hc620 (by decide)
                  · exact absurd hc618 (by decide)
          exact hL607 ((12 - (0 : Int32).toInt).toNat + 1) 0 (-9) ls (by decide) (by decide) (by decide) (by decide) (by subst ey6 ey5 ey1; rw [FX12_comesWith, if_neg hc2, if_neg hc7, if_neg hc10, if_pos hc230]) (by omega) hl
    · have q634 : y6.toInt = 1 := z_eq rfl (by decide) hc7
      refine lv_bipush (v := (-9)) hx hb dX12_comesWith_22 (by decide) ?_
      exact W.iret (v := (-9)) hx hb hr (fun t ht hW => ⟨(-9), rfl, ⟨by first | decide | omega, by first | decide | omega, by subst ey6 ey5 ey1; rw [FX12_comesWith, if_neg hc2, if_pos hc7]⟩, ht⟩) (fun _ h => absurd h List.not_mem_nil) dX12_comesWith_24
set_option maxHeartbeats 4000000 in
set_option maxRecDepth 100000 in
theorem wX12_draw_F (l : Launch) (dC : Nat → ClassId) (dI : Nat → Nat → Nat) (cI cQ : ClassId) (ha0 ha0_0 ha0_1 ha0_2 ha0_3 ha0_4 ha0_5 ha0_6 ha0_7 ha0_8 ha0_16 ha0_17 ha0_18 ha0_19 ha0_23 ha0_29 ha0_33 ha0_34 ha0_35 : Nat) (ia0_9 : Int32) (hia0_9l : 0 ≤ ia0_9.toInt) (hia0_9h : ia0_9.toInt ≤ 5) (ia0_10 : Int32) (hia0_10l : 0 ≤ ia0_10.toInt) (hia0_10h : ia0_10.toInt ≤ 12) (ia0_11 : Int32) (ia0_12 : Int32) (ia0_13 : Int32) (ia0_14 : Int32) (hia0_14l : (-9) ≤ ia0_14.toInt) (hia0_14h : ia0_14.toInt ≤ 11) (ia0_15 : Int32) (ia0_20 : Int32) (hia0_20l : 0 ≤ ia0_20.toInt) (hia0_20h : ia0_20.toInt ≤ 80) (ia0_21 : Int32) (hia0_21l : 0 ≤ ia0_21.toInt) (hia0_21h : ia0_21.toInt ≤ 80) (ia0_22 : Int32) (hia0_22l : 0 ≤ ia0_22.toInt) (hia0_22h : ia0_22.toInt ≤ 40) (ia0_24 : Int32) (hia0_24l : 0 ≤ ia0_24.toInt) (hia0_24h : ia0_24.toInt ≤ 1) (ia0_25 : Int32) (hia0_25l : 0 ≤ ia0_25.toInt) (hia0_25h : ia0_25.toInt ≤ 1) (ia0_26 : Int32) (hia0_26l : 0 ≤ ia0_26.toInt) (hia0_26h : ia0_26.toInt ≤ 300) (ia0_27 : Int32) (hia0_27l : (-9) ≤ ia0_27.toInt) (hia0_27h : ia0_27.toInt ≤ 11) (ia0_28 : Int32) (ia0_30 : Int32) (hia0_30l : 0 ≤ ia0_30.toInt) (hia0_30h : ia0_30.toInt ≤ 60) (ia0_31 : Int32) (ia0_32 : Int32) (hia0_32l : 0 ≤ ia0_32.toInt) (hia0_32h : ia0_32.toInt ≤ 1) (ia0_36 : Int32) (hia0_36l : 0 ≤ ia0_36.toInt) (hia0_36h : ia0_36.toInt ≤ 12) (ia0_37 : Int32) (p1 : Int32) (hp1l : 1 ≤ p1.toInt) (hp1h : p1.toInt ≤ 5) (sz : Nat) : Met l yX12_draw vsX12_draw ({ frames := 0, cells := 0, slots := 0, locals := 0 }) (va_Pc [.ref ha0, .int p1] (zB dC dI cI cQ [(ha0, .inr (12, [.ref ha0_0, .ref ha0_1, .ref ha0_2, .ref ha0_3, .ref ha0_4, .ref ha0_5, .ref ha0_6, .ref ha0_7, .ref ha0_8, .int ia0_9, .int ia0_10, .int ia0_11, .int ia0_12, .int ia0_13, .int ia0_14, .int ia0_15, .ref ha0_16, .ref ha0_17, .ref ha0_18, .ref ha0_19, .int ia0_20, .int ia0_21, .int ia0_22, .ref ha0_23, .int ia0_24, .int ia0_25, .int ia0_26, .int ia0_27, .int ia0_28, .ref ha0_29, .int ia0_30, .int ia0_31, .int ia0_32, .ref ha0_33, .ref ha0_34, .ref ha0_35, .int ia0_36, .int ia0_37]))] sz)) (zWi dC dI (va_A [(ha0, .inr (12, [.ref ha0_0, .ref ha0_1, .ref ha0_2, .ref ha0_3, .ref ha0_4, .ref ha0_5, .ref ha0_6, .ref ha0_7, .ref ha0_8, .int ia0_9, .int ia0_10, .int ia0_11, .int ia0_12, .int ia0_13, .int ia0_14, .int ia0_15, .ref ha0_16, .ref ha0_17, .ref ha0_18, .ref ha0_19, .int ia0_20, .int ia0_21, .int ia0_22, .ref ha0_23, .int ia0_24, .int ia0_25, .int ia0_26, .int ia0_27, .int ia0_28, .ref ha0_29, .int ia0_30, .int ia0_31, .int ia0_32, .ref ha0_33, .ref ha0_34, .ref ha0_35, .int ia0_36, .int ia0_37]))] sz) (fun u => [(ha0, .inr (12, [.ref ha0_0, .ref ha0_1, .ref ha0_2, .ref ha0_3, .ref ha0_4, .ref ha0_5, .ref ha0_6, .ref ha0_7, .ref ha0_8, .int ia0_9, .int ia0_10, .int ia0_11, .int ia0_12, .int ia0_13, .int ia0_14, .int ia0_15, .ref ha0_16, .ref ha0_17, .ref ha0_18, .ref ha0_19, .int ia0_20, .int ia0_21, .int ia0_22, .ref ha0_23, .int ia0_24, .int ia0_25, .int ia0_26, .int ia0_27, .int ia0_28, .ref ha0_29, .int ia0_30, .int ia0_31, .int ia0_32, .ref ha0_33, .ref ha0_34, .ref ha0_35, .int ia0_36, .int (u.1 0)]))]) (fun r u => ((-2147483648) ≤ (u.1 0).toInt ∧ (u.1 0).toInt ≤ 2147483647) ∧ ((-2147483648) ≤ r.toInt ∧ r.toInt ≤ 2147483647) ∧ (r.toInt < p1.toInt ∧ 0 ≤ r.toInt))) 0 0 (va_A [(ha0, .inr (12, [.ref ha0_0, .ref ha0_1, .ref ha0_2, .ref ha0_3, .ref ha0_4, .ref ha0_5, .ref ha0_6, .ref ha0_7, .ref ha0_8, .int ia0_9, .int ia0_10, .int ia0_11, .int ia0_12, .int ia0_13, .int ia0_14, .int ia0_15, .ref ha0_16, .ref ha0_17, .ref ha0_18, .ref ha0_19, .int ia0_20, .int ia0_21, .int ia0_22, .ref ha0_23, .int ia0_24, .int ia0_25, .int ia0_26, .int ia0_27, .int ia0_28, .ref ha0_29, .int ia0_30, .int ia0_31, .int ia0_32, .ref ha0_33, .ref ha0_34, .ref ha0_35, .int ia0_36, .int ia0_37]))] sz) := by
  refine Met.ofW (cc := cX12_draw) (maxL := 2) (ret := (some .int)) (by decide) rfl ?_
  intro p e s m args below meth c s₁ B hml hv
  obtain ⟨rfl, hsz, hP, hZ, hD0⟩ := hv
  obtain ⟨hK, hAO, hN⟩ := id hZ
  have hx := B.exec
  have hb := B.bytes
  have hr := B.returns
  have hts := atoms_spec (ws := vsX12_draw) B.pre
  have hown : s.vm.findClass RX12 = some m.cls := findClass_of_methodNamed B.named
  have hlocks := B.notSynchronized
  subst hsz
  have hD := hD0.self (sz := s.heap.size)
  generalize hAe : va_A [(ha0, .inr (12, [.ref ha0_0, .ref ha0_1, .ref ha0_2, .ref ha0_3, .ref ha0_4, .ref ha0_5, .ref ha0_6, .ref ha0_7, .ref ha0_8, .int ia0_9, .int ia0_10, .int ia0_11, .int ia0_12, .int ia0_13, .int ia0_14, .int ia0_15, .ref ha0_16, .ref ha0_17, .ref ha0_18, .ref ha0_19, .int ia0_20, .int ia0_21, .int ia0_22, .ref ha0_23, .int ia0_24, .int ia0_25, .int ia0_26, .int ia0_27, .int ia0_28, .ref ha0_29, .int ia0_30, .int ia0_31, .int ia0_32, .ref ha0_33, .ref ha0_34, .ref ha0_35, .int ia0_36, .int ia0_37]))] s.heap.size = A at hD ⊢
  have hA : ∀ q : Nat, s.heap.size ≤ q → A q := fun q h => by rw [← hAe]; exact Or.inr h
  have hS : va_S A s.heap s.heap [] := va_S.rf
  have hP : va_P (dC, dI) vwCl [(ha0, .inr (12, [.ref ha0_0, .ref ha0_1, .ref ha0_2, .ref ha0_3, .ref ha0_4, .ref ha0_5, .ref ha0_6, .ref ha0_7, .ref ha0_8, .int ia0_9, .int ia0_10, .int ia0_11, .int ia0_12, .int ia0_13, .int ia0_14, .int ia0_15, .ref ha0_16, .ref ha0_17, .ref ha0_18, .ref ha0_19, .int ia0_20, .int ia0_21, .int ia0_22, .ref ha0_23, .int ia0_24, .int ia0_25, .int ia0_26, .int ia0_27, .int ia0_28, .ref ha0_29, .int ia0_30, .int ia0_31, .int ia0_32, .ref ha0_33, .ref ha0_34, .ref ha0_35, .int ia0_36, .int ia0_37]))] s.heap := hP
  have hl := lv_entry ([.ref ha0, .int p1]) (n := 2) (Nat.le_of_ble_eq_true rfl)
  rw [lg_entry_eq]
  generalize (lg_sl ([.ref ha0, .int p1]) ++ List.replicate (2 - (lg_sl ([.ref ha0, .int p1])).length) Slot.unset).toArray = ls at hl ⊢
  have hl : lv_has ls 2 [(0, .ref ha0), (1, .int p1)] := hl
  refine lv_aload_n hx hb dX12_draw_0 rfl (lv_at hl 0 rfl) ?_
  refine lv_aload_n hx hb dX12_draw_1 rfl (lv_at hl 0 rfl) ?_
  refine va_get (D := (dC, dI)) (ci := 12) (v := .int ia0_37) (C := RX12) (T := TX12) (N := 38) hx hb hts in_X12_draw_X12 hown hK hP 0 rfl rfl 37 (by decide) (hts (.fieldLink RX12 279 "EachOnHisCueModel" "lots" "I") (by decide +kernel)) (fun _ h9 => h9) rfl dX12_draw_2 ?_
  refine lv_ldcw (own := RX12) (v := 1103515245) hx hb hown (hts (.constant RX12 282 (1103515245)) (by decide +kernel)) dX12_draw_5 ?_
  refine lv_imul hx hb dX12_draw_8 ?_
  refine lv_topi (fun y1 ey1 => ?_)
  refine lv_sipush (v := 12345) hx hb dX12_draw_9 (by decide) ?_
  refine lv_iadd hx hb dX12_draw_12 ?_
  refine lv_topi (fun y2 ey2 => ?_)
  refine va_put (D := (dC, dI)) (ci := 12) (v := .int y2) (ty := .int) (C := RX12) (T := TX12) (N := 38) hx hb hts in_X12_draw_X12 tyX12 tyX12_ok nmX12 hown hK hP hD hS 0 rfl rfl 37 (by decide) (hts (.fieldLink RX12 279 "EachOnHisCueModel" "lots" "I") (by decide +kernel)) (fun _ h9 => h9) rfl (by decide +kernel) rfl rfl (Nat.le_of_ble_eq_true rfl) dX12_draw_13 (fun H locs hP hD hS => ?_)
  have hP : va_P (dC, dI) vwCl [(ha0, .inr (12, [.ref ha0_0, .ref ha0_1, .ref ha0_2, .ref ha0_3, .ref ha0_4, .ref ha0_5, .ref ha0_6, .ref ha0_7, .ref ha0_8, .int ia0_9, .int ia0_10, .int ia0_11, .int ia0_12, .int ia0_13, .int ia0_14, .int ia0_15, .ref ha0_16, .ref ha0_17, .ref ha0_18, .ref ha0_19, .int ia0_20, .int ia0_21, .int ia0_22, .ref ha0_23, .int ia0_24, .int ia0_25, .int ia0_26, .int ia0_27, .int ia0_28, .ref ha0_29, .int ia0_30, .int ia0_31, .int ia0_32, .ref ha0_33, .ref ha0_34, .ref ha0_35, .int ia0_36, .int y2]))] H := hP
  have hD : va_D A [(ha0, .inr (12, [.ref ha0_0, .ref ha0_1, .ref ha0_2, .ref ha0_3, .ref ha0_4, .ref ha0_5, .ref ha0_6, .ref ha0_7, .ref ha0_8, .int ia0_9, .int ia0_10, .int ia0_11, .int ia0_12, .int ia0_13, .int ia0_14, .int ia0_15, .ref ha0_16, .ref ha0_17, .ref ha0_18, .ref ha0_19, .int ia0_20, .int ia0_21, .int ia0_22, .ref ha0_23, .int ia0_24, .int ia0_25, .int ia0_26, .int ia0_27, .int ia0_28, .ref ha0_29, .int ia0_30, .int ia0_31, .int ia0_32, .ref ha0_33, .ref ha0_34, .ref ha0_35, .int ia0_36, .int y2]))] := hD
  refine lv_aload_n hx hb dX12_draw_16 rfl (lv_at hl 0 rfl) ?_
  refine va_get (D := (dC, dI)) (ci := 12) (v := .int y2) (C := RX12) (T := TX12) (N := 38) hx hb hts in_X12_draw_X12 hown hK hP 0 rfl rfl 37 (by decide) (hts (.fieldLink RX12 279 "EachOnHisCueModel" "lots" "I") (by decide +kernel)) (fun _ h9 => h9) rfl dX12_draw_17 ?_
  refine lv_ldcw (own := RX12) (v := 2147483647) hx hb hown (hts (.constant RX12 283 (2147483647)) (by decide +kernel)) dX12_draw_20 ?_
  refine lv_iand hx hb dX12_draw_23 ?_
  refine lv_topi (fun y3 ey3 => ?_)
  refine lv_ldcw (own := RX12) (v := 65536) hx hb hown (hts (.constant RX12 284 (65536)) (by decide +kernel)) dX12_draw_24 ?_
  refine lv_idiv hx hb dX12_draw_27 (by decide) ?_
  refine lv_topi (fun y4 ey4 => ?_)
  refine lv_iload_n hx hb dX12_draw_28 rfl (lv_at hl 1 rfl) ?_
  refine lv_irem hx hb dX12_draw_29 (z_n0 (by omega)) ?_
  refine lv_topi (fun y5 ey5 => ?_)
  have hA : 0 ≤ y3.toInt := by rw [ey3]; exact z_and31 _
  have hB : 0 ≤ y4.toInt ∧ y4.toInt ≤ 32767 := by rw [ey4]; exact z_divp hA
  have hC : 0 ≤ y5.toInt ∧ y5.toInt < p1.toInt := by rw [ey5]; exact z_remp (by omega) (by omega)
  have hP9 := hP.sub (ws' := [(ha0, .inr (12, [.ref ha0_0, .ref ha0_1, .ref ha0_2, .ref ha0_3, .ref ha0_4, .ref ha0_5, .ref ha0_6, .ref ha0_7, .ref ha0_8, .int ia0_9, .int ia0_10, .int ia0_11, .int ia0_12, .int ia0_13, .int ia0_14, .int ia0_15, .ref ha0_16, .ref ha0_17, .ref ha0_18, .ref ha0_19, .int ia0_20, .int ia0_21, .int ia0_22, .ref ha0_23, .int ia0_24, .int ia0_25, .int ia0_26, .int ia0_27, .int ia0_28, .ref ha0_29, .int ia0_30, .int ia0_31, .int ia0_32, .ref ha0_33, .ref ha0_34, .ref ha0_35, .int ia0_36, .int y2]))]) [0] rfl
  have hD9 := hD.sub (ws' := [(ha0, .inr (12, [.ref ha0_0, .ref ha0_1, .ref ha0_2, .ref ha0_3, .ref ha0_4, .ref ha0_5, .ref ha0_6, .ref ha0_7, .ref ha0_8, .int ia0_9, .int ia0_10, .int ia0_11, .int ia0_12, .int ia0_13, .int ia0_14, .int ia0_15, .ref ha0_16, .ref ha0_17, .ref ha0_18, .ref ha0_19, .int ia0_20, .int ia0_21, .int ia0_22, .ref ha0_23, .int ia0_24, .int ia0_25, .int ia0_26, .int ia0_27, .int ia0_28, .ref ha0_29, .int ia0_30, .int ia0_31, .int ia0_32, .ref ha0_33, .ref ha0_34, .ref ha0_35, .int ia0_36, .int y2]))]) [0] (by decide) rfl
  have hpo : ((y5 : Int32).toInt < p1.toInt ∧ 0 ≤ (y5 : Int32).toInt) := by first | omega | decide | (simp; omega)
  exact W.iret (v := y5) hx hb hr (fun t ht hW => ⟨⟨y5, (fun k => [y2].getD k 0, fun k => [].getD k (fun _ => 0)), rfl, (show ((-2147483648) ≤ (y2 : Int32).toInt ∧ (y2 : Int32).toInt ≤ 2147483647) ∧ ((-2147483648) ≤ (y5 : Int32).toInt ∧ (y5 : Int32).toInt ≤ 2147483647) ∧ (((y5 : Int32).toInt < p1.toInt ∧ 0 ≤ (y5 : Int32).toInt)) from ⟨⟨(z_lo _), (z_hi _)⟩, ⟨z_lo _, z_hi _⟩, hpo⟩), by rw [ht]; exact hP9, hD9⟩, hS.F ht⟩) hS.2.2 dX12_draw_30
set_option maxRecDepth 20000 in
theorem edX12_lotFollower_0 : decode cX12_lotFollower 0 = .ok (.iconst 0, 1) ∧ decode cX12_lotFollower 1 = .ok (.istore_n 1, 1) ∧ decode cX12_lotFollower 2 = .ok (.iconst 0, 1) ∧ decode cX12_lotFollower 3 = .ok (.istore_n 2, 1) ∧ decode cX12_lotFollower 4 = .ok (.iload_n 2, 1) ∧ decode cX12_lotFollower 5 = .ok (.aload_n 0, 1) ∧ decode cX12_lotFollower 6 = .ok (.getfield 76, 3) ∧ decode cX12_lotFollower 9 = .ok (.if_icmp .ge 29, 3) ∧ decode cX12_lotFollower 12 = .ok (.iload_n 1, 1) ∧ decode cX12_lotFollower 13 = .ok (.aload_n 0, 1) ∧ decode cX12_lotFollower 14 = .ok (.iload_n 2, 1) ∧ decode cX12_lotFollower 15 = .ok (.aload_n 0, 1) := by decide +kernel
theorem dX12_lotFollower_0 : decode cX12_lotFollower 0 = .ok (.iconst 0, 1) := edX12_lotFollower_0.1
theorem dX12_lotFollower_1 : decode cX12_lotFollower 1 = .ok (.istore_n 1, 1) := edX12_lotFollower_0.2.1
theorem dX12_lotFollower_2 : decode cX12_lotFollower 2 = .ok (.iconst 0, 1) := edX12_lotFollower_0.2.2.1
theorem dX12_lotFollower_3 : decode cX12_lotFollower 3 = .ok (.istore_n 2, 1) := edX12_lotFollower_0.2.2.2.1
theorem dX12_lotFollower_4 : decode cX12_lotFollower 4 = .ok (.iload_n 2, 1) := edX12_lotFollower_0.2.2.2.2.1
theorem dX12_lotFollower_5 : decode cX12_lotFollower 5 = .ok (.aload_n 0, 1) := edX12_lotFollower_0.2.2.2.2.2.1
theorem dX12_lotFollower_6 : decode cX12_lotFollower 6 = .ok (.getfield 76, 3) := edX12_lotFollower_0.2.2.2.2.2.2.1
theorem dX12_lotFollower_9 : decode cX12_lotFollower 9 = .ok (.if_icmp .ge 29, 3) := edX12_lotFollower_0.2.2.2.2.2.2.2.1
theorem dX12_lotFollower_12 : decode cX12_lotFollower 12 = .ok (.iload_n 1, 1) := edX12_lotFollower_0.2.2.2.2.2.2.2.2.1
theorem dX12_lotFollower_13 : decode cX12_lotFollower 13 = .ok (.aload_n 0, 1) := edX12_lotFollower_0.2.2.2.2.2.2.2.2.2.1
theorem dX12_lotFollower_14 : decode cX12_lotFollower 14 = .ok (.iload_n 2, 1) := edX12_lotFollower_0.2.2.2.2.2.2.2.2.2.2.1
theorem dX12_lotFollower_15 : decode cX12_lotFollower 15 = .ok (.aload_n 0, 1) := edX12_lotFollower_0.2.2.2.2.2.2.2.2.2.2.2
set_option maxRecDepth 20000 in
theorem edX12_lotFollower_16 : decode cX12_lotFollower 16 = .ok (.getfield 41, 3) ∧ decode cX12_lotFollower 19 = .ok (.invokevirtual 192, 3) ∧ decode cX12_lotFollower 22 = .ok (.ifCond .lt 7, 3) ∧ decode cX12_lotFollower 25 = .ok (.iconst 1, 1) ∧ decode cX12_lotFollower 26 = .ok (.goto 4, 3) ∧ decode cX12_lotFollower 29 = .ok (.iconst 0, 1) ∧ decode cX12_lotFollower 30 = .ok (.iadd, 1) ∧ decode cX12_lotFollower 31 = .ok (.istore_n 1, 1) ∧ decode cX12_lotFollower 32 = .ok (.iinc 2 1, 3) ∧ decode cX12_lotFollower 35 = .ok (.goto (-31), 3) ∧ decode cX12_lotFollower 38 = .ok (.iload_n 1, 1) ∧ decode cX12_lotFollower 39 = .ok (.ifCond .ne 6, 3) := by decide +kernel
theorem dX12_lotFollower_16 : decode cX12_lotFollower 16 = .ok (.getfield 41, 3) := edX12_lotFollower_16.1
theorem dX12_lotFollower_19 : decode cX12_lotFollower 19 = .ok (.invokevirtual 192, 3) := edX12_lotFollower_16.2.1
theorem dX12_lotFollower_22 : decode cX12_lotFollower 22 = .ok (.ifCond .lt 7, 3) := edX12_lotFollower_16.2.2.1
theorem dX12_lotFollower_25 : decode cX12_lotFollower 25 = .ok (.iconst 1, 1) := edX12_lotFollower_16.2.2.2.1
theorem dX12_lotFollower_26 : decode cX12_lotFollower 26 = .ok (.goto 4, 3) := edX12_lotFollower_16.2.2.2.2.1
theorem dX12_lotFollower_29 : decode cX12_lotFollower 29 = .ok (.iconst 0, 1) := edX12_lotFollower_16.2.2.2.2.2.1
theorem dX12_lotFollower_30 : decode cX12_lotFollower 30 = .ok (.iadd, 1) := edX12_lotFollower_16.2.2.2.2.2.2.1
theorem dX12_lotFollower_31 : decode cX12_lotFollower 31 = .ok (.istore_n 1, 1) := edX12_lotFollower_16.2.2.2.2.2.2.2.1
theorem dX12_lotFollower_32 : decode cX12_lotFollower 32 = .ok (.iinc 2 1, 3) := edX12_lotFollower_16.2.2.2.2.2.2.2.2.1
theorem dX12_lotFollower_35 : decode cX12_lotFollower 35 = .ok (.goto (-31), 3) := edX12_lotFollower_16.2.2.2.2.2.2.2.2.2.1
theorem dX12_lotFollower_38 : decode cX12_lotFollower 38 = .ok (.iload_n 1, 1) := edX12_lotFollower_16.2.2.2.2.2.2.2.2.2.2.1
theorem dX12_lotFollower_39 : decode cX12_lotFollower 39 = .ok (.ifCond .ne 6, 3) := edX12_lotFollower_16.2.2.2.2.2.2.2.2.2.2.2
set_option maxRecDepth 20000 in
theorem edX12_lotFollower_42 : decode cX12_lotFollower 42 = .ok (.bipush (-9), 2) ∧ decode cX12_lotFollower 44 = .ok (.ireturn, 1) ∧ decode cX12_lotFollower 45 = .ok (.iload_n 1, 1) ∧ decode cX12_lotFollower 46 = .ok (.iconst 1, 1) ∧ decode cX12_lotFollower 47 = .ok (.if_icmp .le 11, 3) ∧ decode cX12_lotFollower 50 = .ok (.aload_n 0, 1) ∧ decode cX12_lotFollower 51 = .ok (.iload_n 1, 1) ∧ decode cX12_lotFollower 52 = .ok (.invokevirtual 285, 3) ∧ decode cX12_lotFollower 55 = .ok (.goto 4, 3) ∧ decode cX12_lotFollower 58 = .ok (.iconst 0, 1) ∧ decode cX12_lotFollower 59 = .ok (.istore_n 2, 1) ∧ decode cX12_lotFollower 60 = .ok (.iconst 0, 1) := by decide +kernel
theorem dX12_lotFollower_42 : decode cX12_lotFollower 42 = .ok (.bipush (-9), 2) := edX12_lotFollower_42.1
theorem dX12_lotFollower_44 : decode cX12_lotFollower 44 = .ok (.ireturn, 1) := edX12_lotFollower_42.2.1
theorem dX12_lotFollower_45 : decode cX12_lotFollower 45 = .ok (.iload_n 1, 1) := edX12_lotFollower_42.2.2.1
theorem dX12_lotFollower_46 : decode cX12_lotFollower 46 = .ok (.iconst 1, 1) := edX12_lotFollower_42.2.2.2.1
theorem dX12_lotFollower_47 : decode cX12_lotFollower 47 = .ok (.if_icmp .le 11, 3) := edX12_lotFollower_42.2.2.2.2.1
theorem dX12_lotFollower_50 : decode cX12_lotFollower 50 = .ok (.aload_n 0, 1) := edX12_lotFollower_42.2.2.2.2.2.1
theorem dX12_lotFollower_51 : decode cX12_lotFollower 51 = .ok (.iload_n 1, 1) := edX12_lotFollower_42.2.2.2.2.2.2.1
theorem dX12_lotFollower_52 : decode cX12_lotFollower 52 = .ok (.invokevirtual 285, 3) := edX12_lotFollower_42.2.2.2.2.2.2.2.1
theorem dX12_lotFollower_55 : decode cX12_lotFollower 55 = .ok (.goto 4, 3) := edX12_lotFollower_42.2.2.2.2.2.2.2.2.1
theorem dX12_lotFollower_58 : decode cX12_lotFollower 58 = .ok (.iconst 0, 1) := edX12_lotFollower_42.2.2.2.2.2.2.2.2.2.1
theorem dX12_lotFollower_59 : decode cX12_lotFollower 59 = .ok (.istore_n 2, 1) := edX12_lotFollower_42.2.2.2.2.2.2.2.2.2.2.1
theorem dX12_lotFollower_60 : decode cX12_lotFollower 60 = .ok (.iconst 0, 1) := edX12_lotFollower_42.2.2.2.2.2.2.2.2.2.2.2
set_option maxRecDepth 20000 in
theorem edX12_lotFollower_61 : decode cX12_lotFollower 61 = .ok (.istore_n 3, 1) ∧ decode cX12_lotFollower 62 = .ok (.aload_n 0, 1) ∧ decode cX12_lotFollower 63 = .ok (.iload_n 3, 1) ∧ decode cX12_lotFollower 64 = .ok (.aload_n 0, 1) ∧ decode cX12_lotFollower 65 = .ok (.getfield 41, 3) ∧ decode cX12_lotFollower 68 = .ok (.invokevirtual 192, 3) ∧ decode cX12_lotFollower 71 = .ok (.ifCond .lt 7, 3) ∧ decode cX12_lotFollower 74 = .ok (.iload_n 2, 1) ∧ decode cX12_lotFollower 75 = .ok (.ifCond .le 29, 3) ∧ decode cX12_lotFollower 78 = .ok (.iload_n 2, 1) ∧ decode cX12_lotFollower 79 = .ok (.aload_n 0, 1) ∧ decode cX12_lotFollower 80 = .ok (.iload_n 3, 1) := by decide +kernel
theorem dX12_lotFollower_61 : decode cX12_lotFollower 61 = .ok (.istore_n 3, 1) := edX12_lotFollower_61.1
theorem dX12_lotFollower_62 : decode cX12_lotFollower 62 = .ok (.aload_n 0, 1) := edX12_lotFollower_61.2.1
theorem dX12_lotFollower_63 : decode cX12_lotFollower 63 = .ok (.iload_n 3, 1) := edX12_lotFollower_61.2.2.1
theorem dX12_lotFollower_64 : decode cX12_lotFollower 64 = .ok (.aload_n 0, 1) := edX12_lotFollower_61.2.2.2.1
theorem dX12_lotFollower_65 : decode cX12_lotFollower 65 = .ok (.getfield 41, 3) := edX12_lotFollower_61.2.2.2.2.1
theorem dX12_lotFollower_68 : decode cX12_lotFollower 68 = .ok (.invokevirtual 192, 3) := edX12_lotFollower_61.2.2.2.2.2.1
theorem dX12_lotFollower_71 : decode cX12_lotFollower 71 = .ok (.ifCond .lt 7, 3) := edX12_lotFollower_61.2.2.2.2.2.2.1
theorem dX12_lotFollower_74 : decode cX12_lotFollower 74 = .ok (.iload_n 2, 1) := edX12_lotFollower_61.2.2.2.2.2.2.2.1
theorem dX12_lotFollower_75 : decode cX12_lotFollower 75 = .ok (.ifCond .le 29, 3) := edX12_lotFollower_61.2.2.2.2.2.2.2.2.1
theorem dX12_lotFollower_78 : decode cX12_lotFollower 78 = .ok (.iload_n 2, 1) := edX12_lotFollower_61.2.2.2.2.2.2.2.2.2.1
theorem dX12_lotFollower_79 : decode cX12_lotFollower 79 = .ok (.aload_n 0, 1) := edX12_lotFollower_61.2.2.2.2.2.2.2.2.2.2.1
theorem dX12_lotFollower_80 : decode cX12_lotFollower 80 = .ok (.iload_n 3, 1) := edX12_lotFollower_61.2.2.2.2.2.2.2.2.2.2.2
set_option maxRecDepth 20000 in
theorem edX12_lotFollower_81 : decode cX12_lotFollower 81 = .ok (.aload_n 0, 1) ∧ decode cX12_lotFollower 82 = .ok (.getfield 41, 3) ∧ decode cX12_lotFollower 85 = .ok (.invokevirtual 192, 3) ∧ decode cX12_lotFollower 88 = .ok (.ifCond .lt 7, 3) ∧ decode cX12_lotFollower 91 = .ok (.iconst 1, 1) ∧ decode cX12_lotFollower 92 = .ok (.goto 4, 3) ∧ decode cX12_lotFollower 95 = .ok (.iconst 0, 1) ∧ decode cX12_lotFollower 96 = .ok (.isub, 1) ∧ decode cX12_lotFollower 97 = .ok (.istore_n 2, 1) ∧ decode cX12_lotFollower 98 = .ok (.iinc 3 1, 3) ∧ decode cX12_lotFollower 101 = .ok (.goto (-39), 3) ∧ decode cX12_lotFollower 104 = .ok (.aload_n 0, 1) := by decide +kernel
theorem dX12_lotFollower_81 : decode cX12_lotFollower 81 = .ok (.aload_n 0, 1) := edX12_lotFollower_81.1
theorem dX12_lotFollower_82 : decode cX12_lotFollower 82 = .ok (.getfield 41, 3) := edX12_lotFollower_81.2.1
theorem dX12_lotFollower_85 : decode cX12_lotFollower 85 = .ok (.invokevirtual 192, 3) := edX12_lotFollower_81.2.2.1
theorem dX12_lotFollower_88 : decode cX12_lotFollower 88 = .ok (.ifCond .lt 7, 3) := edX12_lotFollower_81.2.2.2.1
theorem dX12_lotFollower_91 : decode cX12_lotFollower 91 = .ok (.iconst 1, 1) := edX12_lotFollower_81.2.2.2.2.1
theorem dX12_lotFollower_92 : decode cX12_lotFollower 92 = .ok (.goto 4, 3) := edX12_lotFollower_81.2.2.2.2.2.1
theorem dX12_lotFollower_95 : decode cX12_lotFollower 95 = .ok (.iconst 0, 1) := edX12_lotFollower_81.2.2.2.2.2.2.1
theorem dX12_lotFollower_96 : decode cX12_lotFollower 96 = .ok (.isub, 1) := edX12_lotFollower_81.2.2.2.2.2.2.2.1
theorem dX12_lotFollower_97 : decode cX12_lotFollower 97 = .ok (.istore_n 2, 1) := edX12_lotFollower_81.2.2.2.2.2.2.2.2.1
theorem dX12_lotFollower_98 : decode cX12_lotFollower 98 = .ok (.iinc 3 1, 3) := edX12_lotFollower_81.2.2.2.2.2.2.2.2.2.1
theorem dX12_lotFollower_101 : decode cX12_lotFollower 101 = .ok (.goto (-39), 3) := edX12_lotFollower_81.2.2.2.2.2.2.2.2.2.2.1
theorem dX12_lotFollower_104 : decode cX12_lotFollower 104 = .ok (.aload_n 0, 1) := edX12_lotFollower_81.2.2.2.2.2.2.2.2.2.2.2
set_option maxRecDepth 20000 in
theorem edX12_lotFollower_105 : decode cX12_lotFollower 105 = .ok (.iload_n 3, 1) ∧ decode cX12_lotFollower 106 = .ok (.aload_n 0, 1) ∧ decode cX12_lotFollower 107 = .ok (.getfield 41, 3) ∧ decode cX12_lotFollower 110 = .ok (.invokevirtual 192, 3) ∧ decode cX12_lotFollower 113 = .ok (.ireturn, 1) := by decide +kernel
theorem dX12_lotFollower_105 : decode cX12_lotFollower 105 = .ok (.iload_n 3, 1) := edX12_lotFollower_105.1
theorem dX12_lotFollower_106 : decode cX12_lotFollower 106 = .ok (.aload_n 0, 1) := edX12_lotFollower_105.2.1
theorem dX12_lotFollower_107 : decode cX12_lotFollower 107 = .ok (.getfield 41, 3) := edX12_lotFollower_105.2.2.1
theorem dX12_lotFollower_110 : decode cX12_lotFollower 110 = .ok (.invokevirtual 192, 3) := edX12_lotFollower_105.2.2.2.1
theorem dX12_lotFollower_113 : decode cX12_lotFollower 113 = .ok (.ireturn, 1) := edX12_lotFollower_105.2.2.2.2
noncomputable def voX12_lotFollower : List Cond := [.fieldLink RX12 76 "EachOnHisCueModel" "players" "I", .fieldLink RX12 41 "EachOnHisCueModel" "latest" "I", .methodLink RX12 192 yX12_comesWith, .instanceMethod yX12_comesWith, .selects RX12 yX12_comesWith yX12_comesWith, .initialized RX12, .methodLink RX12 285 yX12_draw, .instanceMethod yX12_draw, .selects RX12 yX12_draw yX12_draw]
noncomputable def vsX12_lotFollower : List Cond := .code yX12_lotFollower cX12_lotFollower 4 (some .int) :: (voX12_lotFollower ++ (vsX12_comesWith ++ (vsX12_draw ++ (wsX120))))
theorem zgX12_lotFollower : zGd vsX12_lotFollower := z_gdC rfl (z_gdA (z_gdO (by decide +kernel) : zGd voX12_lotFollower) (z_gdA zgX12_comesWith (z_gdA zgX12_draw (zgX12))))
theorem in_X12_lotFollower_X12 : ∀ w ∈ wsX120, w ∈ vsX12_lotFollower := fun _ h => List.mem_cons_of_mem _ (List.mem_append_right _ (List.mem_append_right _ (List.mem_append_right _ (h))))
theorem gw_X12_lotFollower_X12_comesWith : GoodIn vsX12_lotFollower vsX12_comesWith := z_gdI (fun _ h => List.mem_cons_of_mem _ (List.mem_append_right _ (List.mem_append_left _ h))) zgX12_comesWith
set_option maxRecDepth 20000 in
theorem gv_X12_lotFollower_X12_comesWith_192 : GoodIn vsX12_lotFollower (wsV RX12 192 RX12 yX12_comesWith vsX12_comesWith) := goodIn_app (goodIn_of _ (by decide +kernel)) gw_X12_lotFollower_X12_comesWith
theorem gw_X12_lotFollower_X12_draw : GoodIn vsX12_lotFollower vsX12_draw := z_gdI (fun _ h => List.mem_cons_of_mem _ (List.mem_append_right _ (List.mem_append_right _ (List.mem_append_left _ h)))) zgX12_draw
set_option maxRecDepth 20000 in
theorem gv_X12_lotFollower_X12_draw_285 : GoodIn vsX12_lotFollower (wsV RX12 285 RX12 yX12_draw vsX12_draw) := goodIn_app (goodIn_of _ (by decide +kernel)) gw_X12_lotFollower_X12_draw
set_option maxHeartbeats 4000000 in
set_option maxRecDepth 100000 in
theorem wX12_lotFollower (l : Launch) (dC : Nat → ClassId) (dI : Nat → Nat → Nat) (cI cQ : ClassId) (ha0 ha0_1 ha0_2 ha0_4 ha0_5 ha0_6 ha0_8 ha0_0 ha0_3 ha0_7 ha0_16 ha0_17 ha0_18 ha0_19 ha0_23 ha0_29 ha0_33 ha0_34 ha0_35 : Nat) (fa0_1 : Nat → Int32) (fa0_2 : Nat → Int32) (fa0_4 : Nat → Int32) (hBfa0_4 : ∀ k, 0 ≤ (fa0_4 k).toInt ∧ (fa0_4 k).toInt ≤ 4) (fa0_5 : Nat → Int32) (hBfa0_5 : ∀ k, 0 ≤ (fa0_5 k).toInt ∧ (fa0_5 k).toInt ≤ 4) (fa0_6 : Nat → Int32) (hBfa0_6 : ∀ k, 0 ≤ (fa0_6 k).toInt ∧ (fa0_6 k).toInt ≤ 9) (fa0_8 : Nat → Int32) (ia0_9 : Int32) (hia0_9l : 0 ≤ ia0_9.toInt) (hia0_9h : ia0_9.toInt ≤ 5) (ia0_10 : Int32) (hia0_10l : 0 ≤ ia0_10.toInt) (hia0_10h : ia0_10.toInt ≤ 12) (ia0_11 : Int32) (ia0_12 : Int32) (ia0_13 : Int32) (ia0_14 : Int32) (hia0_14l : 0 ≤ ia0_14.toInt) (hia0_14h : ia0_14.toInt ≤ 11) (ia0_15 : Int32) (ia0_20 : Int32) (hia0_20l : 0 ≤ ia0_20.toInt) (hia0_20h : ia0_20.toInt ≤ 80) (ia0_21 : Int32) (hia0_21l : 0 ≤ ia0_21.toInt) (hia0_21h : ia0_21.toInt ≤ 80) (ia0_22 : Int32) (hia0_22l : 0 ≤ ia0_22.toInt) (hia0_22h : ia0_22.toInt ≤ 40) (ia0_24 : Int32) (hia0_24l : 0 ≤ ia0_24.toInt) (hia0_24h : ia0_24.toInt ≤ 1) (ia0_25 : Int32) (hia0_25l : 0 ≤ ia0_25.toInt) (hia0_25h : ia0_25.toInt ≤ 1) (ia0_26 : Int32) (hia0_26l : 0 ≤ ia0_26.toInt) (hia0_26h : ia0_26.toInt ≤ 300) (ia0_27 : Int32) (hia0_27l : (-9) ≤ ia0_27.toInt) (hia0_27h : ia0_27.toInt ≤ 11) (ia0_28 : Int32) (ia0_30 : Int32) (hia0_30l : 0 ≤ ia0_30.toInt) (hia0_30h : ia0_30.toInt ≤ 60) (ia0_31 : Int32) (ia0_32 : Int32) (hia0_32l : 0 ≤ ia0_32.toInt) (hia0_32h : ia0_32.toInt ≤ 1) (ia0_36 : Int32) (hia0_36l : 0 ≤ ia0_36.toInt) (hia0_36h : ia0_36.toInt ≤ 12) (ia0_37 : Int32) (sz : Nat) : Met l yX12_lotFollower vsX12_lotFollower ({ frames := 4, cells := 0, slots := 0, locals := 97 }) (va_Pc [.ref ha0] (zB dC dI cI cQ [(ha0_1, .inl (cI, 5, .inl fa0_1)), (ha0_2, .inl (cI, 5, .inl fa0_2)), (ha0_4, .inl (cI, 12, .inl fa0_4)), (ha0_5, .inl (cI, 12, .inl fa0_5)), (ha0_6, .inl (cI, 12, .inl fa0_6)), (ha0_8, .inl (cI, 60, .inl fa0_8)), (ha0, .inr (12, [.ref ha0_0, .ref ha0_1, .ref ha0_2, .ref ha0_3, .ref ha0_4, .ref ha0_5, .ref ha0_6, .ref ha0_7, .ref ha0_8, .int ia0_9, .int ia0_10, .int ia0_11, .int ia0_12, .int ia0_13, .int ia0_14, .int ia0_15, .ref ha0_16, .ref ha0_17, .ref ha0_18, .ref ha0_19, .int ia0_20, .int ia0_21, .int ia0_22, .ref ha0_23, .int ia0_24, .int ia0_25, .int ia0_26, .int ia0_27, .int ia0_28, .ref ha0_29, .int ia0_30, .int ia0_31, .int ia0_32, .ref ha0_33, .ref ha0_34, .ref ha0_35, .int ia0_36, .int ia0_37]))] sz)) (zWi dC dI (va_A [(ha0_1, .inl (cI, 5, .inl fa0_1)), (ha0_2, .inl (cI, 5, .inl fa0_2)), (ha0_4, .inl (cI, 12, .inl fa0_4)), (ha0_5, .inl (cI, 12, .inl fa0_5)), (ha0_6, .inl (cI, 12, .inl fa0_6)), (ha0_8, .inl (cI, 60, .inl fa0_8)), (ha0, .inr (12, [.ref ha0_0, .ref ha0_1, .ref ha0_2, .ref ha0_3, .ref ha0_4, .ref ha0_5, .ref ha0_6, .ref ha0_7, .ref ha0_8, .int ia0_9, .int ia0_10, .int ia0_11, .int ia0_12, .int ia0_13, .int ia0_14, .int ia0_15, .ref ha0_16, .ref ha0_17, .ref ha0_18, .ref ha0_19, .int ia0_20, .int ia0_21, .int ia0_22, .ref ha0_23, .int ia0_24, .int ia0_25, .int ia0_26, .int ia0_27, .int ia0_28, .ref ha0_29, .int ia0_30, .int ia0_31, .int ia0_32, .ref ha0_33, .ref ha0_34, .ref ha0_35, .int ia0_36, .int ia0_37]))] sz) (fun u => [(ha0_1, .inl (cI, 5, .inl fa0_1)), (ha0_2, .inl (cI, 5, .inl fa0_2)), (ha0_4, .inl (cI, 12, .inl fa0_4)), (ha0_5, .inl (cI, 12, .inl fa0_5)), (ha0_6, .inl (cI, 12, .inl fa0_6)), (ha0_8, .inl (cI, 60, .inl fa0_8)), (ha0, .inr (12, [.ref ha0_0, .ref ha0_1, .ref ha0_2, .ref ha0_3, .ref ha0_4, .ref ha0_5, .ref ha0_6, .ref ha0_7, .ref ha0_8, .int ia0_9, .int ia0_10, .int ia0_11, .int ia0_12, .int ia0_13, .int ia0_14, .int ia0_15, .ref ha0_16, .ref ha0_17, .ref ha0_18, .ref ha0_19, .int ia0_20, .int ia0_21, .int ia0_22, .ref ha0_23, .int ia0_24, .int ia0_25, .int ia0_26, .int ia0_27, .int ia0_28, .ref ha0_29, .int ia0_30, .int ia0_31, .int ia0_32, .ref ha0_33, .ref ha0_34, .ref ha0_35, .int ia0_36, .int (u.1 0)]))]) (fun r u => ((-2147483648) ≤ (u.1 0).toInt ∧ (u.1 0).toInt ≤ 2147483647) ∧ ((-9) ≤ r.toInt ∧ r.toInt ≤ 11) ∧ True)) 0 0 (va_A [(ha0_1, .inl (cI, 5, .inl fa0_1)), (ha0_2, .inl (cI, 5, .inl fa0_2)), (ha0_4, .inl (cI, 12, .inl fa0_4)), (ha0_5, .inl (cI, 12, .inl fa0_5)), (ha0_6, .inl (cI, 12, .inl fa0_6)), (ha0_8, .inl (cI, 60, .inl fa0_8)), (ha0, .inr (12, [.ref ha0_0, .ref ha0_1, .ref ha0_2, .ref ha0_3, .ref ha0_4, .ref ha0_5, .ref ha0_6, .ref ha0_7, .ref ha0_8, .int ia0_9, .int ia0_10, .int ia0_11, .int ia0_12, .int ia0_13, .int ia0_14, .int ia0_15, .ref ha0_16, .ref ha0_17, .ref ha0_18, .ref ha0_19, .int ia0_20, .int ia0_21, .int ia0_22, .ref ha0_23, .int ia0_24, .int ia0_25, .int ia0_26, .int ia0_27, .int ia0_28, .ref ha0_29, .int ia0_30, .int ia0_31, .int ia0_32, .ref ha0_33, .ref ha0_34, .ref ha0_35, .int ia0_36, .int ia0_37]))] sz) := by
  refine Met.ofW (cc := cX12_lotFollower) (maxL := 4) (ret := (some .int)) (by decide) rfl ?_
  intro p e s m args below meth c s₁ B hml hv
  obtain ⟨rfl, hsz, hP, hZ, hD0⟩ := hv
  obtain ⟨hK, hAO, hN⟩ := id hZ
  have hx := B.exec
  have hb := B.bytes
  have hr := B.returns
  have hts := atoms_spec (ws := vsX12_lotFollower) B.pre
  have hown : s.vm.findClass RX12 = some m.cls := findClass_of_methodNamed B.named
  have hlocks := B.notSynchronized
  subst hsz
  have hD := hD0.self (sz := s.heap.size)
  generalize hAe : va_A [(ha0_1, .inl (cI, 5, .inl fa0_1)), (ha0_2, .inl (cI, 5, .inl fa0_2)), (ha0_4, .inl (cI, 12, .inl fa0_4)), (ha0_5, .inl (cI, 12, .inl fa0_5)), (ha0_6, .inl (cI, 12, .inl fa0_6)), (ha0_8, .inl (cI, 60, .inl fa0_8)), (ha0, .inr (12, [.ref ha0_0, .ref ha0_1, .ref ha0_2, .ref ha0_3, .ref ha0_4, .ref ha0_5, .ref ha0_6, .ref ha0_7, .ref ha0_8, .int ia0_9, .int ia0_10, .int ia0_11, .int ia0_12, .int ia0_13, .int ia0_14, .int ia0_15, .ref ha0_16, .ref ha0_17, .ref ha0_18, .ref ha0_19, .int ia0_20, .int ia0_21, .int ia0_22, .ref ha0_23, .int ia0_24, .int ia0_25, .int ia0_26, .int ia0_27, .int ia0_28, .ref ha0_29, .int ia0_30, .int ia0_31, .int ia0_32, .ref ha0_33, .ref ha0_34, .ref ha0_35, .int ia0_36, .int ia0_37]))] s.heap.size = A at hD ⊢
  have hA : ∀ q : Nat, s.heap.size ≤ q → A q := fun q h => by rw [← hAe]; exact Or.inr h
  have hS : va_S A s.heap s.heap [] := va_S.rf
  have hP : va_P (dC, dI) vwCl [(ha0_1, .inl (cI, 5, .inl fa0_1)), (ha0_2, .inl (cI, 5, .inl fa0_2)), (ha0_4, .inl (cI, 12, .inl fa0_4)), (ha0_5, .inl (cI, 12, .inl fa0_5)), (ha0_6, .inl (cI, 12, .inl fa0_6)), (ha0_8, .inl (cI, 60, .inl fa0_8)), (ha0, .inr (12, [.ref ha0_0, .ref ha0_1, .ref ha0_2, .ref ha0_3, .ref ha0_4, .ref ha0_5, .ref ha0_6, .ref ha0_7, .ref ha0_8, .int ia0_9, .int ia0_10, .int ia0_11, .int ia0_12, .int ia0_13, .int ia0_14, .int ia0_15, .ref ha0_16, .ref ha0_17, .ref ha0_18, .ref ha0_19, .int ia0_20, .int ia0_21, .int ia0_22, .ref ha0_23, .int ia0_24, .int ia0_25, .int ia0_26, .int ia0_27, .int ia0_28, .ref ha0_29, .int ia0_30, .int ia0_31, .int ia0_32, .ref ha0_33, .ref ha0_34, .ref ha0_35, .int ia0_36, .int ia0_37]))] s.heap := hP
  have hl := lv_entry ([.ref ha0]) (n := 4) (Nat.le_of_ble_eq_true rfl)
  rw [lg_entry_eq]
  generalize (lg_sl ([.ref ha0]) ++ List.replicate (4 - (lg_sl ([.ref ha0])).length) Slot.unset).toArray = ls at hl ⊢
  have hl : lv_has ls 4 [(0, .ref ha0)] := hl
  refine lv_iconst (v := 0) hx hb dX12_lotFollower_0 (by decide) ?_
  refine lv_istore_n (lv' := [(1, .int 0), (0, .ref ha0)]) hx hb dX12_lotFollower_1 rfl hl (by decide) rfl (fun ls hl => ?_)
  refine lv_iconst (v := 0) hx hb dX12_lotFollower_2 (by decide) ?_
  refine lv_istore_n (lv' := [(2, .int 0), (1, .int 0), (0, .ref ha0)]) hx hb dX12_lotFollower_3 rfl hl (by decide) rfl (fun ls hl => ?_)
  have hL583 : ∀ (n : Nat) (v1 : Int32) (v2 : Int32) (H : Heap) (locs : List Loc) (ls : Array Slot), 0 ≤ v1.toInt → v1.toInt ≤ 5 → 0 ≤ v2.toInt → v2.toInt ≤ 5 → ((v2 : Int32).toInt = zcn (fun q9 => FX12_comesWith fa0_1 fa0_2 fa0_4 fa0_5 fa0_6 fa0_8 ia0_10 ia0_12 ia0_13 ia0_27 ia0_28 q9 ia0_14) (v1 : Int32).toInt.toNat) → ((v2 : Int32).toInt ≤ (v1 : Int32).toInt) → ((v1 : Int32).toInt ≤ ia0_9.toInt) → (5 - v1.toInt).toNat < n → lv_has ls 4 [(2, .int v1), (1, .int v2), (0, .ref ha0)] → va_P (dC, dI) vwCl [(ha0_1, .inl (cI, 5, .inl fa0_1)), (ha0_2, .inl (cI, 5, .inl fa0_2)), (ha0_4, .inl (cI, 12, .inl fa0_4)), (ha0_5, .inl (cI, 12, .inl fa0_5)), (ha0_6, .inl (cI, 12, .inl fa0_6)), (ha0_8, .inl (cI, 60, .inl fa0_8)), (ha0, .inr (12, [.ref ha0_0, .ref ha0_1, .ref ha0_2, .ref ha0_3, .ref ha0_4, .ref ha0_5, .ref ha0_6, .ref ha0_7, .ref ha0_8, .int ia0_9, .int ia0_10, .int ia0_11, .int ia0_12, .int ia0_13, .int ia0_14, .int ia0_15, .ref ha0_16, .ref ha0_17, .ref ha0_18, .ref ha0_19, .int ia0_20, .int ia0_21, .int ia0_22, .ref ha0_23, .int ia0_24, .int ia0_25, .int ia0_26, .int ia0_27, .int ia0_28, .ref ha0_29, .int ia0_30, .int ia0_31, .int ia0_32, .ref ha0_33, .ref ha0_34, .ref ha0_35, .int ia0_36, .int ia0_37]))] H → va_D A [(ha0_1, .inl (cI, 5, .inl fa0_1)), (ha0_2, .inl (cI, 5, .inl fa0_2)), (ha0_4, .inl (cI, 12, .inl fa0_4)), (ha0_5, .inl (cI, 12, .inl fa0_5)), (ha0_6, .inl (cI, 12, .inl fa0_6)), (ha0_8, .inl (cI, 60, .inl fa0_8)), (ha0, .inr (12, [.ref ha0_0, .ref ha0_1, .ref ha0_2, .ref ha0_3, .ref ha0_4, .ref ha0_5, .ref ha0_6, .ref ha0_7, .ref ha0_8, .int ia0_9, .int ia0_10, .int ia0_11, .int ia0_12, .int ia0_13, .int ia0_14, .int ia0_15, .ref ha0_16, .ref ha0_17, .ref ha0_18, .ref ha0_19, .int ia0_20, .int ia0_21, .int ia0_22, .ref ha0_23, .int ia0_24, .int ia0_25, .int ia0_26, .int ia0_27, .int ia0_28, .ref ha0_29, .int ia0_30, .int ia0_31, .int ia0_32, .ref ha0_33, .ref ha0_34, .ref ha0_35, .int ia0_36, .int ia0_37]))] → va_S A s.heap H locs → W p l e (headSpec vsX12_lotFollower ({ frames := 4, cells := 0, slots := 0, locals := 97 })).room s m ([.ref ha0] : List Value).toArray below meth c H locs 0 0 (MQ below (zWi dC dI (A) (fun u => [(ha0_1, .inl (cI, 5, .inl fa0_1)), (ha0_2, .inl (cI, 5, .inl fa0_2)), (ha0_4, .inl (cI, 12, .inl fa0_4)), (ha0_5, .inl (cI, 12, .inl fa0_5)), (ha0_6, .inl (cI, 12, .inl fa0_6)), (ha0_8, .inl (cI, 60, .inl fa0_8)), (ha0, .inr (12, [.ref ha0_0, .ref ha0_1, .ref ha0_2, .ref ha0_3, .ref ha0_4, .ref ha0_5, .ref ha0_6, .ref ha0_7, .ref ha0_8, .int ia0_9, .int ia0_10, .int ia0_11, .int ia0_12, .int ia0_13, .int ia0_14, .int ia0_15, .ref ha0_16, .ref ha0_17, .ref ha0_18, .ref ha0_19, .int ia0_20, .int ia0_21, .int ia0_22, .ref ha0_23, .int ia0_24, .int ia0_25, .int ia0_26, .int ia0_27, .int ia0_28, .ref ha0_29, .int ia0_30, .int ia0_31, .int ia0_32, .ref ha0_33, .ref ha0_34, .ref ha0_35, .int ia0_36, .int (u.1 0)]))]) (fun r u => ((-2147483648) ≤ (u.1 0).toInt ∧ (u.1 0).toInt ≤ 2147483647) ∧ ((-9) ≤ r.toInt ∧ r.toInt ≤ 11) ∧ True)) ([.ref ha0] : List Value).toArray s 0 0 A) (F0 m 4 ls []) := by
    intro n
    induction n with
    | zero =>
      intro v1 v2 H locs ls hi584_0 hi584_1 hi584_2 hi584_3 hi584_x0 hi584_x1 hi584_x2 hi584_m hl hP hD hS
      exact absurd hi584_m (Nat.not_lt_zero _)
    | succ n ih =>
      intro v1 v2 H locs ls hi584_0 hi584_1 hi584_2 hi584_3 hi584_x0 hi584_x1 hi584_x2 hi584_m hl hP hD hS
      have ih585 := ih
      refine lv_iload_n hx hb dX12_lotFollower_4 rfl (lv_at hl 0 rfl) ?_
      refine lv_aload_n hx hb dX12_lotFollower_5 rfl (lv_at hl 2 rfl) ?_
      refine va_get (D := (dC, dI)) (ci := 12) (v := .int ia0_9) (C := RX12) (T := TX12) (N := 38) hx hb hts in_X12_lotFollower_X12 hown hK hP 6 rfl rfl 9 (by decide) (hts (.fieldLink RX12 76 "EachOnHisCueModel" "players" "I") (by decide +kernel)) (fun _ h9 => h9) rfl dX12_lotFollower_6 ?_
      refine lv_icmp_ge (tgt := 38) hx hb dX12_lotFollower_9 (by decide) (fun hc => ?_) (fun hc => ?_)
      · have q586 : ia0_9.toInt ≤ v1.toInt := z_le rfl rfl hc
        have hnn : v2.toInt = zcn (fun q9 => FX12_comesWith fa0_1 fa0_2 fa0_4 fa0_5 fa0_6 fa0_8 ia0_10 ia0_12 ia0_13 ia0_27 ia0_28 q9 ia0_14) ia0_9.toInt.toNat := by rw [show ia0_9.toInt = v1.toInt by omega]; omega
        refine lv_iload_n hx hb dX12_lotFollower_38 rfl (lv_at hl 1 rfl) ?_
        refine lv_if_ne (tgt := 45) hx hb dX12_lotFollower_39 (by decide) (fun hc => ?_) (fun hc => ?_)
        · have q587 : v2.toInt ≠ 0 := z_ne rfl (by decide) hc
          refine lv_iload_n hx hb dX12_lotFollower_45 rfl (lv_at hl 1 rfl) ?_
          refine lv_iconst (v := 1) hx hb dX12_lotFollower_46 (by decide) ?_
          refine lv_icmp_le (tgt := 58) hx hb dX12_lotFollower_47 (by decide) (fun hc => ?_) (fun hc => ?_)
          · have q588 : v2.toInt ≤ 1 := z_le rfl (by decide) hc
            refine lv_iconst (v := 0) hx hb dX12_lotFollower_58 (by decide) ?_
            refine lv_istore_n (lv' := [(2, .int 0), (1, .int v2), (0, .ref ha0)]) hx hb dX12_lotFollower_59 rfl hl (by decide) rfl (fun ls hl => ?_)
            refine lv_iconst (v := 0) hx hb dX12_lotFollower_60 (by decide) ?_
            refine lv_istore_n (lv' := [(3, .int 0), (2, .int 0), (1, .int v2), (0, .ref ha0)]) hx hb dX12_lotFollower_61 rfl hl (by decide) rfl (fun ls hl => ?_)
            have hL623 : ∀ (n : Nat) (v589 : Int32) (v590 : Int32) (H : Heap) (locs : List Loc) (ls : Array Slot), 0 ≤ v589.toInt → v589.toInt ≤ 5 → 0 ≤ v590.toInt → v590.toInt ≤ 5 → ((v590 : Int32).toInt < zcn (fun q9 => FX12_comesWith fa0_1 fa0_2 fa0_4 fa0_5 fa0_6 fa0_8 ia0_10 ia0_12 ia0_13 ia0_27 ia0_28 q9 ia0_14) ia0_9.toInt.toNat - zcn (fun q9 => FX12_comesWith fa0_1 fa0_2 fa0_4 fa0_5 fa0_6 fa0_8 ia0_10 ia0_12 ia0_13 ia0_27 ia0_28 q9 ia0_14) (v589 : Int32).toInt.toNat) → ((v589 : Int32).toInt ≤ ia0_9.toInt) → (5 - v589.toInt).toNat < n → lv_has ls 4 [(3, .int v589), (2, .int v590), (1, .int v2), (0, .ref ha0)] → va_P (dC, dI) vwCl [(ha0_1, .inl (cI, 5, .inl fa0_1)), (ha0_2, .inl (cI, 5, .inl fa0_2)), (ha0_4, .inl (cI, 12, .inl fa0_4)), (ha0_5, .inl (cI, 12, .inl fa0_5)), (ha0_6, .inl (cI, 12, .inl fa0_6)), (ha0_8, .inl (cI, 60, .inl fa0_8)), (ha0, .inr (12, [.ref ha0_0, .ref ha0_1, .ref ha0_2, .ref ha0_3, .ref ha0_4, .ref ha0_5, .ref ha0_6, .ref ha0_7, .ref ha0_8, .int ia0_9, .int ia0_10, .int ia0_11, .int ia0_12, .int ia0_13, .int ia0_14, .int ia0_15, .ref ha0_16, .ref ha0_17, .ref ha0_18, .ref ha0_19, .int ia0_20, .int ia0_21, .int ia0_22, .ref ha0_23, .int ia0_24, .int ia0_25, .int ia0_26, .int ia0_27, .int ia0_28, .ref ha0_29, .int ia0_30, .int ia0_31, .int ia0_32, .ref ha0_33, .ref ha0_34, .ref ha0_35, .int ia0_36, .int ia0_37]))] H → va_D A [(ha0_1, .inl (cI, 5, .inl fa0_1)), (ha0_2, .inl (cI, 5, .inl fa0_2)), (ha0_4, .inl (cI, 12, .inl fa0_4)), (ha0_5, .inl (cI, 12, .inl fa0_5)), (ha0_6, .inl (cI, 12, .inl fa0_6)), (ha0_8, .inl (cI, 60, .inl fa0_8)), (ha0, .inr (12, [.ref ha0_0, .ref ha0_1, .ref ha0_2, .ref ha0_3, .ref ha0_4, .ref ha0_5, .ref ha0_6, .ref ha0_7, .ref ha0_8, .int ia0_9, .int ia0_10, .int ia0_11, .int ia0_12, .int ia0_13, .int ia0_14, .int ia0_15, .ref ha0_16, .ref ha0_17, .ref ha0_18, .ref ha0_19, .int ia0_20, .int ia0_21, .int ia0_22, .ref ha0_23, .int ia0_24, .int ia0_25, .int ia0_26, .int ia0_27, .int ia0_28, .ref ha0_29, .int ia0_30, .int ia0_31, .int ia0_32, .ref ha0_33, .ref ha0_34, .ref ha0_35, .int ia0_36, .int ia0_37]))] → va_S A s.heap H locs → W p l e (headSpec vsX12_lotFollower ({ frames := 4, cells := 0, slots := 0, locals := 97 })).room s m ([.ref ha0] : List Value).toArray below meth c H locs 0 0 (MQ below (zWi dC dI (A) (fun u => [(ha0_1, .inl (cI, 5, .inl fa0_1)), (ha0_2, .inl (cI, 5, .inl fa0_2)), (ha0_4, .inl (cI, 12, .inl fa0_4)), (ha0_5, .inl (cI, 12, .inl fa0_5)), (ha0_6, .inl (cI, 12, .inl fa0_6)), (ha0_8, .inl (cI, 60, .inl fa0_8)), (ha0, .inr (12, [.ref ha0_0, .ref ha0_1, .ref ha0_2, .ref ha0_3, .ref ha0_4, .ref ha0_5, .ref ha0_6, .ref ha0_7, .ref ha0_8, .int ia0_9, .int ia0_10, .int ia0_11, .int ia0_12, .int ia0_13, .int ia0_14, .int ia0_15, .ref ha0_16, .ref ha0_17, .ref ha0_18, .ref ha0_19, .int ia0_20, .int ia0_21, .int ia0_22, .ref ha0_23, .int ia0_24, .int ia0_25, .int ia0_26, .int ia0_27, .int ia0_28, .ref ha0_29, .int ia0_30, .int ia0_31, .int ia0_32, .ref ha0_33, .ref ha0_34, .ref ha0_35, .int ia0_36, .int (u.1 0)]))]) (fun r u => ((-2147483648) ≤ (u.1 0).toInt ∧ (u.1 0).toInt ≤ 2147483647) ∧ ((-9) ≤ r.toInt ∧ r.toInt ≤ 11) ∧ True)) ([.ref ha0] : List Value).toArray s 0 0 A) (F0 m 62 ls []) := by
              intro n
              induction n with
              | zero =>
                intro v589 v590 H locs ls hi624_0 hi624_1 hi624_2 hi624_3 hi624_x0 hi624_x1 hi624_m hl hP hD hS
                exact absurd hi624_m (Nat.not_lt_zero _)
              | succ n ih =>
                intro v589 v590 H locs ls hi624_0 hi624_1 hi624_2 hi624_3 hi624_x0 hi624_x1 hi624_m hl hP hD hS
                have ih625 := ih
                have hrel : (v590 : Int32).toInt < zcn (fun q9 => FX12_comesWith fa0_1 fa0_2 fa0_4 fa0_5 fa0_6 fa0_8 ia0_10 ia0_12 ia0_13 ia0_27 ia0_28 q9 ia0_14) ia0_9.toInt.toNat - zcn (fun q9 => FX12_comesWith fa0_1 fa0_2 fa0_4 fa0_5 fa0_6 fa0_8 ia0_10 ia0_12 ia0_13 ia0_27 ia0_28 q9 ia0_14) (v589 : Int32).toInt.toNat := by assumption
                have hpp : v589.toInt ≠ ia0_9.toInt := fun h => by rw [h] at hrel; omega
                refine lv_aload_n hx hb dX12_lotFollower_62 rfl (lv_at hl 3 rfl) ?_
                refine lv_iload_n hx hb dX12_lotFollower_63 rfl (lv_at hl 0 rfl) ?_
                refine lv_aload_n hx hb dX12_lotFollower_64 rfl (lv_at hl 3 rfl) ?_
                refine va_get (D := (dC, dI)) (ci := 12) (v := .int ia0_14) (C := RX12) (T := TX12) (N := 38) hx hb hts in_X12_lotFollower_X12 hown hK hP 6 rfl rfl 14 (by decide) (hts (.fieldLink RX12 41 "EachOnHisCueModel" "latest" "I") (by decide +kernel)) (fun _ h9 => h9) rfl dX12_lotFollower_65 ?_
                refine z_rdi (va_runV (As := [.int v589, .int ia0_14]) (rest := []) ⟨hx, hb, hml, hown, hts⟩ (rX12_comesWith_F l dC dI cI cQ ha0 ha0_1 ha0_2 ha0_4 ha0_5 ha0_6 ha0_8 ha0_0 ha0_3 ha0_7 ha0_16 ha0_17 ha0_18 ha0_19 ha0_23 ha0_29 ha0_33 ha0_34 ha0_35 fa0_1 fa0_2 fa0_4 hBfa0_4 fa0_5 hBfa0_5 fa0_6 hBfa0_6 fa0_8 ia0_9 hia0_9l hia0_9h ia0_10 hia0_10l hia0_10h ia0_11 ia0_12 ia0_13 ia0_14 (Int.le_trans (by decide) hia0_14l) hia0_14h ia0_15 ia0_20 hia0_20l hia0_20h ia0_21 hia0_21l hia0_21h ia0_22 hia0_22l hia0_22h ia0_24 hia0_24l hia0_24h ia0_25 hia0_25l hia0_25h ia0_26 hia0_26l hia0_26h ia0_27 hia0_27l hia0_27h ia0_28 ia0_30 hia0_30l hia0_30h ia0_31 ia0_32 hia0_32l hia0_32h ia0_36 hia0_36l hia0_36h ia0_37 v589 (by first | decide | omega) (by first | decide | omega) ia0_14 hia0_14l hia0_14h) (cwV 2 hts gv_X12_lotFollower_X12_comesWith_192 rfl rfl rfl (by decide +kernel) ⟨Nat.le_of_ble_eq_true rfl, Nat.le_of_ble_eq_true rfl⟩) ⟨z_blindR, va_recv hK hP (ci := 12) (q0 := 6) rfl rfl, z_preR hZ hP [0, 1, 2, 3, 4, 5, 6] rfl⟩ rfl rfl hl.1 rfl (lv_room (Nat.le_of_ble_eq_true rfl)) dX12_lotFollower_68 ⟨Nat.le_of_ble_eq_true rfl, Nat.le_of_ble_eq_true rfl⟩) (fun y626 hy626 => ?_)
                obtain ⟨hy626_0, hy626_1, ey626⟩ := hy626
                refine lv_if_lt (tgt := 78) hx hb dX12_lotFollower_71 (by decide) (fun hc => ?_) (fun hc => ?_)
                · have q627 : y626.toInt < 0 := z_lt rfl (by decide) hc
                  refine lv_iload_n hx hb dX12_lotFollower_78 rfl (lv_at hl 1 rfl) ?_
                  refine lv_aload_n hx hb dX12_lotFollower_79 rfl (lv_at hl 3 rfl) ?_
                  refine lv_iload_n hx hb dX12_lotFollower_80 rfl (lv_at hl 0 rfl) ?_
                  refine lv_aload_n hx hb dX12_lotFollower_81 rfl (lv_at hl 3 rfl) ?_
                  refine va_get (D := (dC, dI)) (ci := 12) (v := .int ia0_14) (C := RX12) (T := TX12) (N := 38) hx hb hts in_X12_lotFollower_X12 hown hK hP 6 rfl rfl 14 (by decide) (hts (.fieldLink RX12 41 "EachOnHisCueModel" "latest" "I") (by decide +kernel)) (fun _ h9 => h9) rfl dX12_lotFollower_82 ?_
                  refine z_rdi (va_runV (As := [.int v589, .int ia0_14]) (rest := [.int v590]) ⟨hx, hb, hml, hown, hts⟩ (rX12_comesWith_F l dC dI cI cQ ha0 ha0_1 ha0_2 ha0_4 ha0_5 ha0_6 ha0_8 ha0_0 ha0_3 ha0_7 ha0_16 ha0_17 ha0_18 ha0_19 ha0_23 ha0_29 ha0_33 ha0_34 ha0_35 fa0_1 fa0_2 fa0_4 hBfa0_4 fa0_5 hBfa0_5 fa0_6 hBfa0_6 fa0_8 ia0_9 hia0_9l hia0_9h ia0_10 hia0_10l hia0_10h ia0_11 ia0_12 ia0_13 ia0_14 (Int.le_trans (by decide) hia0_14l) hia0_14h ia0_15 ia0_20 hia0_20l hia0_20h ia0_21 hia0_21l hia0_21h ia0_22 hia0_22l hia0_22h ia0_24 hia0_24l hia0_24h ia0_25 hia0_25l hia0_25h ia0_26 hia0_26l hia0_26h ia0_27 hia0_27l hia0_27h ia0_28 ia0_30 hia0_30l hia0_30h ia0_31 ia0_32 hia0_32l hia0_32h ia0_36 hia0_36l hia0_36h ia0_37 v589 (by first | decide | omega) (by first | decide | omega) ia0_14 hia0_14l hia0_14h) (cwV 2 hts gv_X12_lotFollower_X12_comesWith_192 rfl rfl rfl (by decide +kernel) ⟨Nat.le_of_ble_eq_true rfl, Nat.le_of_ble_eq_true rfl⟩) ⟨z_blindR, va_recv hK hP (ci := 12) (q0 := 6) rfl rfl, z_preR hZ hP [0, 1, 2, 3, 4, 5, 6] rfl⟩ rfl rfl hl.1 rfl (lv_room (Nat.le_of_ble_eq_true rfl)) dX12_lotFollower_85 ⟨Nat.le_of_ble_eq_true rfl, Nat.le_of_ble_eq_true rfl⟩) (fun y628 hy628 => ?_)
                  obtain ⟨hy628_0, hy628_1, ey628⟩ := hy628
                  obtain rfl : y626 = y628 := ey626.trans ey628.symm
                  refine lv_if_lt (tgt := 95) hx hb dX12_lotFollower_88 (by decide) (fun hc => ?_) (fun hc => ?_)
                  · have q629 : y626.toInt < 0 := z_lt rfl (by decide) hc
                    refine lv_iconst (v := 0) hx hb dX12_lotFollower_95 (by decide) ?_
                    refine lv_isub hx hb dX12_lotFollower_96 ?_
                    refine lv_topi (fun y630 ey630 => ?_)
                    have hy630 : y630.toInt = v590.toInt - 0 := by rw [ey630]; exact z_sub rfl (by decide) (by omega) (by omega)
                    refine lv_istore_n (lv' := [(2, .int y630), (3, .int v589), (1, .int v2), (0, .ref ha0)]) hx hb dX12_lotFollower_97 rfl hl (by decide) rfl (fun ls hl => ?_)
                    obtain ⟨y631, ey631⟩ : ∃ y : Int32, y = v589 + 1 := ⟨_, rfl⟩
                    refine lv_iinc (v := y631) (lv' := [(3, .int y631), (2, .int y630), (1, .int v2), (0, .ref ha0)]) hx hb dX12_lotFollower_98 hl (k := 1) rfl (by rw [ey631]; rfl) (by decide) rfl (fun ls hl => ?_)
                    have hy631 : y631.toInt = v589.toInt + 1 := by rw [ey631]; exact z_add rfl (by decide) (by omega) (by omega)
                    have hcn : zcn (fun q9 => FX12_comesWith fa0_1 fa0_2 fa0_4 fa0_5 fa0_6 fa0_8 ia0_10 ia0_12 ia0_13 ia0_27 ia0_28 q9 ia0_14) y631.toInt.toNat = zcn (fun q9 => FX12_comesWith fa0_1 fa0_2 fa0_4 fa0_5 fa0_6 fa0_8 ia0_10 ia0_12 ia0_13 ia0_27 ia0_28 q9 ia0_14) v589.toInt.toNat + (v590.toInt - y630.toInt) := by first | (rw [z_cnP (G := (fun q9 => FX12_comesWith fa0_1 fa0_2 fa0_4 fa0_5 fa0_6 fa0_8 ia0_10 ia0_12 ia0_13 ia0_27 ia0_28 q9 ia0_14)) (p := v589) (y := y631) ey626 (by omega) (by omega) (by omega)]; omega) | (rw [z_cnN (G := (fun q9 => FX12_comesWith fa0_1 fa0_2 fa0_4 fa0_5 fa0_6 fa0_8 ia0_10 ia0_12 ia0_13 ia0_27 ia0_28 q9 ia0_14)) (p := v589) (y := y631) ey626 (by omega) (by omega) (by omega)]; omega)
                    refine lv_goto (tgt := 62) hx hb dX12_lotFollower_101 (by decide) ?_
                    exact ih625 y631 y630 _ _ ls (by first | decide | omega) (by first | decide | omega) (by first | decide | omega) (by first | decide | omega) (by omega) (by first | omega | decide | (rw [show (0 : Int32).toInt = 0 from by decide]; omega)) (by omega) (lv_sub hl [0, 1, 2, 3] rfl) hP hD hS
                  · have q632 : 0 ≤ y626.toInt := z_nlt rfl (by decide) hc
                    exfalso; omega
                · have q633 : 0 ≤ y626.toInt := z_nlt rfl (by decide) hc
                  refine lv_iload_n hx hb dX12_lotFollower_74 rfl (lv_at hl 1 rfl) ?_
                  refine lv_if_le (tgt := 104) hx hb dX12_lotFollower_75 (by decide) (fun hc => ?_) (fun hc => ?_)
                  · have q634 : v590.toInt ≤ 0 := z_le rfl (by decide) hc
                    refine lv_aload_n hx hb dX12_lotFollower_104 rfl (lv_at hl 3 rfl) ?_
                    refine lv_iload_n hx hb dX12_lotFollower_105 rfl (lv_at hl 0 rfl) ?_
                    refine lv_aload_n hx hb dX12_lotFollower_106 rfl (lv_at hl 3 rfl) ?_
                    refine va_get (D := (dC, dI)) (ci := 12) (v := .int ia0_14) (C := RX12) (T := TX12) (N := 38) hx hb hts in_X12_lotFollower_X12 hown hK hP 6 rfl rfl 14 (by decide) (hts (.fieldLink RX12 41 "EachOnHisCueModel" "latest" "I") (by decide +kernel)) (fun _ h9 => h9) rfl dX12_lotFollower_107 ?_
                    refine z_rdi (va_runV (As := [.int v589, .int ia0_14]) (rest := []) ⟨hx, hb, hml, hown, hts⟩ (rX12_comesWith_F l dC dI cI cQ ha0 ha0_1 ha0_2 ha0_4 ha0_5 ha0_6 ha0_8 ha0_0 ha0_3 ha0_7 ha0_16 ha0_17 ha0_18 ha0_19 ha0_23 ha0_29 ha0_33 ha0_34 ha0_35 fa0_1 fa0_2 fa0_4 hBfa0_4 fa0_5 hBfa0_5 fa0_6 hBfa0_6 fa0_8 ia0_9 hia0_9l hia0_9h ia0_10 hia0_10l hia0_10h ia0_11 ia0_12 ia0_13 ia0_14 (Int.le_trans (by decide) hia0_14l) hia0_14h ia0_15 ia0_20 hia0_20l hia0_20h ia0_21 hia0_21l hia0_21h ia0_22 hia0_22l hia0_22h ia0_24 hia0_24l hia0_24h ia0_25 hia0_25l hia0_25h ia0_26 hia0_26l hia0_26h ia0_27 hia0_27l hia0_27h ia0_28 ia0_30 hia0_30l hia0_30h ia0_31 ia0_32 hia0_32l hia0_32h ia0_36 hia0_36l hia0_36h ia0_37 v589 (by first | decide | omega) (by first | decide | omega) ia0_14 hia0_14l hia0_14h) (cwV 2 hts gv_X12_lotFollower_X12_comesWith_192 rfl rfl rfl (by decide +kernel) ⟨Nat.le_of_ble_eq_true rfl, Nat.le_of_ble_eq_true rfl⟩) ⟨z_blindR, va_recv hK hP (ci := 12) (q0 := 6) rfl rfl, z_preR hZ hP [0, 1, 2, 3, 4, 5, 6] rfl⟩ rfl rfl hl.1 rfl (lv_room (Nat.le_of_ble_eq_true rfl)) dX12_lotFollower_110 ⟨Nat.le_of_ble_eq_true rfl, Nat.le_of_ble_eq_true rfl⟩) (fun y635 hy635 => ?_)
                    obtain ⟨hy635_0, hy635_1, ey635⟩ := hy635
                    obtain rfl : y626 = y635 := ey626.trans ey635.symm
                    have hP9 := hP.sub (ws' := [(ha0_1, .inl (cI, 5, .inl fa0_1)), (ha0_2, .inl (cI, 5, .inl fa0_2)), (ha0_4, .inl (cI, 12, .inl fa0_4)), (ha0_5, .inl (cI, 12, .inl fa0_5)), (ha0_6, .inl (cI, 12, .inl fa0_6)), (ha0_8, .inl (cI, 60, .inl fa0_8)), (ha0, .inr (12, [.ref ha0_0, .ref ha0_1, .ref ha0_2, .ref ha0_3, .ref ha0_4, .ref ha0_5, .ref ha0_6, .ref ha0_7, .ref ha0_8, .int ia0_9, .int ia0_10, .int ia0_11, .int ia0_12, .int ia0_13, .int ia0_14, .int ia0_15, .ref ha0_16, .ref ha0_17, .ref ha0_18, .ref ha0_19, .int ia0_20, .int ia0_21, .int ia0_22, .ref ha0_23, .int ia0_24, .int ia0_25, .int ia0_26, .int ia0_27, .int ia0_28, .ref ha0_29, .int ia0_30, .int ia0_31, .int ia0_32, .ref ha0_33, .ref ha0_34, .ref ha0_35, .int ia0_36, .int ia0_37]))]) [0, 1, 2, 3, 4, 5, 6] rfl
                    have hD9 := hD.sub (ws' := [(ha0_1, .inl (cI, 5, .inl fa0_1)), (ha0_2, .inl (cI, 5, .inl fa0_2)), (ha0_4, .inl (cI, 12, .inl fa0_4)), (ha0_5, .inl (cI, 12, .inl fa0_5)), (ha0_6, .inl (cI, 12, .inl fa0_6)), (ha0_8, .inl (cI, 60, .inl fa0_8)), (ha0, .inr (12, [.ref ha0_0, .ref ha0_1, .ref ha0_2, .ref ha0_3, .ref ha0_4, .ref ha0_5, .ref ha0_6, .ref ha0_7, .ref ha0_8, .int ia0_9, .int ia0_10, .int ia0_11, .int ia0_12, .int ia0_13, .int ia0_14, .int ia0_15, .ref ha0_16, .ref ha0_17, .ref ha0_18, .ref ha0_19, .int ia0_20, .int ia0_21, .int ia0_22, .ref ha0_23, .int ia0_24, .int ia0_25, .int ia0_26, .int ia0_27, .int ia0_28, .ref ha0_29, .int ia0_30, .int ia0_31, .int ia0_32, .ref ha0_33, .ref ha0_34, .ref ha0_35, .int ia0_36, .int ia0_37]))]) [0, 1, 2, 3, 4, 5, 6] (by decide) rfl
                    exact W.iret (v := y626) hx hb hr (fun t ht hW => ⟨⟨y626, (fun k => [ia0_37].getD k 0, fun k => [].getD k (fun _ => 0)), rfl, (show ((-2147483648) ≤ (ia0_37 : Int32).toInt ∧ (ia0_37 : Int32).toInt ≤ 2147483647) ∧ ((-9) ≤ (y626 : Int32).toInt ∧ (y626 : Int32).toInt ≤ 11) ∧ (True) from ⟨⟨(z_lo _), (z_hi _)⟩, ⟨by first | decide | omega, by first | decide | omega⟩, trivial⟩), by rw [ht]; exact hP9, hD9⟩, hS.F ht⟩) hS.2.2 dX12_lotFollower_113
                  · have q636 : 0 < v590.toInt := z_nle rfl (by decide) hc
                    refine lv_iload_n hx hb dX12_lotFollower_78 rfl (lv_at hl 1 rfl) ?_
                    refine lv_aload_n hx hb dX12_lotFollower_79 rfl (lv_at hl 3 rfl) ?_
                    refine lv_iload_n hx hb dX12_lotFollower_80 rfl (lv_at hl 0 rfl) ?_
                    refine lv_aload_n hx hb dX12_lotFollower_81 rfl (lv_at hl 3 rfl) ?_
                    refine va_get (D := (dC, dI)) (ci := 12) (v := .int ia0_14) (C := RX12) (T := TX12) (N := 38) hx hb hts in_X12_lotFollower_X12 hown hK hP 6 rfl rfl 14 (by decide) (hts (.fieldLink RX12 41 "EachOnHisCueModel" "latest" "I") (by decide +kernel)) (fun _ h9 => h9) rfl dX12_lotFollower_82 ?_
                    refine z_rdi (va_runV (As := [.int v589, .int ia0_14]) (rest := [.int v590]) ⟨hx, hb, hml, hown, hts⟩ (rX12_comesWith_F l dC dI cI cQ ha0 ha0_1 ha0_2 ha0_4 ha0_5 ha0_6 ha0_8 ha0_0 ha0_3 ha0_7 ha0_16 ha0_17 ha0_18 ha0_19 ha0_23 ha0_29 ha0_33 ha0_34 ha0_35 fa0_1 fa0_2 fa0_4 hBfa0_4 fa0_5 hBfa0_5 fa0_6 hBfa0_6 fa0_8 ia0_9 hia0_9l hia0_9h ia0_10 hia0_10l hia0_10h ia0_11 ia0_12 ia0_13 ia0_14 (Int.le_trans (by decide) hia0_14l) hia0_14h ia0_15 ia0_20 hia0_20l hia0_20h ia0_21 hia0_21l hia0_21h ia0_22 hia0_22l hia0_22h ia0_24 hia0_24l hia0_24h ia0_25 hia0_25l hia0_25h ia0_26 hia0_26l hia0_26h ia0_27 hia0_27l hia0_27h ia0_28 ia0_30 hia0_30l hia0_30h ia0_31 ia0_32 hia0_32l hia0_32h ia0_36 hia0_36l hia0_36h ia0_37 v589 (by first | decide | omega) (by first | decide | omega) ia0_14 hia0_14l hia0_14h) (cwV 2 hts gv_X12_lotFollower_X12_comesWith_192 rfl rfl rfl (by decide +kernel) ⟨Nat.le_of_ble_eq_true rfl, Nat.le_of_ble_eq_true rfl⟩) ⟨z_blindR, va_recv hK hP (ci := 12) (q0 := 6) rfl rfl, z_preR hZ hP [0, 1, 2, 3, 4, 5, 6] rfl⟩ rfl rfl hl.1 rfl (lv_room (Nat.le_of_ble_eq_true rfl)) dX12_lotFollower_85 ⟨Nat.le_of_ble_eq_true rfl, Nat.le_of_ble_eq_true rfl⟩) (fun y637 hy637 => ?_)
                    obtain ⟨hy637_0, hy637_1, ey637⟩ := hy637
                    obtain rfl : y626 = y637 := ey626.trans ey637.symm
                    refine lv_if_lt (tgt := 95) hx hb dX12_lotFollower_88 (by decide) (fun hc => ?_) (fun hc => ?_)
                    · have q638 : y626.toInt < 0 := z_lt rfl (by decide) hc
                      exfalso; omega
                    · have q639 : 0 ≤ y626.toInt := z_nlt rfl (by decide) hc
                      refine lv_iconst (v := 1) hx hb dX12_lotFollower_91 (by decide) ?_
                      refine lv_goto (tgt := 96) hx hb dX12_lotFollower_92 (by decide) ?_
                      refine lv_isub hx hb dX12_lotFollower_96 ?_
                      refine lv_topi (fun y640 ey640 => ?_)
                      have hy640 : y640.toInt = v590.toInt - 1 := by rw [ey640]; exact z_sub rfl (by decide) (by omega) (by omega)
                      refine lv_istore_n (lv' := [(2, .int y640), (3, .int v589), (1, .int v2), (0, .ref ha0)]) hx hb dX12_lotFollower_97 rfl hl (by decide) rfl (fun ls hl => ?_)
                      obtain ⟨y641, ey641⟩ : ∃ y : Int32, y = v589 + 1 := ⟨_, rfl⟩
                      refine lv_iinc (v := y641) (lv' := [(3, .int y641), (2, .int y640), (1, .int v2), (0, .ref ha0)]) hx hb dX12_lotFollower_98 hl (k := 1) rfl (by rw [ey641]; rfl) (by decide) rfl (fun ls hl => ?_)
                      have hy641 : y641.toInt = v589.toInt + 1 := by rw [ey641]; exact z_add rfl (by decide) (by omega) (by omega)
                      have hcn : zcn (fun q9 => FX12_comesWith fa0_1 fa0_2 fa0_4 fa0_5 fa0_6 fa0_8 ia0_10 ia0_12 ia0_13 ia0_27 ia0_28 q9 ia0_14) y641.toInt.toNat = zcn (fun q9 => FX12_comesWith fa0_1 fa0_2 fa0_4 fa0_5 fa0_6 fa0_8 ia0_10 ia0_12 ia0_13 ia0_27 ia0_28 q9 ia0_14) v589.toInt.toNat + (v590.toInt - y640.toInt) := by first | (rw [z_cnP (G := (fun q9 => FX12_comesWith fa0_1 fa0_2 fa0_4 fa0_5 fa0_6 fa0_8 ia0_10 ia0_12 ia0_13 ia0_27 ia0_28 q9 ia0_14)) (p := v589) (y := y641) ey626 (by omega) (by omega) (by omega)]; omega) | (rw [z_cnN (G := (fun q9 => FX12_comesWith fa0_1 fa0_2 fa0_4 fa0_5 fa0_6 fa0_8 ia0_10 ia0_12 ia0_13 ia0_27 ia0_28 q9 ia0_14)) (p := v589) (y := y641) ey626 (by omega) (by omega) (by omega)]; omega)
                      refine lv_goto (tgt := 62) hx hb dX12_lotFollower_101 (by decide) ?_
                      exact ih625 y641 y640 _ _ ls (by first | decide | omega) (by first | decide | omega) (by first | decide | omega) (by first | decide | omega) (by omega) (by first | omega | decide | (rw [show (0 : Int32).toInt = 0 from by decide]; omega)) (by omega) (lv_sub hl [0, 1, 2, 3] rfl) hP hD hS
            exact hL623 ((5 - (0 : Int32).toInt).toNat + 1) 0 0 _ _ ls (by decide) (by decide) (by decide) (by decide) (by have hz : zcn (fun q9 => FX12_comesWith fa0_1 fa0_2 fa0_4 fa0_5 fa0_6 fa0_8 ia0_10 ia0_12 ia0_13 ia0_27 ia0_28 q9 ia0_14) (0 : Int32).toInt.toNat = 0 := (by rw [show (0 : Int32).toInt = 0 from by decide]; try rfl); have h0 : (0 : Int32).toInt = 0 := (by decide); omega) (by first | omega | decide | (rw [show (0 : Int32).toInt = 0 from by decide]; omega)) (by omega) hl hP hD hS
          · have q642 : 1 < v2.toInt := z_nle rfl (by decide) hc
            refine lv_aload_n hx hb dX12_lotFollower_50 rfl (lv_at hl 2 rfl) ?_
            refine lv_iload_n hx hb dX12_lotFollower_51 rfl (lv_at hl 1 rfl) ?_
            refine z_cwi (wc := [(ha0, .inr (12, [.ref ha0_0, .ref ha0_1, .ref ha0_2, .ref ha0_3, .ref ha0_4, .ref ha0_5, .ref ha0_6, .ref ha0_7, .ref ha0_8, .int ia0_9, .int ia0_10, .int ia0_11, .int ia0_12, .int ia0_13, .int ia0_14, .int ia0_15, .ref ha0_16, .ref ha0_17, .ref ha0_18, .ref ha0_19, .int ia0_20, .int ia0_21, .int ia0_22, .ref ha0_23, .int ia0_24, .int ia0_25, .int ia0_26, .int ia0_27, .int ia0_28, .ref ha0_29, .int ia0_30, .int ia0_31, .int ia0_32, .ref ha0_33, .ref ha0_34, .ref ha0_35, .int ia0_36, .int ia0_37]))]) (wr := [(ha0_1, .inl (cI, 5, .inl fa0_1)), (ha0_2, .inl (cI, 5, .inl fa0_2)), (ha0_4, .inl (cI, 12, .inl fa0_4)), (ha0_5, .inl (cI, 12, .inl fa0_5)), (ha0_6, .inl (cI, 12, .inl fa0_6)), (ha0_8, .inl (cI, 60, .inl fa0_8))]) (w1 := fun u644 => [(ha0, .inr (12, [.ref ha0_0, .ref ha0_1, .ref ha0_2, .ref ha0_3, .ref ha0_4, .ref ha0_5, .ref ha0_6, .ref ha0_7, .ref ha0_8, .int ia0_9, .int ia0_10, .int ia0_11, .int ia0_12, .int ia0_13, .int ia0_14, .int ia0_15, .ref ha0_16, .ref ha0_17, .ref ha0_18, .ref ha0_19, .int ia0_20, .int ia0_21, .int ia0_22, .ref ha0_23, .int ia0_24, .int ia0_25, .int ia0_26, .int ia0_27, .int ia0_28, .ref ha0_29, .int ia0_30, .int ia0_31, .int ia0_32, .ref ha0_33, .ref ha0_34, .ref ha0_35, .int ia0_36, .int (u644.1 0)]))]) (va_runV (As := [.int v2]) (rest := []) ⟨hx, hb, hml, hown, hts⟩ (wX12_draw_F l dC dI cI cQ ha0 ha0_0 ha0_1 ha0_2 ha0_3 ha0_4 ha0_5 ha0_6 ha0_7 ha0_8 ha0_16 ha0_17 ha0_18 ha0_19 ha0_23 ha0_29 ha0_33 ha0_34 ha0_35 ia0_9 hia0_9l hia0_9h ia0_10 hia0_10l hia0_10h ia0_11 ia0_12 ia0_13 ia0_14 (Int.le_trans (by decide) hia0_14l) hia0_14h ia0_15 ia0_20 hia0_20l hia0_20h ia0_21 hia0_21l hia0_21h ia0_22 hia0_22l hia0_22h ia0_24 hia0_24l hia0_24h ia0_25 hia0_25l hia0_25h ia0_26 hia0_26l hia0_26h ia0_27 hia0_27l hia0_27h ia0_28 ia0_30 hia0_30l hia0_30h ia0_31 ia0_32 hia0_32l hia0_32h ia0_36 hia0_36l hia0_36h ia0_37 v2 (by first | decide | omega) (by first | decide | omega) H.size) (cwV 1 hts gv_X12_lotFollower_X12_draw_285 rfl rfl rfl (by decide +kernel) ⟨Nat.le_of_ble_eq_true rfl, Nat.le_of_ble_eq_true rfl⟩) ⟨z_blind, va_recv hK hP (ci := 12) (q0 := 6) rfl rfl, z_pre hZ hP hD [6] rfl (by decide +kernel)⟩ rfl rfl hl.1 rfl (lv_room (Nat.le_of_ble_eq_true rfl)) dX12_lotFollower_52 ⟨Nat.le_of_ble_eq_true rfl, Nat.le_of_ble_eq_true rfl⟩) hP hD hS hA [6] [0, 1, 2, 3, 4, 5] rfl rfl (by decide +kernel) (by decide +kernel) (fun y643 u644 H locs hpo hP hD hS => ?_)
            generalize hgw645 : u644.1 0 = w645 at hP hD hpo
            have hP : va_P (dC, dI) vwCl [(ha0_1, .inl (cI, 5, .inl fa0_1)), (ha0_2, .inl (cI, 5, .inl fa0_2)), (ha0_4, .inl (cI, 12, .inl fa0_4)), (ha0_5, .inl (cI, 12, .inl fa0_5)), (ha0_6, .inl (cI, 12, .inl fa0_6)), (ha0_8, .inl (cI, 60, .inl fa0_8)), (ha0, .inr (12, [.ref ha0_0, .ref ha0_1, .ref ha0_2, .ref ha0_3, .ref ha0_4, .ref ha0_5, .ref ha0_6, .ref ha0_7, .ref ha0_8, .int ia0_9, .int ia0_10, .int ia0_11, .int ia0_12, .int ia0_13, .int ia0_14, .int ia0_15, .ref ha0_16, .ref ha0_17, .ref ha0_18, .ref ha0_19, .int ia0_20, .int ia0_21, .int ia0_22, .ref ha0_23, .int ia0_24, .int ia0_25, .int ia0_26, .int ia0_27, .int ia0_28, .ref ha0_29, .int ia0_30, .int ia0_31, .int ia0_32, .ref ha0_33, .ref ha0_34, .ref ha0_35, .int ia0_36, .int w645]))] H := hP
            have hD : va_D A [(ha0_1, .inl (cI, 5, .inl fa0_1)), (ha0_2, .inl (cI, 5, .inl fa0_2)), (ha0_4, .inl (cI, 12, .inl fa0_4)), (ha0_5, .inl (cI, 12, .inl fa0_5)), (ha0_6, .inl (cI, 12, .inl fa0_6)), (ha0_8, .inl (cI, 60, .inl fa0_8)), (ha0, .inr (12, [.ref ha0_0, .ref ha0_1, .ref ha0_2, .ref ha0_3, .ref ha0_4, .ref ha0_5, .ref ha0_6, .ref ha0_7, .ref ha0_8, .int ia0_9, .int ia0_10, .int ia0_11, .int ia0_12, .int ia0_13, .int ia0_14, .int ia0_15, .ref ha0_16, .ref ha0_17, .ref ha0_18, .ref ha0_19, .int ia0_20, .int ia0_21, .int ia0_22, .ref ha0_23, .int ia0_24, .int ia0_25, .int ia0_26, .int ia0_27, .int ia0_28, .ref ha0_29, .int ia0_30, .int ia0_31, .int ia0_32, .ref ha0_33, .ref ha0_34, .ref ha0_35, .int ia0_36, .int w645]))] := hD
            obtain ⟨hw645p, hy643r, hy643po⟩ := hpo
            obtain ⟨hw645l, hw645h⟩ := hw645p
            obtain ⟨hy643l, hy643h⟩ := hy643r
            refine lv_goto (tgt := 59) hx hb dX12_lotFollower_55 (by decide) ?_
            refine lv_istore_n (lv' := [(2, .int y643), (1, .int v2), (0, .ref ha0)]) hx hb dX12_lotFollower_59 rfl hl (by decide) rfl (fun ls hl => ?_)
            refine lv_iconst (v := 0) hx hb dX12_lotFollower_60 (by decide) ?_
            refine lv_istore_n (lv' := [(3, .int 0), (2, .int y643), (1, .int v2), (0, .ref ha0)]) hx hb dX12_lotFollower_61 rfl hl (by decide) rfl (fun ls hl => ?_)
            have hL680 : ∀ (n : Nat) (v646 : Int32) (v647 : Int32) (H : Heap) (locs : List Loc) (ls : Array Slot), 0 ≤ v646.toInt → v646.toInt ≤ 5 → 0 ≤ v647.toInt → v647.toInt ≤ 5 → ((v647 : Int32).toInt < zcn (fun q9 => FX12_comesWith fa0_1 fa0_2 fa0_4 fa0_5 fa0_6 fa0_8 ia0_10 ia0_12 ia0_13 ia0_27 ia0_28 q9 ia0_14) ia0_9.toInt.toNat - zcn (fun q9 => FX12_comesWith fa0_1 fa0_2 fa0_4 fa0_5 fa0_6 fa0_8 ia0_10 ia0_12 ia0_13 ia0_27 ia0_28 q9 ia0_14) (v646 : Int32).toInt.toNat) → ((v646 : Int32).toInt ≤ ia0_9.toInt) → (5 - v646.toInt).toNat < n → lv_has ls 4 [(3, .int v646), (2, .int v647), (1, .int v2), (0, .ref ha0)] → va_P (dC, dI) vwCl [(ha0_1, .inl (cI, 5, .inl fa0_1)), (ha0_2, .inl (cI, 5, .inl fa0_2)), (ha0_4, .inl (cI, 12, .inl fa0_4)), (ha0_5, .inl (cI, 12, .inl fa0_5)), (ha0_6, .inl (cI, 12, .inl fa0_6)), (ha0_8, .inl (cI, 60, .inl fa0_8)), (ha0, .inr (12, [.ref ha0_0, .ref ha0_1, .ref ha0_2, .ref ha0_3, .ref ha0_4, .ref ha0_5, .ref ha0_6, .ref ha0_7, .ref ha0_8, .int ia0_9, .int ia0_10, .int ia0_11, .int ia0_12, .int ia0_13, .int ia0_14, .int ia0_15, .ref ha0_16, .ref ha0_17, .ref ha0_18, .ref ha0_19, .int ia0_20, .int ia0_21, .int ia0_22, .ref ha0_23, .int ia0_24, .int ia0_25, .int ia0_26, .int ia0_27, .int ia0_28, .ref ha0_29, .int ia0_30, .int ia0_31, .int ia0_32, .ref ha0_33, .ref ha0_34, .ref ha0_35, .int ia0_36, .int w645]))] H → va_D A [(ha0_1, .inl (cI, 5, .inl fa0_1)), (ha0_2, .inl (cI, 5, .inl fa0_2)), (ha0_4, .inl (cI, 12, .inl fa0_4)), (ha0_5, .inl (cI, 12, .inl fa0_5)), (ha0_6, .inl (cI, 12, .inl fa0_6)), (ha0_8, .inl (cI, 60, .inl fa0_8)), (ha0, .inr (12, [.ref ha0_0, .ref ha0_1, .ref ha0_2, .ref ha0_3, .ref ha0_4, .ref ha0_5, .ref ha0_6, .ref ha0_7, .ref ha0_8, .int ia0_9, .int ia0_10, .int ia0_11, .int ia0_12, .int ia0_13, .int ia0_14, .int ia0_15, .ref ha0_16, .ref ha0_17, .ref ha0_18, .ref ha0_19, .int ia0_20, .int ia0_21, .int ia0_22, .ref ha0_23, .int ia0_24, .int ia0_25, .int ia0_26, .int ia0_27, .int ia0_28, .ref ha0_29, .int ia0_30, .int ia0_31, .int ia0_32, .ref ha0_33, .ref ha0_34, .ref ha0_35, .int ia0_36, .int w645]))] → va_S A s.heap H locs → W p l e (headSpec vsX12_lotFollower ({ frames := 4, cells := 0, slots := 0, locals := 97 })).room s m ([.ref ha0] : List Value).toArray below meth c H locs 0 0 (MQ below (zWi dC dI (A) (fun u => [(ha0_1, .inl (cI, 5, .inl fa0_1)), (ha0_2, .inl (cI, 5, .inl fa0_2)), (ha0_4, .inl (cI, 12, .inl fa0_4)), (ha0_5, .inl (cI, 12, .inl fa0_5)), (ha0_6, .inl (cI, 12, .inl fa0_6)), (ha0_8, .inl (cI, 60, .inl fa0_8)), (ha0, .inr (12, [.ref ha0_0, .ref ha0_1, .ref ha0_2, .ref ha0_3, .ref ha0_4, .ref ha0_5, .ref ha0_6, .ref ha0_7, .ref ha0_8, .int ia0_9, .int ia0_10, .int ia0_11, .int ia0_12, .int ia0_13, .int ia0_14, .int ia0_15, .ref ha0_16, .ref ha0_17, .ref ha0_18, .ref ha0_19, .int ia0_20, .int ia0_21, .int ia0_22, .ref ha0_23, .int ia0_24, .int ia0_25, .int ia0_26, .int ia0_27, .int ia0_28, .ref ha0_29, .int ia0_30, .int ia0_31, .int ia0_32, .ref ha0_33, .ref ha0_34, .ref ha0_35, .int ia0_36, .int (u.1 0)]))]) (fun r u => ((-2147483648) ≤ (u.1 0).toInt ∧ (u.1 0).toInt ≤ 2147483647) ∧ ((-9) ≤ r.toInt ∧ r.toInt ≤ 11) ∧ True)) ([.ref ha0] : List Value).toArray s 0 0 A) (F0 m 62 ls []) := by
              intro n
              induction n with
              | zero =>
                intro v646 v647 H locs ls hi681_0 hi681_1 hi681_2 hi681_3 hi681_x0 hi681_x1 hi681_m hl hP hD hS
                exact absurd hi681_m (Nat.not_lt_zero _)
              | succ n ih =>
                intro v646 v647 H locs ls hi681_0 hi681_1 hi681_2 hi681_3 hi681_x0 hi681_x1 hi681_m hl hP hD hS
                have ih682 := ih
                have hrel : (v647 : Int32).toInt < zcn (fun q9 => FX12_comesWith fa0_1 fa0_2 fa0_4 fa0_5 fa0_6 fa0_8 ia0_10 ia0_12 ia0_13 ia0_27 ia0_28 q9 ia0_14) ia0_9.toInt.toNat - zcn (fun q9 => FX12_comesWith fa0_1 fa0_2 fa0_4 fa0_5 fa0_6 fa0_8 ia0_10 ia0_12 ia0_13 ia0_27 ia0_28 q9 ia0_14) (v646 : Int32).toInt.toNat := by assumption
                have hpp : v646.toInt ≠ ia0_9.toInt := fun h => by rw [h] at hrel; omega
                refine lv_aload_n hx hb dX12_lotFollower_62 rfl (lv_at hl 3 rfl) ?_
                refine lv_iload_n hx hb dX12_lotFollower_63 rfl (lv_at hl 0 rfl) ?_
                refine lv_aload_n hx hb dX12_lotFollower_64 rfl (lv_at hl 3 rfl) ?_
                refine va_get (D := (dC, dI)) (ci := 12) (v := .int ia0_14) (C := RX12) (T := TX12) (N := 38) hx hb hts in_X12_lotFollower_X12 hown hK hP 6 rfl rfl 14 (by decide) (hts (.fieldLink RX12 41 "EachOnHisCueModel" "latest" "I") (by decide +kernel)) (fun _ h9 => h9) rfl dX12_lotFollower_65 ?_
                refine z_rdi (va_runV (As := [.int v646, .int ia0_14]) (rest := []) ⟨hx, hb, hml, hown, hts⟩ (rX12_comesWith_F l dC dI cI cQ ha0 ha0_1 ha0_2 ha0_4 ha0_5 ha0_6 ha0_8 ha0_0 ha0_3 ha0_7 ha0_16 ha0_17 ha0_18 ha0_19 ha0_23 ha0_29 ha0_33 ha0_34 ha0_35 fa0_1 fa0_2 fa0_4 hBfa0_4 fa0_5 hBfa0_5 fa0_6 hBfa0_6 fa0_8 ia0_9 hia0_9l hia0_9h ia0_10 hia0_10l hia0_10h ia0_11 ia0_12 ia0_13 ia0_14 (Int.le_trans (by decide) hia0_14l) hia0_14h ia0_15 ia0_20 hia0_20l hia0_20h ia0_21 hia0_21l hia0_21h ia0_22 hia0_22l hia0_22h ia0_24 hia0_24l hia0_24h ia0_25 hia0_25l hia0_25h ia0_26 hia0_26l hia0_26h ia0_27 hia0_27l hia0_27h ia0_28 ia0_30 hia0_30l hia0_30h ia0_31 ia0_32 hia0_32l hia0_32h ia0_36 hia0_36l hia0_36h w645 v646 (by first | decide | omega) (by first | decide | omega) ia0_14 hia0_14l hia0_14h) (cwV 2 hts gv_X12_lotFollower_X12_comesWith_192 rfl rfl rfl (by decide +kernel) ⟨Nat.le_of_ble_eq_true rfl, Nat.le_of_ble_eq_true rfl⟩) ⟨z_blindR, va_recv hK hP (ci := 12) (q0 := 6) rfl rfl, z_preR hZ hP [0, 1, 2, 3, 4, 5, 6] rfl⟩ rfl rfl hl.1 rfl (lv_room (Nat.le_of_ble_eq_true rfl)) dX12_lotFollower_68 ⟨Nat.le_of_ble_eq_true rfl, Nat.le_of_ble_eq_true rfl⟩) (fun y683 hy683 => ?_)
                obtain ⟨hy683_0, hy683_1, ey683⟩ := hy683
                refine lv_if_lt (tgt := 78) hx hb dX12_lotFollower_71 (by decide) (fun hc => ?_) (fun hc => ?_)
                · have q684 : y683.toInt < 0 := z_lt rfl (by decide) hc
                  refine lv_iload_n hx hb dX12_lotFollower_78 rfl (lv_at hl 1 rfl) ?_
                  refine lv_aload_n hx hb dX12_lotFollower_79 rfl (lv_at hl 3 rfl) ?_
                  refine lv_iload_n hx hb dX12_lotFollower_80 rfl (lv_at hl 0 rfl) ?_
                  refine lv_aload_n hx hb dX12_lotFollower_81 rfl (lv_at hl 3 rfl) ?_
                  refine va_get (D := (dC, dI)) (ci := 12) (v := .int ia0_14) (C := RX12) (T := TX12) (N := 38) hx hb hts in_X12_lotFollower_X12 hown hK hP 6 rfl rfl 14 (by decide) (hts (.fieldLink RX12 41 "EachOnHisCueModel" "latest" "I") (by decide +kernel)) (fun _ h9 => h9) rfl dX12_lotFollower_82 ?_
                  refine z_rdi (va_runV (As := [.int v646, .int ia0_14]) (rest := [.int v647]) ⟨hx, hb, hml, hown, hts⟩ (rX12_comesWith_F l dC dI cI cQ ha0 ha0_1 ha0_2 ha0_4 ha0_5 ha0_6 ha0_8 ha0_0 ha0_3 ha0_7 ha0_16 ha0_17 ha0_18 ha0_19 ha0_23 ha0_29 ha0_33 ha0_34 ha0_35 fa0_1 fa0_2 fa0_4 hBfa0_4 fa0_5 hBfa0_5 fa0_6 hBfa0_6 fa0_8 ia0_9 hia0_9l hia0_9h ia0_10 hia0_10l hia0_10h ia0_11 ia0_12 ia0_13 ia0_14 (Int.le_trans (by decide) hia0_14l) hia0_14h ia0_15 ia0_20 hia0_20l hia0_20h ia0_21 hia0_21l hia0_21h ia0_22 hia0_22l hia0_22h ia0_24 hia0_24l hia0_24h ia0_25 hia0_25l hia0_25h ia0_26 hia0_26l hia0_26h ia0_27 hia0_27l hia0_27h ia0_28 ia0_30 hia0_30l hia0_30h ia0_31 ia0_32 hia0_32l hia0_32h ia0_36 hia0_36l hia0_36h w645 v646 (by first | decide | omega) (by first | decide | omega) ia0_14 hia0_14l hia0_14h) (cwV 2 hts gv_X12_lotFollower_X12_comesWith_192 rfl rfl rfl (by decide +kernel) ⟨Nat.le_of_ble_eq_true rfl, Nat.le_of_ble_eq_true rfl⟩) ⟨z_blindR, va_recv hK hP (ci := 12) (q0 := 6) rfl rfl, z_preR hZ hP [0, 1, 2, 3, 4, 5, 6] rfl⟩ rfl rfl hl.1 rfl (lv_room (Nat.le_of_ble_eq_true rfl)) dX12_lotFollower_85 ⟨Nat.le_of_ble_eq_true rfl, Nat.le_of_ble_eq_true rfl⟩) (fun y685 hy685 => ?_)
                  obtain ⟨hy685_0, hy685_1, ey685⟩ := hy685
                  obtain rfl : y683 = y685 := ey683.trans ey685.symm
                  refine lv_if_lt (tgt := 95) hx hb dX12_lotFollower_88 (by decide) (fun hc => ?_) (fun hc => ?_)
                  · have q686 : y683.toInt < 0 := z_lt rfl (by decide) hc
                    refine lv_iconst (v := 0) hx hb dX12_lotFollower_95 (by decide) ?_
                    refine lv_isub hx hb dX12_lotFollower_96 ?_
                    refine lv_topi (fun y687 ey687 => ?_)
                    have hy687 : y687.toInt = v647.toInt - 0 := by rw [ey687]; exact z_sub rfl (by decide) (by omega) (by omega)
                    refine lv_istore_n (lv' := [(2, .int y687), (3, .int v646), (1, .int v2), (0, .ref ha0)]) hx hb dX12_lotFollower_97 rfl hl (by decide) rfl (fun ls hl => ?_)
                    obtain ⟨y688, ey688⟩ : ∃ y : Int32, y = v646 + 1 := ⟨_, rfl⟩
                    refine lv_iinc (v := y688) (lv' := [(3, .int y688), (2, .int y687), (1, .int v2), (0, .ref ha0)]) hx hb dX12_lotFollower_98 hl (k := 1) rfl (by rw [ey688]; rfl) (by decide) rfl (fun ls hl => ?_)
                    have hy688 : y688.toInt = v646.toInt + 1 := by rw [ey688]; exact z_add rfl (by decide) (by omega) (by omega)
                    have hcn : zcn (fun q9 => FX12_comesWith fa0_1 fa0_2 fa0_4 fa0_5 fa0_6 fa0_8 ia0_10 ia0_12 ia0_13 ia0_27 ia0_28 q9 ia0_14) y688.toInt.toNat = zcn (fun q9 => FX12_comesWith fa0_1 fa0_2 fa0_4 fa0_5 fa0_6 fa0_8 ia0_10 ia0_12 ia0_13 ia0_27 ia0_28 q9 ia0_14) v646.toInt.toNat + (v647.toInt - y687.toInt) := by first | (rw [z_cnP (G := (fun q9 => FX12_comesWith fa0_1 fa0_2 fa0_4 fa0_5 fa0_6 fa0_8 ia0_10 ia0_12 ia0_13 ia0_27 ia0_28 q9 ia0_14)) (p := v646) (y := y688) ey683 (by omega) (by omega) (by omega)]; omega) | (rw [z_cnN (G := (fun q9 => FX12_comesWith fa0_1 fa0_2 fa0_4 fa0_5 fa0_6 fa0_8 ia0_10 ia0_12 ia0_13 ia0_27 ia0_28 q9 ia0_14)) (p := v646) (y := y688) ey683 (by omega) (by omega) (by omega)]; omega)
                    refine lv_goto (tgt := 62) hx hb dX12_lotFollower_101 (by decide) ?_
                    exact ih682 y688 y687 _ _ ls (by first | decide | omega) (by first | decide | omega) (by first | decide | omega) (by first | decide | omega) (by omega) (by first | omega | decide | (rw [show (0 : Int32).toInt = 0 from by decide]; omega)) (by omega) (lv_sub hl [0, 1, 2, 3] rfl) hP hD hS
                  · have q689 : 0 ≤ y683.toInt := z_nlt rfl (by decide) hc
                    exfalso; omega
                · have q690 : 0 ≤ y683.toInt := z_nlt rfl (by decide) hc
                  refine lv_iload_n hx hb dX12_lotFollower_74 rfl (lv_at hl 1 rfl) ?_
                  refine lv_if_le (tgt := 104) hx hb dX12_lotFollower_75 (by decide) (fun hc => ?_) (fun hc => ?_)
                  · have q691 : v647.toInt ≤ 0 := z_le rfl (by decide) hc
                    refine lv_aload_n hx hb dX12_lotFollower_104 rfl (lv_at hl 3 rfl) ?_
                    refine lv_iload_n hx hb dX12_lotFollower_105 rfl (lv_at hl 0 rfl) ?_
                    refine lv_aload_n hx hb dX12_lotFollower_106 rfl (lv_at hl 3 rfl) ?_
                    refine va_get (D := (dC, dI)) (ci := 12) (v := .int ia0_14) (C := RX12) (T := TX12) (N := 38) hx hb hts in_X12_lotFollower_X12 hown hK hP 6 rfl rfl 14 (by decide) (hts (.fieldLink RX12 41 "EachOnHisCueModel" "latest" "I") (by decide +kernel)) (fun _ h9 => h9) rfl dX12_lotFollower_107 ?_
                    refine z_rdi (va_runV (As := [.int v646, .int ia0_14]) (rest := []) ⟨hx, hb, hml, hown, hts⟩ (rX12_comesWith_F l dC dI cI cQ ha0 ha0_1 ha0_2 ha0_4 ha0_5 ha0_6 ha0_8 ha0_0 ha0_3 ha0_7 ha0_16 ha0_17 ha0_18 ha0_19 ha0_23 ha0_29 ha0_33 ha0_34 ha0_35 fa0_1 fa0_2 fa0_4 hBfa0_4 fa0_5 hBfa0_5 fa0_6 hBfa0_6 fa0_8 ia0_9 hia0_9l hia0_9h ia0_10 hia0_10l hia0_10h ia0_11 ia0_12 ia0_13 ia0_14 (Int.le_trans (by decide) hia0_14l) hia0_14h ia0_15 ia0_20 hia0_20l hia0_20h ia0_21 hia0_21l hia0_21h ia0_22 hia0_22l hia0_22h ia0_24 hia0_24l hia0_24h ia0_25 hia0_25l hia0_25h ia0_26 hia0_26l hia0_26h ia0_27 hia0_27l hia0_27h ia0_28 ia0_30 hia0_30l hia0_30h ia0_31 ia0_32 hia0_32l hia0_32h ia0_36 hia0_36l hia0_36h w645 v646 (by first | decide | omega) (by first | decide | omega) ia0_14 hia0_14l hia0_14h) (cwV 2 hts gv_X12_lotFollower_X12_comesWith_192 rfl rfl rfl (by decide +kernel) ⟨Nat.le_of_ble_eq_true rfl, Nat.le_of_ble_eq_true rfl⟩) ⟨z_blindR, va_recv hK hP (ci := 12) (q0 := 6) rfl rfl, z_preR hZ hP [0, 1, 2, 3, 4, 5, 6] rfl⟩ rfl rfl hl.1 rfl (lv_room (Nat.le_of_ble_eq_true rfl)) dX12_lotFollower_110 ⟨Nat.le_of_ble_eq_true rfl, Nat.le_of_ble_eq_true rfl⟩) (fun y692 hy692 => ?_)
                    obtain ⟨hy692_0, hy692_1, ey692⟩ := hy692
                    obtain rfl : y683 = y692 := ey683.trans ey692.symm
                    have hP9 := hP.sub (ws' := [(ha0_1, .inl (cI, 5, .inl fa0_1)), (ha0_2, .inl (cI, 5, .inl fa0_2)), (ha0_4, .inl (cI, 12, .inl fa0_4)), (ha0_5, .inl (cI, 12, .inl fa0_5)), (ha0_6, .inl (cI, 12, .inl fa0_6)), (ha0_8, .inl (cI, 60, .inl fa0_8)), (ha0, .inr (12, [.ref ha0_0, .ref ha0_1, .ref ha0_2, .ref ha0_3, .ref ha0_4, .ref ha0_5, .ref ha0_6, .ref ha0_7, .ref ha0_8, .int ia0_9, .int ia0_10, .int ia0_11, .int ia0_12, .int ia0_13, .int ia0_14, .int ia0_15, .ref ha0_16, .ref ha0_17, .ref ha0_18, .ref ha0_19, .int ia0_20, .int ia0_21, .int ia0_22, .ref ha0_23, .int ia0_24, .int ia0_25, .int ia0_26, .int ia0_27, .int ia0_28, .ref ha0_29, .int ia0_30, .int ia0_31, .int ia0_32, .ref ha0_33, .ref ha0_34, .ref ha0_35, .int ia0_36, .int w645]))]) [0, 1, 2, 3, 4, 5, 6] rfl
                    have hD9 := hD.sub (ws' := [(ha0_1, .inl (cI, 5, .inl fa0_1)), (ha0_2, .inl (cI, 5, .inl fa0_2)), (ha0_4, .inl (cI, 12, .inl fa0_4)), (ha0_5, .inl (cI, 12, .inl fa0_5)), (ha0_6, .inl (cI, 12, .inl fa0_6)), (ha0_8, .inl (cI, 60, .inl fa0_8)), (ha0, .inr (12, [.ref ha0_0, .ref ha0_1, .ref ha0_2, .ref ha0_3, .ref ha0_4, .ref ha0_5, .ref ha0_6, .ref ha0_7, .ref ha0_8, .int ia0_9, .int ia0_10, .int ia0_11, .int ia0_12, .int ia0_13, .int ia0_14, .int ia0_15, .ref ha0_16, .ref ha0_17, .ref ha0_18, .ref ha0_19, .int ia0_20, .int ia0_21, .int ia0_22, .ref ha0_23, .int ia0_24, .int ia0_25, .int ia0_26, .int ia0_27, .int ia0_28, .ref ha0_29, .int ia0_30, .int ia0_31, .int ia0_32, .ref ha0_33, .ref ha0_34, .ref ha0_35, .int ia0_36, .int w645]))]) [0, 1, 2, 3, 4, 5, 6] (by decide) rfl
                    exact W.iret (v := y683) hx hb hr (fun t ht hW => ⟨⟨y683, (fun k => [w645].getD k 0, fun k => [].getD k (fun _ => 0)), rfl, (show ((-2147483648) ≤ (w645 : Int32).toInt ∧ (w645 : Int32).toInt ≤ 2147483647) ∧ ((-9) ≤ (y683 : Int32).toInt ∧ (y683 : Int32).toInt ≤ 11) ∧ (True) from ⟨⟨hw645l, hw645h⟩, ⟨by first | decide | omega, by first | decide | omega⟩, trivial⟩), by rw [ht]; exact hP9, hD9⟩, hS.F ht⟩) hS.2.2 dX12_lotFollower_113
                  · have q693 : 0 < v647.toInt := z_nle rfl (by decide) hc
                    refine lv_iload_n hx hb dX12_lotFollower_78 rfl (lv_at hl 1 rfl) ?_
                    refine lv_aload_n hx hb dX12_lotFollower_79 rfl (lv_at hl 3 rfl) ?_
                    refine lv_iload_n hx hb dX12_lotFollower_80 rfl (lv_at hl 0 rfl) ?_
                    refine lv_aload_n hx hb dX12_lotFollower_81 rfl (lv_at hl 3 rfl) ?_
                    refine va_get (D := (dC, dI)) (ci := 12) (v := .int ia0_14) (C := RX12) (T := TX12) (N := 38) hx hb hts in_X12_lotFollower_X12 hown hK hP 6 rfl rfl 14 (by decide) (hts (.fieldLink RX12 41 "EachOnHisCueModel" "latest" "I") (by decide +kernel)) (fun _ h9 => h9) rfl dX12_lotFollower_82 ?_
                    refine z_rdi (va_runV (As := [.int v646, .int ia0_14]) (rest := [.int v647]) ⟨hx, hb, hml, hown, hts⟩ (rX12_comesWith_F l dC dI cI cQ ha0 ha0_1 ha0_2 ha0_4 ha0_5 ha0_6 ha0_8 ha0_0 ha0_3 ha0_7 ha0_16 ha0_17 ha0_18 ha0_19 ha0_23 ha0_29 ha0_33 ha0_34 ha0_35 fa0_1 fa0_2 fa0_4 hBfa0_4 fa0_5 hBfa0_5 fa0_6 hBfa0_6 fa0_8 ia0_9 hia0_9l hia0_9h ia0_10 hia0_10l hia0_10h ia0_11 ia0_12 ia0_13 ia0_14 (Int.le_trans (by decide) hia0_14l) hia0_14h ia0_15 ia0_20 hia0_20l hia0_20h ia0_21 hia0_21l hia0_21h ia0_22 hia0_22l hia0_22h ia0_24 hia0_24l hia0_24h ia0_25 hia0_25l hia0_25h ia0_26 hia0_26l hia0_26h ia0_27 hia0_27l hia0_27h ia0_28 ia0_30 hia0_30l hia0_30h ia0_31 ia0_32 hia0_32l hia0_32h ia0_36 hia0_36l hia0_36h w645 v646 (by first | decide | omega) (by first | decide | omega) ia0_14 hia0_14l hia0_14h) (cwV 2 hts gv_X12_lotFollower_X12_comesWith_192 rfl rfl rfl (by decide +kernel) ⟨Nat.le_of_ble_eq_true rfl, Nat.le_of_ble_eq_true rfl⟩) ⟨z_blindR, va_recv hK hP (ci := 12) (q0 := 6) rfl rfl, z_preR hZ hP [0, 1, 2, 3, 4, 5, 6] rfl⟩ rfl rfl hl.1 rfl (lv_room (Nat.le_of_ble_eq_true rfl)) dX12_lotFollower_85 ⟨Nat.le_of_ble_eq_true rfl, Nat.le_of_ble_eq_true rfl⟩) (fun y694 hy694 => ?_)
                    obtain ⟨hy694_0, hy694_1, ey694⟩ := hy694
                    obtain rfl : y683 = y694 := ey683.trans ey694.symm
                    refine lv_if_lt (tgt := 95) hx hb dX12_lotFollower_88 (by decide) (fun hc => ?_) (fun hc => ?_)
                    · have q695 : y683.toInt < 0 := z_lt rfl (by decide) hc
                      exfalso; omega
                    · have q696 : 0 ≤ y683.toInt := z_nlt rfl (by decide) hc
                      refine lv_iconst (v := 1) hx hb dX12_lotFollower_91 (by decide) ?_
                      refine lv_goto (tgt := 96) hx hb dX12_lotFollower_92 (by decide) ?_
                      refine lv_isub hx hb dX12_lotFollower_96 ?_
                      refine lv_topi (fun y697 ey697 => ?_)
                      have hy697 : y697.toInt = v647.toInt - 1 := by rw [ey697]; exact z_sub rfl (by decide) (by omega) (by omega)
                      refine lv_istore_n (lv' := [(2, .int y697), (3, .int v646), (1, .int v2), (0, .ref ha0)]) hx hb dX12_lotFollower_97 rfl hl (by decide) rfl (fun ls hl => ?_)
                      obtain ⟨y698, ey698⟩ : ∃ y : Int32, y = v646 + 1 := ⟨_, rfl⟩
                      refine lv_iinc (v := y698) (lv' := [(3, .int y698), (2, .int y697), (1, .int v2), (0, .ref ha0)]) hx hb dX12_lotFollower_98 hl (k := 1) rfl (by rw [ey698]; rfl) (by decide) rfl (fun ls hl => ?_)
                      have hy698 : y698.toInt = v646.toInt + 1 := by rw [ey698]; exact z_add rfl (by decide) (by omega) (by omega)
                      have hcn : zcn (fun q9 => FX12_comesWith fa0_1 fa0_2 fa0_4 fa0_5 fa0_6 fa0_8 ia0_10 ia0_12 ia0_13 ia0_27 ia0_28 q9 ia0_14) y698.toInt.toNat = zcn (fun q9 => FX12_comesWith fa0_1 fa0_2 fa0_4 fa0_5 fa0_6 fa0_8 ia0_10 ia0_12 ia0_13 ia0_27 ia0_28 q9 ia0_14) v646.toInt.toNat + (v647.toInt - y697.toInt) := by first | (rw [z_cnP (G := (fun q9 => FX12_comesWith fa0_1 fa0_2 fa0_4 fa0_5 fa0_6 fa0_8 ia0_10 ia0_12 ia0_13 ia0_27 ia0_28 q9 ia0_14)) (p := v646) (y := y698) ey683 (by omega) (by omega) (by omega)]; omega) | (rw [z_cnN (G := (fun q9 => FX12_comesWith fa0_1 fa0_2 fa0_4 fa0_5 fa0_6 fa0_8 ia0_10 ia0_12 ia0_13 ia0_27 ia0_28 q9 ia0_14)) (p := v646) (y := y698) ey683 (by omega) (by omega) (by omega)]; omega)
                      refine lv_goto (tgt := 62) hx hb dX12_lotFollower_101 (by decide) ?_
                      exact ih682 y698 y697 _ _ ls (by first | decide | omega) (by first | decide | omega) (by first | decide | omega) (by first | decide | omega) (by omega) (by first | omega | decide | (rw [show (0 : Int32).toInt = 0 from by decide]; omega)) (by omega) (lv_sub hl [0, 1, 2, 3] rfl) hP hD hS
            exact hL680 ((5 - (0 : Int32).toInt).toNat + 1) 0 y643 _ _ ls (by decide) (by decide) (by first | decide | omega) (by first | decide | omega) (by have hz : zcn (fun q9 => FX12_comesWith fa0_1 fa0_2 fa0_4 fa0_5 fa0_6 fa0_8 ia0_10 ia0_12 ia0_13 ia0_27 ia0_28 q9 ia0_14) (0 : Int32).toInt.toNat = 0 := (by rw [show (0 : Int32).toInt = 0 from by decide]; try rfl); have h0 : (0 : Int32).toInt = 0 := (by decide); omega) (by first | omega | decide | (rw [show (0 : Int32).toInt = 0 from by decide]; omega)) (by omega) hl hP hD hS
        · have q699 : v2.toInt = 0 := z_eq rfl (by decide) hc
          refine lv_bipush (v := (-9)) hx hb dX12_lotFollower_42 (by decide) ?_
          have hP9 := hP.sub (ws' := [(ha0_1, .inl (cI, 5, .inl fa0_1)), (ha0_2, .inl (cI, 5, .inl fa0_2)), (ha0_4, .inl (cI, 12, .inl fa0_4)), (ha0_5, .inl (cI, 12, .inl fa0_5)), (ha0_6, .inl (cI, 12, .inl fa0_6)), (ha0_8, .inl (cI, 60, .inl fa0_8)), (ha0, .inr (12, [.ref ha0_0, .ref ha0_1, .ref ha0_2, .ref ha0_3, .ref ha0_4, .ref ha0_5, .ref ha0_6, .ref ha0_7, .ref ha0_8, .int ia0_9, .int ia0_10, .int ia0_11, .int ia0_12, .int ia0_13, .int ia0_14, .int ia0_15, .ref ha0_16, .ref ha0_17, .ref ha0_18, .ref ha0_19, .int ia0_20, .int ia0_21, .int ia0_22, .ref ha0_23, .int ia0_24, .int ia0_25, .int ia0_26, .int ia0_27, .int ia0_28, .ref ha0_29, .int ia0_30, .int ia0_31, .int ia0_32, .ref ha0_33, .ref ha0_34, .ref ha0_35, .int ia0_36, .int ia0_37]))]) [0, 1, 2, 3, 4, 5, 6] rfl
          have hD9 := hD.sub (ws' := [(ha0_1, .inl (cI, 5, .inl fa0_1)), (ha0_2, .inl (cI, 5, .inl fa0_2)), (ha0_4, .inl (cI, 12, .inl fa0_4)), (ha0_5, .inl (cI, 12, .inl fa0_5)), (ha0_6, .inl (cI, 12, .inl fa0_6)), (ha0_8, .inl (cI, 60, .inl fa0_8)), (ha0, .inr (12, [.ref ha0_0, .ref ha0_1, .ref ha0_2, .ref ha0_3, .ref ha0_4, .ref ha0_5, .ref ha0_6, .ref ha0_7, .ref ha0_8, .int ia0_9, .int ia0_10, .int ia0_11, .int ia0_12, .int ia0_13, .int ia0_14, .int ia0_15, .ref ha0_16, .ref ha0_17, .ref ha0_18, .ref ha0_19, .int ia0_20, .int ia0_21, .int ia0_22, .ref ha0_23, .int ia0_24, .int ia0_25, .int ia0_26, .int ia0_27, .int ia0_28, .ref ha0_29, .int ia0_30, .int ia0_31, .int ia0_32, .ref ha0_33, .ref ha0_34, .ref ha0_35, .int ia0_36, .int ia0_37]))]) [0, 1, 2, 3, 4, 5, 6] (by decide) rfl
          exact W.iret (v := (-9)) hx hb hr (fun t ht hW => ⟨⟨(-9), (fun k => [ia0_37].getD k 0, fun k => [].getD k (fun _ => 0)), rfl, (show ((-2147483648) ≤ (ia0_37 : Int32).toInt ∧ (ia0_37 : Int32).toInt ≤ 2147483647) ∧ ((-9) ≤ ((-9) : Int32).toInt ∧ ((-9) : Int32).toInt ≤ 11) ∧ (True) from ⟨⟨(z_lo _), (z_hi _)⟩, ⟨by first | decide | omega, by first | decide | omega⟩, trivial⟩), by rw [ht]; exact hP9, hD9⟩, hS.F ht⟩) hS.2.2 dX12_lotFollower_44
      · have q700 : v1.toInt < ia0_9.toInt := z_nle rfl rfl hc
        refine lv_iload_n hx hb dX12_lotFollower_12 rfl (lv_at hl 1 rfl) ?_
        refine lv_aload_n hx hb dX12_lotFollower_13 rfl (lv_at hl 2 rfl) ?_
        refine lv_iload_n hx hb dX12_lotFollower_14 rfl (lv_at hl 0 rfl) ?_
        refine lv_aload_n hx hb dX12_lotFollower_15 rfl (lv_at hl 2 rfl) ?_
        refine va_get (D := (dC, dI)) (ci := 12) (v := .int ia0_14) (C := RX12) (T := TX12) (N := 38) hx hb hts in_X12_lotFollower_X12 hown hK hP 6 rfl rfl 14 (by decide) (hts (.fieldLink RX12 41 "EachOnHisCueModel" "latest" "I") (by decide +kernel)) (fun _ h9 => h9) rfl dX12_lotFollower_16 ?_
        refine z_rdi (va_runV (As := [.int v1, .int ia0_14]) (rest := [.int v2]) ⟨hx, hb, hml, hown, hts⟩ (rX12_comesWith_F l dC dI cI cQ ha0 ha0_1 ha0_2 ha0_4 ha0_5 ha0_6 ha0_8 ha0_0 ha0_3 ha0_7 ha0_16 ha0_17 ha0_18 ha0_19 ha0_23 ha0_29 ha0_33 ha0_34 ha0_35 fa0_1 fa0_2 fa0_4 hBfa0_4 fa0_5 hBfa0_5 fa0_6 hBfa0_6 fa0_8 ia0_9 hia0_9l hia0_9h ia0_10 hia0_10l hia0_10h ia0_11 ia0_12 ia0_13 ia0_14 (Int.le_trans (by decide) hia0_14l) hia0_14h ia0_15 ia0_20 hia0_20l hia0_20h ia0_21 hia0_21l hia0_21h ia0_22 hia0_22l hia0_22h ia0_24 hia0_24l hia0_24h ia0_25 hia0_25l hia0_25h ia0_26 hia0_26l hia0_26h ia0_27 hia0_27l hia0_27h ia0_28 ia0_30 hia0_30l hia0_30h ia0_31 ia0_32 hia0_32l hia0_32h ia0_36 hia0_36l hia0_36h ia0_37 v1 (by first | decide | omega) (by first | decide | omega) ia0_14 hia0_14l hia0_14h) (cwV 2 hts gv_X12_lotFollower_X12_comesWith_192 rfl rfl rfl (by decide +kernel) ⟨Nat.le_of_ble_eq_true rfl, Nat.le_of_ble_eq_true rfl⟩) ⟨z_blindR, va_recv hK hP (ci := 12) (q0 := 6) rfl rfl, z_preR hZ hP [0, 1, 2, 3, 4, 5, 6] rfl⟩ rfl rfl hl.1 rfl (lv_room (Nat.le_of_ble_eq_true rfl)) dX12_lotFollower_19 ⟨Nat.le_of_ble_eq_true rfl, Nat.le_of_ble_eq_true rfl⟩) (fun y701 hy701 => ?_)
        obtain ⟨hy701_0, hy701_1, ey701⟩ := hy701
        refine lv_if_lt (tgt := 29) hx hb dX12_lotFollower_22 (by decide) (fun hc => ?_) (fun hc => ?_)
        · have q702 : y701.toInt < 0 := z_lt rfl (by decide) hc
          refine lv_iconst (v := 0) hx hb dX12_lotFollower_29 (by decide) ?_
          refine lv_iadd hx hb dX12_lotFollower_30 ?_
          refine lv_topi (fun y703 ey703 => ?_)
          have hy703 : y703.toInt = v2.toInt + 0 := by rw [ey703]; exact z_add rfl (by decide) (by omega) (by omega)
          refine lv_istore_n (lv' := [(1, .int y703), (2, .int v1), (0, .ref ha0)]) hx hb dX12_lotFollower_31 rfl hl (by decide) rfl (fun ls hl => ?_)
          obtain ⟨y704, ey704⟩ : ∃ y : Int32, y = v1 + 1 := ⟨_, rfl⟩
          refine lv_iinc (v := y704) (lv' := [(2, .int y704), (1, .int y703), (0, .ref ha0)]) hx hb dX12_lotFollower_32 hl (k := 1) rfl (by rw [ey704]; rfl) (by decide) rfl (fun ls hl => ?_)
          have hy704 : y704.toInt = v1.toInt + 1 := by rw [ey704]; exact z_add rfl (by decide) (by omega) (by omega)
          have hcn : zcn (fun q9 => FX12_comesWith fa0_1 fa0_2 fa0_4 fa0_5 fa0_6 fa0_8 ia0_10 ia0_12 ia0_13 ia0_27 ia0_28 q9 ia0_14) y704.toInt.toNat = zcn (fun q9 => FX12_comesWith fa0_1 fa0_2 fa0_4 fa0_5 fa0_6 fa0_8 ia0_10 ia0_12 ia0_13 ia0_27 ia0_28 q9 ia0_14) v1.toInt.toNat + (y703.toInt - v2.toInt) := by first | (rw [z_cnP (G := (fun q9 => FX12_comesWith fa0_1 fa0_2 fa0_4 fa0_5 fa0_6 fa0_8 ia0_10 ia0_12 ia0_13 ia0_27 ia0_28 q9 ia0_14)) (p := v1) (y := y704) ey701 (by omega) (by omega) (by omega)]; omega) | (rw [z_cnN (G := (fun q9 => FX12_comesWith fa0_1 fa0_2 fa0_4 fa0_5 fa0_6 fa0_8 ia0_10 ia0_12 ia0_13 ia0_27 ia0_28 q9 ia0_14)) (p := v1) (y := y704) ey701 (by omega) (by omega) (by omega)]; omega)
          refine lv_goto (tgt := 4) hx hb dX12_lotFollower_35 (by decide) ?_
          exact ih585 y704 y703 _ _ ls (by first | decide | omega) (by first | decide | omega) (by first | decide | omega) (by first | decide | omega) (by omega) (by first | omega | decide | (rw [show (0 : Int32).toInt = 0 from by decide]; omega)) (by first | omega | decide | (rw [show (0 : Int32).toInt = 0 from by decide]; omega)) (by omega) (lv_sub hl [0, 1, 2] rfl) hP hD hS
        · have q705 : 0 ≤ y701.toInt := z_nlt rfl (by decide) hc
          refine lv_iconst (v := 1) hx hb dX12_lotFollower_25 (by decide) ?_
          refine lv_goto (tgt := 30) hx hb dX12_lotFollower_26 (by decide) ?_
          refine lv_iadd hx hb dX12_lotFollower_30 ?_
          refine lv_topi (fun y706 ey706 => ?_)
          have hy706 : y706.toInt = v2.toInt + 1 := by rw [ey706]; exact z_add rfl (by decide) (by omega) (by omega)
          refine lv_istore_n (lv' := [(1, .int y706), (2, .int v1), (0, .ref ha0)]) hx hb dX12_lotFollower_31 rfl hl (by decide) rfl (fun ls hl => ?_)
          obtain ⟨y707, ey707⟩ : ∃ y : Int32, y = v1 + 1 := ⟨_, rfl⟩
          refine lv_iinc (v := y707) (lv' := [(2, .int y707), (1, .int y706), (0, .ref ha0)]) hx hb dX12_lotFollower_32 hl (k := 1) rfl (by rw [ey707]; rfl) (by decide) rfl (fun ls hl => ?_)
          have hy707 : y707.toInt = v1.toInt + 1 := by rw [ey707]; exact z_add rfl (by decide) (by omega) (by omega)
          have hcn : zcn (fun q9 => FX12_comesWith fa0_1 fa0_2 fa0_4 fa0_5 fa0_6 fa0_8 ia0_10 ia0_12 ia0_13 ia0_27 ia0_28 q9 ia0_14) y707.toInt.toNat = zcn (fun q9 => FX12_comesWith fa0_1 fa0_2 fa0_4 fa0_5 fa0_6 fa0_8 ia0_10 ia0_12 ia0_13 ia0_27 ia0_28 q9 ia0_14) v1.toInt.toNat + (y706.toInt - v2.toInt) := by first | (rw [z_cnP (G := (fun q9 => FX12_comesWith fa0_1 fa0_2 fa0_4 fa0_5 fa0_6 fa0_8 ia0_10 ia0_12 ia0_13 ia0_27 ia0_28 q9 ia0_14)) (p := v1) (y := y707) ey701 (by omega) (by omega) (by omega)]; omega) | (rw [z_cnN (G := (fun q9 => FX12_comesWith fa0_1 fa0_2 fa0_4 fa0_5 fa0_6 fa0_8 ia0_10 ia0_12 ia0_13 ia0_27 ia0_28 q9 ia0_14)) (p := v1) (y := y707) ey701 (by omega) (by omega) (by omega)]; omega)
          refine lv_goto (tgt := 4) hx hb dX12_lotFollower_35 (by decide) ?_
          exact ih585 y707 y706 _ _ ls (by first | decide | omega) (by first | decide | omega) (by first | decide | omega) (by first | decide | omega) (by omega) (by first | omega | decide | (rw [show (0 : Int32).toInt = 0 from by decide]; omega)) (by first | omega | decide | (rw [show (0 : Int32).toInt = 0 from by decide]; omega)) (by omega) (lv_sub hl [0, 1, 2] rfl) hP hD hS
  exact hL583 ((5 - (0 : Int32).toInt).toNat + 1) 0 0 _ _ ls (by decide) (by decide) (by decide) (by decide) (by have hz : zcn (fun q9 => FX12_comesWith fa0_1 fa0_2 fa0_4 fa0_5 fa0_6 fa0_8 ia0_10 ia0_12 ia0_13 ia0_27 ia0_28 q9 ia0_14) (0 : Int32).toInt.toNat = 0 := (by rw [show (0 : Int32).toInt = 0 from by decide]; try rfl); have h0 : (0 : Int32).toInt = 0 := (by decide); omega) (by first | omega | decide | (rw [show (0 : Int32).toInt = 0 from by decide]; omega)) (by first | omega | decide | (rw [show (0 : Int32).toInt = 0 from by decide]; omega)) (by omega) hl hP hD hS
