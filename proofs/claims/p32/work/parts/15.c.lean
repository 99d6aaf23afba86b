set_option maxRecDepth 20000 in
theorem edX12_isSure_0 : decode cX12_isSure 0 = .ok (.iconst 0, 1) ∧ decode cX12_isSure 1 = .ok (.istore_n 1, 1) ∧ decode cX12_isSure 2 = .ok (.iload_n 1, 1) ∧ decode cX12_isSure 3 = .ok (.aload_n 0, 1) ∧ decode cX12_isSure 4 = .ok (.getfield 79, 3) ∧ decode cX12_isSure 7 = .ok (.if_icmp .ge 38, 3) ∧ decode cX12_isSure 10 = .ok (.aload_n 0, 1) ∧ decode cX12_isSure 11 = .ok (.iload_n 1, 1) ∧ decode cX12_isSure 12 = .ok (.invokevirtual 220, 3) ∧ decode cX12_isSure 15 = .ok (.iload_n 1, 1) ∧ decode cX12_isSure 16 = .ok (.iconst 1, 1) ∧ decode cX12_isSure 17 = .ok (.iadd, 1) := by decide +kernel
theorem dX12_isSure_0 : decode cX12_isSure 0 = .ok (.iconst 0, 1) := edX12_isSure_0.1
theorem dX12_isSure_1 : decode cX12_isSure 1 = .ok (.istore_n 1, 1) := edX12_isSure_0.2.1
theorem dX12_isSure_2 : decode cX12_isSure 2 = .ok (.iload_n 1, 1) := edX12_isSure_0.2.2.1
theorem dX12_isSure_3 : decode cX12_isSure 3 = .ok (.aload_n 0, 1) := edX12_isSure_0.2.2.2.1
theorem dX12_isSure_4 : decode cX12_isSure 4 = .ok (.getfield 79, 3) := edX12_isSure_0.2.2.2.2.1
theorem dX12_isSure_7 : decode cX12_isSure 7 = .ok (.if_icmp .ge 38, 3) := edX12_isSure_0.2.2.2.2.2.1
theorem dX12_isSure_10 : decode cX12_isSure 10 = .ok (.aload_n 0, 1) := edX12_isSure_0.2.2.2.2.2.2.1
theorem dX12_isSure_11 : decode cX12_isSure 11 = .ok (.iload_n 1, 1) := edX12_isSure_0.2.2.2.2.2.2.2.1
theorem dX12_isSure_12 : decode cX12_isSure 12 = .ok (.invokevirtual 220, 3) := edX12_isSure_0.2.2.2.2.2.2.2.2.1
theorem dX12_isSure_15 : decode cX12_isSure 15 = .ok (.iload_n 1, 1) := edX12_isSure_0.2.2.2.2.2.2.2.2.2.1
theorem dX12_isSure_16 : decode cX12_isSure 16 = .ok (.iconst 1, 1) := edX12_isSure_0.2.2.2.2.2.2.2.2.2.2.1
theorem dX12_isSure_17 : decode cX12_isSure 17 = .ok (.iadd, 1) := edX12_isSure_0.2.2.2.2.2.2.2.2.2.2.2
set_option maxRecDepth 20000 in
theorem edX12_isSure_18 : decode cX12_isSure 18 = .ok (.aload_n 0, 1) ∧ decode cX12_isSure 19 = .ok (.getfield 79, 3) ∧ decode cX12_isSure 22 = .ok (.if_icmp .ge 11, 3) ∧ decode cX12_isSure 25 = .ok (.iconst 1, 1) ∧ decode cX12_isSure 26 = .ok (.iload_n 1, 1) ∧ decode cX12_isSure 27 = .ok (.iconst 1, 1) ∧ decode cX12_isSure 28 = .ok (.iadd, 1) ∧ decode cX12_isSure 29 = .ok (.ishl, 1) ∧ decode cX12_isSure 30 = .ok (.goto 4, 3) ∧ decode cX12_isSure 33 = .ok (.iconst 0, 1) ∧ decode cX12_isSure 34 = .ok (.if_icmp .eq 5, 3) ∧ decode cX12_isSure 37 = .ok (.iconst 0, 1) := by decide +kernel
theorem dX12_isSure_18 : decode cX12_isSure 18 = .ok (.aload_n 0, 1) := edX12_isSure_18.1
theorem dX12_isSure_19 : decode cX12_isSure 19 = .ok (.getfield 79, 3) := edX12_isSure_18.2.1
theorem dX12_isSure_22 : decode cX12_isSure 22 = .ok (.if_icmp .ge 11, 3) := edX12_isSure_18.2.2.1
theorem dX12_isSure_25 : decode cX12_isSure 25 = .ok (.iconst 1, 1) := edX12_isSure_18.2.2.2.1
theorem dX12_isSure_26 : decode cX12_isSure 26 = .ok (.iload_n 1, 1) := edX12_isSure_18.2.2.2.2.1
theorem dX12_isSure_27 : decode cX12_isSure 27 = .ok (.iconst 1, 1) := edX12_isSure_18.2.2.2.2.2.1
theorem dX12_isSure_28 : decode cX12_isSure 28 = .ok (.iadd, 1) := edX12_isSure_18.2.2.2.2.2.2.1
theorem dX12_isSure_29 : decode cX12_isSure 29 = .ok (.ishl, 1) := edX12_isSure_18.2.2.2.2.2.2.2.1
theorem dX12_isSure_30 : decode cX12_isSure 30 = .ok (.goto 4, 3) := edX12_isSure_18.2.2.2.2.2.2.2.2.1
theorem dX12_isSure_33 : decode cX12_isSure 33 = .ok (.iconst 0, 1) := edX12_isSure_18.2.2.2.2.2.2.2.2.2.1
theorem dX12_isSure_34 : decode cX12_isSure 34 = .ok (.if_icmp .eq 5, 3) := edX12_isSure_18.2.2.2.2.2.2.2.2.2.2.1
theorem dX12_isSure_37 : decode cX12_isSure 37 = .ok (.iconst 0, 1) := edX12_isSure_18.2.2.2.2.2.2.2.2.2.2.2
set_option maxRecDepth 20000 in
theorem edX12_isSure_38 : decode cX12_isSure 38 = .ok (.ireturn, 1) ∧ decode cX12_isSure 39 = .ok (.iinc 1 1, 3) ∧ decode cX12_isSure 42 = .ok (.goto (-40), 3) ∧ decode cX12_isSure 45 = .ok (.iconst 1, 1) ∧ decode cX12_isSure 46 = .ok (.ireturn, 1) := by decide +kernel
theorem dX12_isSure_38 : decode cX12_isSure 38 = .ok (.ireturn, 1) := edX12_isSure_38.1
theorem dX12_isSure_39 : decode cX12_isSure 39 = .ok (.iinc 1 1, 3) := edX12_isSure_38.2.1
theorem dX12_isSure_42 : decode cX12_isSure 42 = .ok (.goto (-40), 3) := edX12_isSure_38.2.2.1
theorem dX12_isSure_45 : decode cX12_isSure 45 = .ok (.iconst 1, 1) := edX12_isSure_38.2.2.2.1
theorem dX12_isSure_46 : decode cX12_isSure 46 = .ok (.ireturn, 1) := edX12_isSure_38.2.2.2.2
noncomputable def voX12_isSure : List Cond := [.fieldLink RX12 79 "EachOnHisCueModel" "lines" "I", .methodLink RX12 220 yX12_followOf, .instanceMethod yX12_followOf, .selects RX12 yX12_followOf yX12_followOf, .initialized RX12]
noncomputable def vsX12_isSure : List Cond := .code yX12_isSure cX12_isSure 2 (some .boolean) :: (voX12_isSure ++ (vsX12_followOf ++ (wsX120)))
theorem zgX12_isSure : zGd vsX12_isSure := z_gdC rfl (z_gdA (z_gdO (by decide +kernel) : zGd voX12_isSure) (z_gdA zgX12_followOf (zgX12)))
theorem in_X12_isSure_X12 : ∀ w ∈ wsX120, w ∈ vsX12_isSure := fun _ h => List.mem_cons_of_mem _ (List.mem_append_right _ (List.mem_append_right _ (h)))
theorem gw_X12_isSure_X12_followOf : GoodIn vsX12_isSure vsX12_followOf := z_gdI (fun _ h => List.mem_cons_of_mem _ (List.mem_append_right _ (List.mem_append_left _ h))) zgX12_followOf
set_option maxRecDepth 20000 in
theorem gv_X12_isSure_X12_followOf_220 : GoodIn vsX12_isSure (wsV RX12 220 RX12 yX12_followOf vsX12_followOf) := goodIn_app (goodIn_of _ (by decide +kernel)) gw_X12_isSure_X12_followOf
set_option maxHeartbeats 4000000 in
set_option maxRecDepth 100000 in
theorem rX12_isSure (l : Launch) (dC : Nat → ClassId) (dI : Nat → Nat → Nat) (cI cQ : ClassId) (ha0 ha0_1 ha0_2 ha0_4 ha0_5 ha0_6 ha0_8 ha0_0 ha0_3 ha0_7 ha0_16 ha0_17 ha0_18 ha0_19 ha0_23 ha0_29 ha0_33 ha0_34 ha0_35 : Nat) (fa0_1 : Nat → Int32) (fa0_2 : Nat → Int32) (fa0_4 : Nat → Int32) (hBfa0_4 : ∀ k, 0 ≤ (fa0_4 k).toInt ∧ (fa0_4 k).toInt ≤ 4) (fa0_5 : Nat → Int32) (hBfa0_5 : ∀ k, 0 ≤ (fa0_5 k).toInt ∧ (fa0_5 k).toInt ≤ 4) (fa0_6 : Nat → Int32) (hBfa0_6 : ∀ k, 0 ≤ (fa0_6 k).toInt ∧ (fa0_6 k).toInt ≤ 9) (fa0_8 : Nat → Int32) (ia0_9 : Int32) (hia0_9l : 0 ≤ ia0_9.toInt) (hia0_9h : ia0_9.toInt ≤ 5) (ia0_10 : Int32) (hia0_10l : 0 ≤ ia0_10.toInt) (hia0_10h : ia0_10.toInt ≤ 12) (ia0_11 : Int32) (ia0_12 : Int32) (ia0_13 : Int32) (ia0_14 : Int32) (hia0_14l : (-9) ≤ ia0_14.toInt) (hia0_14h : ia0_14.toInt ≤ 11) (ia0_15 : Int32) (ia0_20 : Int32) (hia0_20l : 0 ≤ ia0_20.toInt) (hia0_20h : ia0_20.toInt ≤ 80) (ia0_21 : Int32) (hia0_21l : 0 ≤ ia0_21.toInt) (hia0_21h : ia0_21.toInt ≤ 80) (ia0_22 : Int32) (hia0_22l : 0 ≤ ia0_22.toInt) (hia0_22h : ia0_22.toInt ≤ 40) (ia0_24 : Int32) (hia0_24l : 0 ≤ ia0_24.toInt) (hia0_24h : ia0_24.toInt ≤ 1) (ia0_25 : Int32) (hia0_25l : 0 ≤ ia0_25.toInt) (hia0_25h : ia0_25.toInt ≤ 1) (ia0_26 : Int32) (hia0_26l : 0 ≤ ia0_26.toInt) (hia0_26h : ia0_26.toInt ≤ 300) (ia0_27 : Int32) (hia0_27l : (-9) ≤ ia0_27.toInt) (hia0_27h : ia0_27.toInt ≤ 11) (ia0_28 : Int32) (ia0_30 : Int32) (hia0_30l : 0 ≤ ia0_30.toInt) (hia0_30h : ia0_30.toInt ≤ 60) (ia0_31 : Int32) (ia0_32 : Int32) (hia0_32l : 0 ≤ ia0_32.toInt) (hia0_32h : ia0_32.toInt ≤ 1) (ia0_36 : Int32) (hia0_36l : 0 ≤ ia0_36.toInt) (hia0_36h : ia0_36.toInt ≤ 12) (ia0_37 : Int32) : Met l yX12_isSure vsX12_isSure ({ frames := 4, cells := 0, slots := 0, locals := 94 }) (va_Pc [.ref ha0] (zRB dC dI cI cQ [(ha0_1, .inl (cI, 5, .inl fa0_1)), (ha0_2, .inl (cI, 5, .inl fa0_2)), (ha0_4, .inl (cI, 12, .inl fa0_4)), (ha0_5, .inl (cI, 12, .inl fa0_5)), (ha0_6, .inl (cI, 12, .inl fa0_6)), (ha0_8, .inl (cI, 60, .inl fa0_8)), (ha0, .inr (12, [.ref ha0_0, .ref ha0_1, .ref ha0_2, .ref ha0_3, .ref ha0_4, .ref ha0_5, .ref ha0_6, .ref ha0_7, .ref ha0_8, .int ia0_9, .int ia0_10, .int ia0_11, .int ia0_12, .int ia0_13, .int ia0_14, .int ia0_15, .ref ha0_16, .ref ha0_17, .ref ha0_18, .ref ha0_19, .int ia0_20, .int ia0_21, .int ia0_22, .ref ha0_23, .int ia0_24, .int ia0_25, .int ia0_26, .int ia0_27, .int ia0_28, .ref ha0_29, .int ia0_30, .int ia0_31, .int ia0_32, .ref ha0_33, .ref ha0_34, .ref ha0_35, .int ia0_36, .int ia0_37]))])) (vp_Si (fun r => 0 ≤ r.toInt ∧ r.toInt ≤ 1)) 0 0 (fun _ => False) := by
  refine Met.ofW (cc := cX12_isSure) (maxL := 2) (ret := (some .boolean)) (by decide) rfl ?_
  intro p e s m args below meth c s₁ B hml hv
  obtain ⟨rfl, hP, hZ⟩ := hv
  obtain ⟨hK, hAO, hN⟩ := id hZ
  have hx := B.exec
  have hb := B.bytes
  have hr := B.returns
  have hts := atoms_spec (ws := vsX12_isSure) B.pre
  have hown : s.vm.findClass RX12 = some m.cls := findClass_of_methodNamed B.named
  have hlocks := B.notSynchronized
  have hl := lv_entry ([.ref ha0]) (n := 2) (Nat.le_of_ble_eq_true rfl)
  rw [lg_entry_eq]
  generalize (lg_sl ([.ref ha0]) ++ List.replicate (2 - (lg_sl ([.ref ha0])).length) Slot.unset).toArray = ls at hl ⊢
  have hl : lv_has ls 2 [(0, .ref ha0)] := hl
  refine lv_iconst (v := 0) hx hb dX12_isSure_0 (by decide) ?_
  refine lv_istore_n (lv' := [(1, .int 0), (0, .ref ha0)]) hx hb dX12_isSure_1 rfl hl (by decide) rfl (fun ls hl => ?_)
  have hL114 : ∀ (n : Nat) (v1 : Int32) (ls : Array Slot), 0 ≤ v1.toInt → v1.toInt ≤ 12 → (12 - v1.toInt).toNat < n → lv_has ls 2 [(1, .int v1), (0, .ref ha0)] → W p l e (headSpec vsX12_isSure ({ frames := 4, cells := 0, slots := 0, locals := 94 })).room s m ([.ref ha0] : List Value).toArray below meth c s.heap [] 0 0 (MQ below (vp_Si (fun r => 0 ≤ r.toInt ∧ r.toInt ≤ 1)) ([.ref ha0] : List Value).toArray s 0 0 (fun _ => False)) (F0 m 2 ls []) := by
    intro n
    induction n with
    | zero =>
      intro v1 ls hi115_0 hi115_1 hi115_m hl
      exact absurd hi115_m (Nat.not_lt_zero _)
    | succ n ih =>
      intro v1 ls hi115_0 hi115_1 hi115_m hl
      have ih116 := ih
      refine lv_iload_n hx hb dX12_isSure_2 rfl (lv_at hl 0 rfl) ?_
      refine lv_aload_n hx hb dX12_isSure_3 rfl (lv_at hl 1 rfl) ?_
      refine va_get (D := (dC, dI)) (ci := 12) (v := .int ia0_10) (C := RX12) (T := TX12) (N := 38) hx hb hts in_X12_isSure_X12 hown hK hP 6 rfl rfl 10 (by decide) (hts (.fieldLink RX12 79 "EachOnHisCueModel" "lines" "I") (by decide +kernel)) (fun _ h9 => h9) rfl dX12_isSure_4 ?_
      refine lv_icmp_ge (tgt := 45) hx hb dX12_isSure_7 (by decide) (fun hc => ?_) (fun hc => ?_)
      · have q117 : ia0_10.toInt ≤ v1.toInt := z_le rfl rfl hc
        refine lv_iconst (v := 1) hx hb dX12_isSure_45 (by decide) ?_
        exact W.zret (v := 1) hx hb hr (rfl) (fun t ht hW => ⟨1, rfl, ⟨by first | decide | omega, by first | decide | omega⟩, ht⟩) (fun _ h => absurd h List.not_mem_nil) dX12_isSure_46
      · have q118 : v1.toInt < ia0_10.toInt := z_nle rfl rfl hc
        refine lv_aload_n hx hb dX12_isSure_10 rfl (lv_at hl 1 rfl) ?_
        refine lv_iload_n hx hb dX12_isSure_11 rfl (lv_at hl 0 rfl) ?_
        refine z_rdi (va_runV (As := [.int v1]) (rest := []) ⟨hx, hb, hml, hown, hts⟩ (rX12_followOf l dC dI cI cQ ha0 ha0_1 ha0_2 ha0_4 ha0_5 ha0_6 ha0_8 ha0_0 ha0_3 ha0_7 ha0_16 ha0_17 ha0_18 ha0_19 ha0_23 ha0_29 ha0_33 ha0_34 ha0_35 fa0_1 fa0_2 fa0_4 hBfa0_4 fa0_5 hBfa0_5 fa0_6 hBfa0_6 fa0_8 ia0_9 hia0_9l hia0_9h ia0_10 hia0_10l hia0_10h ia0_11 ia0_12 ia0_13 ia0_14 hia0_14l hia0_14h ia0_15 ia0_20 hia0_20l hia0_20h ia0_21 hia0_21l hia0_21h ia0_22 hia0_22l hia0_22h ia0_24 hia0_24l hia0_24h ia0_25 hia0_25l hia0_25h ia0_26 hia0_26l hia0_26h ia0_27 hia0_27l hia0_27h ia0_28 ia0_30 hia0_30l hia0_30h ia0_31 ia0_32 hia0_32l hia0_32h ia0_36 hia0_36l hia0_36h ia0_37 v1 (by first | decide | omega) (by first | decide | omega)) (cwV 1 hts gv_X12_isSure_X12_followOf_220 rfl rfl rfl (by decide +kernel) ⟨Nat.le_of_ble_eq_true rfl, Nat.le_of_ble_eq_true rfl⟩) ⟨z_blindR, va_recv hK hP (ci := 12) (q0 := 6) rfl rfl, z_preR hZ hP [0, 1, 2, 3, 4, 5, 6] rfl⟩ rfl rfl hl.1 rfl (lv_room (Nat.le_of_ble_eq_true rfl)) dX12_isSure_12 ⟨Nat.le_of_ble_eq_true rfl, Nat.le_of_ble_eq_true rfl⟩) (fun y119 hy119 => ?_)
        obtain ⟨hy119_0, hy119_1, hy119_2⟩ := hy119
        refine lv_iload_n hx hb dX12_isSure_15 rfl (lv_at hl 0 rfl) ?_
        refine lv_iconst (v := 1) hx hb dX12_isSure_16 (by decide) ?_
        refine lv_iadd hx hb dX12_isSure_17 ?_
        refine lv_topi (fun y120 ey120 => ?_)
        have hy120 : y120.toInt = v1.toInt + 1 := by rw [ey120]; exact z_add rfl (by decide) (by omega) (by omega)
        refine lv_aload_n hx hb dX12_isSure_18 rfl (lv_at hl 1 rfl) ?_
        refine va_get (D := (dC, dI)) (ci := 12) (v := .int ia0_10) (C := RX12) (T := TX12) (N := 38) hx hb hts in_X12_isSure_X12 hown hK hP 6 rfl rfl 10 (by decide) (hts (.fieldLink RX12 79 "EachOnHisCueModel" "lines" "I") (by decide +kernel)) (fun _ h9 => h9) rfl dX12_isSure_19 ?_
        refine lv_icmp_ge (tgt := 33) hx hb dX12_isSure_22 (by decide) (fun hc => ?_) (fun hc => ?_)
        · have q121 : ia0_10.toInt ≤ y120.toInt := z_le rfl rfl hc
          refine lv_iconst (v := 0) hx hb dX12_isSure_33 (by decide) ?_
          refine lv_icmp_eq (tgt := 39) hx hb dX12_isSure_34 (by decide) (fun hc => ?_) (fun hc => ?_)
          · have q122 : y119.toInt = 0 := z_eq rfl (by decide) hc
            obtain ⟨y123, ey123⟩ : ∃ y : Int32, y = v1 + 1 := ⟨_, rfl⟩
            refine lv_iinc (v := y123) (lv' := [(1, .int y123), (0, .ref ha0)]) hx hb dX12_isSure_39 hl (k := 0) rfl (by rw [ey123]; rfl) (by decide) rfl (fun ls hl => ?_)
            have hy123 : y123.toInt = v1.toInt + 1 := by rw [ey123]; exact z_add rfl (by decide) (by omega) (by omega)
            refine lv_goto (tgt := 2) hx hb dX12_isSure_42 (by decide) ?_
            exact ih116 y123 ls (by first | decide | omega) (by first | decide | omega) (by omega) (lv_sub hl [0, 1] rfl)
          · have q124 : y119.toInt ≠ 0 := z_ne rfl (by decide) hc
            refine lv_iconst (v := 0) hx hb dX12_isSure_37 (by decide) ?_
            exact W.zret (v := 0) hx hb hr (rfl) (fun t ht hW => ⟨0, rfl, ⟨by first | decide | omega, by first | decide | omega⟩, ht⟩) (fun _ h => absurd h List.not_mem_nil) dX12_isSure_38
        · have q125 : y120.toInt < ia0_10.toInt := z_nle rfl rfl hc
          refine lv_iconst (v := 1) hx hb dX12_isSure_25 (by decide) ?_
          refine lv_iload_n hx hb dX12_isSure_26 rfl (lv_at hl 0 rfl) ?_
          refine lv_iconst (v := 1) hx hb dX12_isSure_27 (by decide) ?_
          refine lv_iadd hx hb dX12_isSure_28 ?_
          refine lv_topi (fun y126 ey126 => ?_)
          obtain rfl : y120 = y126 := ey120.trans ey126.symm
          refine lv_ishl hx hb dX12_isSure_29 ?_
          refine lv_topi (fun y127 ey127 => ?_)
          refine lv_goto (tgt := 34) hx hb dX12_isSure_30 (by decide) ?_
          refine lv_icmp_eq (tgt := 39) hx hb dX12_isSure_34 (by decide) (fun hc => ?_) (fun hc => ?_)
          · have q128 : y119.toInt = y127.toInt := z_eq rfl rfl hc
            obtain ⟨y129, ey129⟩ : ∃ y : Int32, y = v1 + 1 := ⟨_, rfl⟩
            refine lv_iinc (v := y129) (lv' := [(1, .int y129), (0, .ref ha0)]) hx hb dX12_isSure_39 hl (k := 0) rfl (by rw [ey129]; rfl) (by decide) rfl (fun ls hl => ?_)
            have hy129 : y129.toInt = v1.toInt + 1 := by rw [ey129]; exact z_add rfl (by decide) (by omega) (by omega)
            refine lv_goto (tgt := 2) hx hb dX12_isSure_42 (by decide) ?_
            exact ih116 y129 ls (by first | decide | omega) (by first | decide | omega) (by omega) (lv_sub hl [0, 1] rfl)
          · have q130 : y119.toInt ≠ y127.toInt := z_ne rfl rfl hc
            refine lv_iconst (v := 0) hx hb dX12_isSure_37 (by decide) ?_
            exact W.zret (v := 0) hx hb hr (rfl) (fun t ht hW => ⟨0, rfl, ⟨by first | decide | omega, by first | decide | omega⟩, ht⟩) (fun _ h => absurd h List.not_mem_nil) dX12_isSure_38
  exact hL114 ((12 - (0 : Int32).toInt).toNat + 1) 0 ls (by decide) (by decide) (by omega) hl
set_option maxRecDepth 20000 in
theorem edX12_isAlone_0 : decode cX12_isAlone 0 = .ok (.iconst 0, 1) ∧ decode cX12_isAlone 1 = .ok (.istore_n 3, 1) ∧ decode cX12_isAlone 2 = .ok (.iload_n 3, 1) ∧ decode cX12_isAlone 3 = .ok (.aload_n 0, 1) ∧ decode cX12_isAlone 4 = .ok (.getfield 79, 3) ∧ decode cX12_isAlone 7 = .ok (.if_icmp .ge 28, 3) ∧ decode cX12_isAlone 10 = .ok (.iload_n 3, 1) ∧ decode cX12_isAlone 11 = .ok (.iload_n 1, 1) ∧ decode cX12_isAlone 12 = .ok (.iconst 1, 1) ∧ decode cX12_isAlone 13 = .ok (.isub, 1) ∧ decode cX12_isAlone 14 = .ok (.if_icmp .eq 15, 3) ∧ decode cX12_isAlone 17 = .ok (.aload_n 0, 1) := by decide +kernel
theorem dX12_isAlone_0 : decode cX12_isAlone 0 = .ok (.iconst 0, 1) := edX12_isAlone_0.1
theorem dX12_isAlone_1 : decode cX12_isAlone 1 = .ok (.istore_n 3, 1) := edX12_isAlone_0.2.1
theorem dX12_isAlone_2 : decode cX12_isAlone 2 = .ok (.iload_n 3, 1) := edX12_isAlone_0.2.2.1
theorem dX12_isAlone_3 : decode cX12_isAlone 3 = .ok (.aload_n 0, 1) := edX12_isAlone_0.2.2.2.1
theorem dX12_isAlone_4 : decode cX12_isAlone 4 = .ok (.getfield 79, 3) := edX12_isAlone_0.2.2.2.2.1
theorem dX12_isAlone_7 : decode cX12_isAlone 7 = .ok (.if_icmp .ge 28, 3) := edX12_isAlone_0.2.2.2.2.2.1
theorem dX12_isAlone_10 : decode cX12_isAlone 10 = .ok (.iload_n 3, 1) := edX12_isAlone_0.2.2.2.2.2.2.1
theorem dX12_isAlone_11 : decode cX12_isAlone 11 = .ok (.iload_n 1, 1) := edX12_isAlone_0.2.2.2.2.2.2.2.1
theorem dX12_isAlone_12 : decode cX12_isAlone 12 = .ok (.iconst 1, 1) := edX12_isAlone_0.2.2.2.2.2.2.2.2.1
theorem dX12_isAlone_13 : decode cX12_isAlone 13 = .ok (.isub, 1) := edX12_isAlone_0.2.2.2.2.2.2.2.2.2.1
theorem dX12_isAlone_14 : decode cX12_isAlone 14 = .ok (.if_icmp .eq 15, 3) := edX12_isAlone_0.2.2.2.2.2.2.2.2.2.2.1
theorem dX12_isAlone_17 : decode cX12_isAlone 17 = .ok (.aload_n 0, 1) := edX12_isAlone_0.2.2.2.2.2.2.2.2.2.2.2
set_option maxRecDepth 20000 in
theorem edX12_isAlone_18 : decode cX12_isAlone 18 = .ok (.iload_n 3, 1) ∧ decode cX12_isAlone 19 = .ok (.iload_n 1, 1) ∧ decode cX12_isAlone 20 = .ok (.iload_n 2, 1) ∧ decode cX12_isAlone 21 = .ok (.invokevirtual 185, 3) ∧ decode cX12_isAlone 24 = .ok (.ifCond .eq 5, 3) ∧ decode cX12_isAlone 27 = .ok (.iconst 0, 1) ∧ decode cX12_isAlone 28 = .ok (.ireturn, 1) ∧ decode cX12_isAlone 29 = .ok (.iinc 3 1, 3) ∧ decode cX12_isAlone 32 = .ok (.goto (-30), 3) ∧ decode cX12_isAlone 35 = .ok (.iconst 1, 1) ∧ decode cX12_isAlone 36 = .ok (.ireturn, 1) := by decide +kernel
theorem dX12_isAlone_18 : decode cX12_isAlone 18 = .ok (.iload_n 3, 1) := edX12_isAlone_18.1
theorem dX12_isAlone_19 : decode cX12_isAlone 19 = .ok (.iload_n 1, 1) := edX12_isAlone_18.2.1
theorem dX12_isAlone_20 : decode cX12_isAlone 20 = .ok (.iload_n 2, 1) := edX12_isAlone_18.2.2.1
theorem dX12_isAlone_21 : decode cX12_isAlone 21 = .ok (.invokevirtual 185, 3) := edX12_isAlone_18.2.2.2.1
theorem dX12_isAlone_24 : decode cX12_isAlone 24 = .ok (.ifCond .eq 5, 3) := edX12_isAlone_18.2.2.2.2.1
theorem dX12_isAlone_27 : decode cX12_isAlone 27 = .ok (.iconst 0, 1) := edX12_isAlone_18.2.2.2.2.2.1
theorem dX12_isAlone_28 : decode cX12_isAlone 28 = .ok (.ireturn, 1) := edX12_isAlone_18.2.2.2.2.2.2.1
theorem dX12_isAlone_29 : decode cX12_isAlone 29 = .ok (.iinc 3 1, 3) := edX12_isAlone_18.2.2.2.2.2.2.2.1
theorem dX12_isAlone_32 : decode cX12_isAlone 32 = .ok (.goto (-30), 3) := edX12_isAlone_18.2.2.2.2.2.2.2.2.1
theorem dX12_isAlone_35 : decode cX12_isAlone 35 = .ok (.iconst 1, 1) := edX12_isAlone_18.2.2.2.2.2.2.2.2.2.1
theorem dX12_isAlone_36 : decode cX12_isAlone 36 = .ok (.ireturn, 1) := edX12_isAlone_18.2.2.2.2.2.2.2.2.2.2
noncomputable def voX12_isAlone : List Cond := [.fieldLink RX12 79 "EachOnHisCueModel" "lines" "I", .methodLink RX12 185 yX12_doesEnd, .instanceMethod yX12_doesEnd, .selects RX12 yX12_doesEnd yX12_doesEnd, .initialized RX12]
noncomputable def vsX12_isAlone : List Cond := .code yX12_isAlone cX12_isAlone 4 (some .boolean) :: (voX12_isAlone ++ (vsX12_doesEnd ++ (wsX120)))
theorem zgX12_isAlone : zGd vsX12_isAlone := z_gdC rfl (z_gdA (z_gdO (by decide +kernel) : zGd voX12_isAlone) (z_gdA zgX12_doesEnd (zgX12)))
theorem in_X12_isAlone_X12 : ∀ w ∈ wsX120, w ∈ vsX12_isAlone := fun _ h => List.mem_cons_of_mem _ (List.mem_append_right _ (List.mem_append_right _ (h)))
theorem gw_X12_isAlone_X12_doesEnd : GoodIn vsX12_isAlone vsX12_doesEnd := z_gdI (fun _ h => List.mem_cons_of_mem _ (List.mem_append_right _ (List.mem_append_left _ h))) zgX12_doesEnd
set_option maxRecDepth 20000 in
theorem gv_X12_isAlone_X12_doesEnd_185 : GoodIn vsX12_isAlone (wsV RX12 185 RX12 yX12_doesEnd vsX12_doesEnd) := goodIn_app (goodIn_of _ (by decide +kernel)) gw_X12_isAlone_X12_doesEnd
set_option maxHeartbeats 4000000 in
set_option maxRecDepth 100000 in
theorem rX12_isAlone (l : Launch) (dC : Nat → ClassId) (dI : Nat → Nat → Nat) (cI cQ : ClassId) (ha0 ha0_5 ha0_8 ha0_0 ha0_1 ha0_2 ha0_3 ha0_4 ha0_6 ha0_7 ha0_16 ha0_17 ha0_18 ha0_19 ha0_23 ha0_29 ha0_33 ha0_34 ha0_35 : Nat) (fa0_5 : Nat → Int32) (hBfa0_5 : ∀ k, 0 ≤ (fa0_5 k).toInt ∧ (fa0_5 k).toInt ≤ 4) (fa0_8 : Nat → Int32) (ia0_9 : Int32) (hia0_9l : 0 ≤ ia0_9.toInt) (hia0_9h : ia0_9.toInt ≤ 5) (ia0_10 : Int32) (hia0_10l : 0 ≤ ia0_10.toInt) (hia0_10h : ia0_10.toInt ≤ 12) (ia0_11 : Int32) (ia0_12 : Int32) (ia0_13 : Int32) (ia0_14 : Int32) (hia0_14l : (-9) ≤ ia0_14.toInt) (hia0_14h : ia0_14.toInt ≤ 11) (ia0_15 : Int32) (ia0_20 : Int32) (hia0_20l : 0 ≤ ia0_20.toInt) (hia0_20h : ia0_20.toInt ≤ 80) (ia0_21 : Int32) (hia0_21l : 0 ≤ ia0_21.toInt) (hia0_21h : ia0_21.toInt ≤ 80) (ia0_22 : Int32) (hia0_22l : 0 ≤ ia0_22.toInt) (hia0_22h : ia0_22.toInt ≤ 40) (ia0_24 : Int32) (hia0_24l : 0 ≤ ia0_24.toInt) (hia0_24h : ia0_24.toInt ≤ 1) (ia0_25 : Int32) (hia0_25l : 0 ≤ ia0_25.toInt) (hia0_25h : ia0_25.toInt ≤ 1) (ia0_26 : Int32) (hia0_26l : 0 ≤ ia0_26.toInt) (hia0_26h : ia0_26.toInt ≤ 300) (ia0_27 : Int32) (hia0_27l : (-9) ≤ ia0_27.toInt) (hia0_27h : ia0_27.toInt ≤ 11) (ia0_28 : Int32) (ia0_30 : Int32) (hia0_30l : 0 ≤ ia0_30.toInt) (hia0_30h : ia0_30.toInt ≤ 60) (ia0_31 : Int32) (ia0_32 : Int32) (hia0_32l : 0 ≤ ia0_32.toInt) (hia0_32h : ia0_32.toInt ≤ 1) (ia0_36 : Int32) (hia0_36l : 0 ≤ ia0_36.toInt) (hia0_36h : ia0_36.toInt ≤ 12) (ia0_37 : Int32) (p1 : Int32) (hp1l : 1 ≤ p1.toInt) (hp1h : p1.toInt ≤ 11) (p2 : Int32) : Met l yX12_isAlone vsX12_isAlone ({ frames := 2, cells := 0, slots := 0, locals := 47 }) (va_Pc [.ref ha0, .int p1, .int p2] (zRB dC dI cI cQ [(ha0_5, .inl (cI, 12, .inl fa0_5)), (ha0_8, .inl (cI, 60, .inl fa0_8)), (ha0, .inr (12, [.ref ha0_0, .ref ha0_1, .ref ha0_2, .ref ha0_3, .ref ha0_4, .ref ha0_5, .ref ha0_6, .ref ha0_7, .ref ha0_8, .int ia0_9, .int ia0_10, .int ia0_11, .int ia0_12, .int ia0_13, .int ia0_14, .int ia0_15, .ref ha0_16, .ref ha0_17, .ref ha0_18, .ref ha0_19, .int ia0_20, .int ia0_21, .int ia0_22, .ref ha0_23, .int ia0_24, .int ia0_25, .int ia0_26, .int ia0_27, .int ia0_28, .ref ha0_29, .int ia0_30, .int ia0_31, .int ia0_32, .ref ha0_33, .ref ha0_34, .ref ha0_35, .int ia0_36, .int ia0_37]))])) (vp_Si (fun r => 0 ≤ r.toInt ∧ r.toInt ≤ 1 ∧ (ia0_27.toInt = -9 → zYn (zAl fa0_8 fa0_5 ia0_10.toInt p1.toInt p2.toInt) r.toInt))) 0 0 (fun _ => False) := by
  refine Met.ofW (cc := cX12_isAlone) (maxL := 4) (ret := (some .boolean)) (by decide) rfl ?_
  intro p e s m args below meth c s₁ B hml hv
  obtain ⟨rfl, hP, hZ⟩ := hv
  obtain ⟨hK, hAO, hN⟩ := id hZ
  have hx := B.exec
  have hb := B.bytes
  have hr := B.returns
  have hts := atoms_spec (ws := vsX12_isAlone) B.pre
  have hown : s.vm.findClass RX12 = some m.cls := findClass_of_methodNamed B.named
  have hlocks := B.notSynchronized
  have hp2l := z_lo p2
  have hp2h := z_hi p2
  have hl := lv_entry ([.ref ha0, .int p1, .int p2]) (n := 4) (Nat.le_of_ble_eq_true rfl)
  rw [lg_entry_eq]
  generalize (lg_sl ([.ref ha0, .int p1, .int p2]) ++ List.replicate (4 - (lg_sl ([.ref ha0, .int p1, .int p2])).length) Slot.unset).toArray = ls at hl ⊢
  have hl : lv_has ls 4 [(0, .ref ha0), (1, .int p1), (2, .int p2)] := hl
  refine lv_iconst (v := 0) hx hb dX12_isAlone_0 (by decide) ?_
  refine lv_istore_n (lv' := [(3, .int 0), (0, .ref ha0), (1, .int p1), (2, .int p2)]) hx hb dX12_isAlone_1 rfl hl (by decide) rfl (fun ls hl => ?_)
  have hL82 : ∀ (n : Nat) (v1 : Int32) (ls : Array Slot), 0 ≤ v1.toInt → v1.toInt ≤ 12 → (ia0_27.toInt = -9 → zAl fa0_8 fa0_5 (v1 : Int32).toInt p1.toInt p2.toInt) → (12 - v1.toInt).toNat < n → lv_has ls 4 [(3, .int v1), (0, .ref ha0), (1, .int p1), (2, .int p2)] → W p l e (headSpec vsX12_isAlone ({ frames := 2, cells := 0, slots := 0, locals := 47 })).room s m ([.ref ha0, .int p1, .int p2] : List Value).toArray below meth c s.heap [] 0 0 (MQ below (vp_Si (fun r => 0 ≤ r.toInt ∧ r.toInt ≤ 1 ∧ (ia0_27.toInt = -9 → zYn (zAl fa0_8 fa0_5 ia0_10.toInt p1.toInt p2.toInt) r.toInt))) ([.ref ha0, .int p1, .int p2] : List Value).toArray s 0 0 (fun _ => False)) (F0 m 2 ls []) := by
    intro n
    induction n with
    | zero =>
      intro v1 ls hi83_0 hi83_1 hi83_x0 hi83_m hl
      exact absurd hi83_m (Nat.not_lt_zero _)
    | succ n ih =>
      intro v1 ls hi83_0 hi83_1 hi83_x0 hi83_m hl
      have ih84 := ih
      refine lv_iload_n hx hb dX12_isAlone_2 rfl (lv_at hl 0 rfl) ?_
      refine lv_aload_n hx hb dX12_isAlone_3 rfl (lv_at hl 1 rfl) ?_
      refine va_get (D := (dC, dI)) (ci := 12) (v := .int ia0_10) (C := RX12) (T := TX12) (N := 38) hx hb hts in_X12_isAlone_X12 hown hK hP 2 rfl rfl 10 (by decide) (hts (.fieldLink RX12 79 "EachOnHisCueModel" "lines" "I") (by decide +kernel)) (fun _ h9 => h9) rfl dX12_isAlone_4 ?_
      refine lv_icmp_ge (tgt := 35) hx hb dX12_isAlone_7 (by decide) (fun hc => ?_) (fun hc => ?_)
      · have q85 : ia0_10.toInt ≤ v1.toInt := z_le rfl rfl hc
        refine lv_iconst (v := 1) hx hb dX12_isAlone_35 (by decide) ?_
        exact W.zret (v := 1) hx hb hr (rfl) (fun t ht hW => ⟨1, rfl, ⟨by first | decide | omega, by first | decide | omega, (by exact z_arT (by assumption) (by omega) (by decide))⟩, ht⟩) (fun _ h => absurd h List.not_mem_nil) dX12_isAlone_36
      · have q86 : v1.toInt < ia0_10.toInt := z_nle rfl rfl hc
        refine lv_iload_n hx hb dX12_isAlone_10 rfl (lv_at hl 0 rfl) ?_
        refine lv_iload_n hx hb dX12_isAlone_11 rfl (lv_at hl 2 rfl) ?_
        refine lv_iconst (v := 1) hx hb dX12_isAlone_12 (by decide) ?_
        refine lv_isub hx hb dX12_isAlone_13 ?_
        refine lv_topi (fun y87 ey87 => ?_)
        have hy87 : y87.toInt = p1.toInt - 1 := by rw [ey87]; exact z_sub rfl (by decide) (by omega) (by omega)
        refine lv_icmp_eq (tgt := 29) hx hb dX12_isAlone_14 (by decide) (fun hc => ?_) (fun hc => ?_)
        · have q88 : v1.toInt = y87.toInt := z_eq rfl rfl hc
          obtain ⟨y89, ey89⟩ : ∃ y : Int32, y = v1 + 1 := ⟨_, rfl⟩
          refine lv_iinc (v := y89) (lv' := [(3, .int y89), (0, .ref ha0), (1, .int p1), (2, .int p2)]) hx hb dX12_isAlone_29 hl (k := 0) rfl (by rw [ey89]; rfl) (by decide) rfl (fun ls hl => ?_)
          have hy89 : y89.toInt = v1.toInt + 1 := by rw [ey89]; exact z_add rfl (by decide) (by omega) (by omega)
          refine lv_goto (tgt := 2) hx hb dX12_isAlone_32 (by decide) ?_
          exact ih84 y89 ls (by first | decide | omega) (by first | decide | omega) (z_arS (jw := ia0_28) (by assumption) (by omega) (by omega) (Or.inl (by omega))) (by omega) (lv_sub hl [0, 1, 2, 3] rfl)
        · have q90 : v1.toInt ≠ y87.toInt := z_ne rfl rfl hc
          refine lv_aload_n hx hb dX12_isAlone_17 rfl (lv_at hl 1 rfl) ?_
          refine lv_iload_n hx hb dX12_isAlone_18 rfl (lv_at hl 0 rfl) ?_
          refine lv_iload_n hx hb dX12_isAlone_19 rfl (lv_at hl 2 rfl) ?_
          refine lv_iload_n hx hb dX12_isAlone_20 rfl (lv_at hl 3 rfl) ?_
          refine z_rdi (va_runV (As := [.int v1, .int p1, .int p2]) (rest := []) ⟨hx, hb, hml, hown, hts⟩ (rX12_doesEnd l dC dI cI cQ ha0 ha0_5 ha0_8 ha0_0 ha0_1 ha0_2 ha0_3 ha0_4 ha0_6 ha0_7 ha0_16 ha0_17 ha0_18 ha0_19 ha0_23 ha0_29 ha0_33 ha0_34 ha0_35 fa0_5 hBfa0_5 fa0_8 ia0_9 hia0_9l hia0_9h ia0_10 hia0_10l hia0_10h ia0_11 ia0_12 ia0_13 ia0_14 hia0_14l hia0_14h ia0_15 ia0_20 hia0_20l hia0_20h ia0_21 hia0_21l hia0_21h ia0_22 hia0_22l hia0_22h ia0_24 hia0_24l hia0_24h ia0_25 hia0_25l hia0_25h ia0_26 hia0_26l hia0_26h ia0_27 hia0_27l hia0_27h ia0_28 ia0_30 hia0_30l hia0_30h ia0_31 ia0_32 hia0_32l hia0_32h ia0_36 hia0_36l hia0_36h ia0_37 v1 (by first | decide | omega) (by first | decide | omega) p1 hp1l hp1h p2) (cwV 3 hts gv_X12_isAlone_X12_doesEnd_185 rfl rfl rfl (by decide +kernel) ⟨Nat.le_of_ble_eq_true rfl, Nat.le_of_ble_eq_true rfl⟩) ⟨z_blindR, va_recv hK hP (ci := 12) (q0 := 2) rfl rfl, z_preR hZ hP [0, 1, 2] rfl⟩ rfl rfl hl.1 rfl (lv_room (Nat.le_of_ble_eq_true rfl)) dX12_isAlone_21 ⟨Nat.le_of_ble_eq_true rfl, Nat.le_of_ble_eq_true rfl⟩) (fun y91 hy91 => ?_)
          obtain ⟨hy91_0, hy91_1, hy91_2⟩ := hy91
          refine lv_if_eq (tgt := 29) hx hb dX12_isAlone_24 (by decide) (fun hc => ?_) (fun hc => ?_)
          · have q92 : y91.toInt = 0 := z_eq rfl (by decide) hc
            obtain ⟨y93, ey93⟩ : ∃ y : Int32, y = v1 + 1 := ⟨_, rfl⟩
            refine lv_iinc (v := y93) (lv' := [(3, .int y93), (0, .ref ha0), (1, .int p1), (2, .int p2)]) hx hb dX12_isAlone_29 hl (k := 0) rfl (by rw [ey93]; rfl) (by decide) rfl (fun ls hl => ?_)
            have hy93 : y93.toInt = v1.toInt + 1 := by rw [ey93]; exact z_add rfl (by decide) (by omega) (by omega)
            refine lv_goto (tgt := 2) hx hb dX12_isAlone_32 (by decide) ?_
            exact ih84 y93 ls (by first | decide | omega) (by first | decide | omega) (z_arS (jw := ia0_28) (by assumption) (by omega) (by omega) (Or.inr ⟨_, hy91_2, by omega⟩)) (by omega) (lv_sub hl [0, 1, 2, 3] rfl)
          · have q94 : y91.toInt ≠ 0 := z_ne rfl (by decide) hc
            refine lv_iconst (v := 0) hx hb dX12_isAlone_27 (by decide) ?_
            exact W.zret (v := 0) hx hb hr (rfl) (fun t ht hW => ⟨0, rfl, ⟨by first | decide | omega, by first | decide | omega, (by exact z_arF hy91_2 (by omega) (by omega) (by omega) (by omega) (by decide))⟩, ht⟩) (fun _ h => absurd h List.not_mem_nil) dX12_isAlone_28
  exact hL82 ((12 - (0 : Int32).toInt).toNat + 1) 0 ls (by decide) (by decide) (fun _ i hi _ => by have e0 : (0 : Int32).toInt = 0 := (by decide); omega) (by omega) hl
set_option maxRecDepth 20000 in
theorem edX12_mendsOf_0 : decode cX12_mendsOf 0 = .ok (.iload_n 1, 1) ∧ decode cX12_mendsOf 1 = .ok (.ifCond .ne 5, 3) ∧ decode cX12_mendsOf 4 = .ok (.iconst 0, 1) ∧ decode cX12_mendsOf 5 = .ok (.ireturn, 1) ∧ decode cX12_mendsOf 6 = .ok (.iconst 0, 1) ∧ decode cX12_mendsOf 7 = .ok (.istore_n 2, 1) ∧ decode cX12_mendsOf 8 = .ok (.iload_n 2, 1) ∧ decode cX12_mendsOf 9 = .ok (.ifCond .eq 22, 3) ∧ decode cX12_mendsOf 12 = .ok (.aload_n 0, 1) ∧ decode cX12_mendsOf 13 = .ok (.getfield 28, 3) ∧ decode cX12_mendsOf 16 = .ok (.iload_n 1, 1) ∧ decode cX12_mendsOf 17 = .ok (.iaload, 1) := by decide +kernel
theorem dX12_mendsOf_0 : decode cX12_mendsOf 0 = .ok (.iload_n 1, 1) := edX12_mendsOf_0.1
theorem dX12_mendsOf_1 : decode cX12_mendsOf 1 = .ok (.ifCond .ne 5, 3) := edX12_mendsOf_0.2.1
theorem dX12_mendsOf_4 : decode cX12_mendsOf 4 = .ok (.iconst 0, 1) := edX12_mendsOf_0.2.2.1
theorem dX12_mendsOf_5 : decode cX12_mendsOf 5 = .ok (.ireturn, 1) := edX12_mendsOf_0.2.2.2.1
theorem dX12_mendsOf_6 : decode cX12_mendsOf 6 = .ok (.iconst 0, 1) := edX12_mendsOf_0.2.2.2.2.1
theorem dX12_mendsOf_7 : decode cX12_mendsOf 7 = .ok (.istore_n 2, 1) := edX12_mendsOf_0.2.2.2.2.2.1
theorem dX12_mendsOf_8 : decode cX12_mendsOf 8 = .ok (.iload_n 2, 1) := edX12_mendsOf_0.2.2.2.2.2.2.1
theorem dX12_mendsOf_9 : decode cX12_mendsOf 9 = .ok (.ifCond .eq 22, 3) := edX12_mendsOf_0.2.2.2.2.2.2.2.1
theorem dX12_mendsOf_12 : decode cX12_mendsOf 12 = .ok (.aload_n 0, 1) := edX12_mendsOf_0.2.2.2.2.2.2.2.2.1
theorem dX12_mendsOf_13 : decode cX12_mendsOf 13 = .ok (.getfield 28, 3) := edX12_mendsOf_0.2.2.2.2.2.2.2.2.2.1
theorem dX12_mendsOf_16 : decode cX12_mendsOf 16 = .ok (.iload_n 1, 1) := edX12_mendsOf_0.2.2.2.2.2.2.2.2.2.2.1
theorem dX12_mendsOf_17 : decode cX12_mendsOf 17 = .ok (.iaload, 1) := edX12_mendsOf_0.2.2.2.2.2.2.2.2.2.2.2
set_option maxRecDepth 20000 in
theorem edX12_mendsOf_18 : decode cX12_mendsOf 18 = .ok (.iload_n 2, 1) ∧ decode cX12_mendsOf 19 = .ok (.iadd, 1) ∧ decode cX12_mendsOf 20 = .ok (.aload_n 0, 1) ∧ decode cX12_mendsOf 21 = .ok (.getfield 25, 3) ∧ decode cX12_mendsOf 24 = .ok (.iload_n 1, 1) ∧ decode cX12_mendsOf 25 = .ok (.iconst 1, 1) ∧ decode cX12_mendsOf 26 = .ok (.isub, 1) ∧ decode cX12_mendsOf 27 = .ok (.iaload, 1) ∧ decode cX12_mendsOf 28 = .ok (.if_icmp .gt 27, 3) ∧ decode cX12_mendsOf 31 = .ok (.aload_n 0, 1) ∧ decode cX12_mendsOf 32 = .ok (.iload_n 1, 1) ∧ decode cX12_mendsOf 33 = .ok (.aload_n 0, 1) := by decide +kernel
theorem dX12_mendsOf_18 : decode cX12_mendsOf 18 = .ok (.iload_n 2, 1) := edX12_mendsOf_18.1
theorem dX12_mendsOf_19 : decode cX12_mendsOf 19 = .ok (.iadd, 1) := edX12_mendsOf_18.2.1
theorem dX12_mendsOf_20 : decode cX12_mendsOf 20 = .ok (.aload_n 0, 1) := edX12_mendsOf_18.2.2.1
theorem dX12_mendsOf_21 : decode cX12_mendsOf 21 = .ok (.getfield 25, 3) := edX12_mendsOf_18.2.2.2.1
theorem dX12_mendsOf_24 : decode cX12_mendsOf 24 = .ok (.iload_n 1, 1) := edX12_mendsOf_18.2.2.2.2.1
theorem dX12_mendsOf_25 : decode cX12_mendsOf 25 = .ok (.iconst 1, 1) := edX12_mendsOf_18.2.2.2.2.2.1
theorem dX12_mendsOf_26 : decode cX12_mendsOf 26 = .ok (.isub, 1) := edX12_mendsOf_18.2.2.2.2.2.2.1
theorem dX12_mendsOf_27 : decode cX12_mendsOf 27 = .ok (.iaload, 1) := edX12_mendsOf_18.2.2.2.2.2.2.2.1
theorem dX12_mendsOf_28 : decode cX12_mendsOf 28 = .ok (.if_icmp .gt 27, 3) := edX12_mendsOf_18.2.2.2.2.2.2.2.2.1
theorem dX12_mendsOf_31 : decode cX12_mendsOf 31 = .ok (.aload_n 0, 1) := edX12_mendsOf_18.2.2.2.2.2.2.2.2.2.1
theorem dX12_mendsOf_32 : decode cX12_mendsOf 32 = .ok (.iload_n 1, 1) := edX12_mendsOf_18.2.2.2.2.2.2.2.2.2.2.1
theorem dX12_mendsOf_33 : decode cX12_mendsOf 33 = .ok (.aload_n 0, 1) := edX12_mendsOf_18.2.2.2.2.2.2.2.2.2.2.2
set_option maxRecDepth 20000 in
theorem edX12_mendsOf_34 : decode cX12_mendsOf 34 = .ok (.getfield 28, 3) ∧ decode cX12_mendsOf 37 = .ok (.iload_n 1, 1) ∧ decode cX12_mendsOf 38 = .ok (.iaload, 1) ∧ decode cX12_mendsOf 39 = .ok (.iload_n 2, 1) ∧ decode cX12_mendsOf 40 = .ok (.iadd, 1) ∧ decode cX12_mendsOf 41 = .ok (.invokevirtual 238, 3) ∧ decode cX12_mendsOf 44 = .ok (.ifCond .eq 5, 3) ∧ decode cX12_mendsOf 47 = .ok (.iload_n 2, 1) ∧ decode cX12_mendsOf 48 = .ok (.ireturn, 1) ∧ decode cX12_mendsOf 49 = .ok (.iinc 2 1, 3) ∧ decode cX12_mendsOf 52 = .ok (.goto (-44), 3) ∧ decode cX12_mendsOf 55 = .ok (.bipush (-9), 2) := by decide +kernel
theorem dX12_mendsOf_34 : decode cX12_mendsOf 34 = .ok (.getfield 28, 3) := edX12_mendsOf_34.1
theorem dX12_mendsOf_37 : decode cX12_mendsOf 37 = .ok (.iload_n 1, 1) := edX12_mendsOf_34.2.1
theorem dX12_mendsOf_38 : decode cX12_mendsOf 38 = .ok (.iaload, 1) := edX12_mendsOf_34.2.2.1
theorem dX12_mendsOf_39 : decode cX12_mendsOf 39 = .ok (.iload_n 2, 1) := edX12_mendsOf_34.2.2.2.1
theorem dX12_mendsOf_40 : decode cX12_mendsOf 40 = .ok (.iadd, 1) := edX12_mendsOf_34.2.2.2.2.1
theorem dX12_mendsOf_41 : decode cX12_mendsOf 41 = .ok (.invokevirtual 238, 3) := edX12_mendsOf_34.2.2.2.2.2.1
theorem dX12_mendsOf_44 : decode cX12_mendsOf 44 = .ok (.ifCond .eq 5, 3) := edX12_mendsOf_34.2.2.2.2.2.2.1
theorem dX12_mendsOf_47 : decode cX12_mendsOf 47 = .ok (.iload_n 2, 1) := edX12_mendsOf_34.2.2.2.2.2.2.2.1
theorem dX12_mendsOf_48 : decode cX12_mendsOf 48 = .ok (.ireturn, 1) := edX12_mendsOf_34.2.2.2.2.2.2.2.2.1
theorem dX12_mendsOf_49 : decode cX12_mendsOf 49 = .ok (.iinc 2 1, 3) := edX12_mendsOf_34.2.2.2.2.2.2.2.2.2.1
theorem dX12_mendsOf_52 : decode cX12_mendsOf 52 = .ok (.goto (-44), 3) := edX12_mendsOf_34.2.2.2.2.2.2.2.2.2.2.1
theorem dX12_mendsOf_55 : decode cX12_mendsOf 55 = .ok (.bipush (-9), 2) := edX12_mendsOf_34.2.2.2.2.2.2.2.2.2.2.2
theorem dX12_mendsOf_57 : decode cX12_mendsOf 57 = .ok (.ireturn, 1) := by decide +kernel
noncomputable def voX12_mendsOf : List Cond := [.fieldLink RX12 28 "EachOnHisCueModel" "cue" "[I", .fieldLink RX12 25 "EachOnHisCueModel" "many" "[I", .methodLink RX12 238 yX12_isAlone, .instanceMethod yX12_isAlone, .selects RX12 yX12_isAlone yX12_isAlone, .initialized RX12]
noncomputable def vsX12_mendsOf : List Cond := .code yX12_mendsOf cX12_mendsOf 3 (some .int) :: (voX12_mendsOf ++ (vsX12_isAlone ++ (wsX120)))
theorem zgX12_mendsOf : zGd vsX12_mendsOf := z_gdC rfl (z_gdA (z_gdO (by decide +kernel) : zGd voX12_mendsOf) (z_gdA zgX12_isAlone (zgX12)))
theorem in_X12_mendsOf_X12 : ∀ w ∈ wsX120, w ∈ vsX12_mendsOf := fun _ h => List.mem_cons_of_mem _ (List.mem_append_right _ (List.mem_append_right _ (h)))
theorem gw_X12_mendsOf_X12_isAlone : GoodIn vsX12_mendsOf vsX12_isAlone := z_gdI (fun _ h => List.mem_cons_of_mem _ (List.mem_append_right _ (List.mem_append_left _ h))) zgX12_isAlone
set_option maxRecDepth 20000 in
theorem gv_X12_mendsOf_X12_isAlone_238 : GoodIn vsX12_mendsOf (wsV RX12 238 RX12 yX12_isAlone vsX12_isAlone) := goodIn_app (goodIn_of _ (by decide +kernel)) gw_X12_mendsOf_X12_isAlone
set_option maxHeartbeats 4000000 in
set_option maxRecDepth 100000 in
theorem rX12_mendsOf (l : Launch) (dC : Nat → ClassId) (dI : Nat → Nat → Nat) (cI cQ : ClassId) (ha0 ha0_5 ha0_6 ha0_8 ha0_0 ha0_1 ha0_2 ha0_3 ha0_4 ha0_7 ha0_16 ha0_17 ha0_18 ha0_19 ha0_23 ha0_29 ha0_33 ha0_34 ha0_35 : Nat) (fa0_5 : Nat → Int32) (hBfa0_5 : ∀ k, 0 ≤ (fa0_5 k).toInt ∧ (fa0_5 k).toInt ≤ 4) (fa0_6 : Nat → Int32) (hBfa0_6 : ∀ k, 0 ≤ (fa0_6 k).toInt ∧ (fa0_6 k).toInt ≤ 9) (fa0_8 : Nat → Int32) (ia0_9 : Int32) (hia0_9l : 0 ≤ ia0_9.toInt) (hia0_9h : ia0_9.toInt ≤ 5) (ia0_10 : Int32) (hia0_10l : 0 ≤ ia0_10.toInt) (hia0_10h : ia0_10.toInt ≤ 12) (ia0_11 : Int32) (ia0_12 : Int32) (ia0_13 : Int32) (ia0_14 : Int32) (hia0_14l : (-9) ≤ ia0_14.toInt) (hia0_14h : ia0_14.toInt ≤ 11) (ia0_15 : Int32) (ia0_20 : Int32) (hia0_20l : 0 ≤ ia0_20.toInt) (hia0_20h : ia0_20.toInt ≤ 80) (ia0_21 : Int32) (hia0_21l : 0 ≤ ia0_21.toInt) (hia0_21h : ia0_21.toInt ≤ 80) (ia0_22 : Int32) (hia0_22l : 0 ≤ ia0_22.toInt) (hia0_22h : ia0_22.toInt ≤ 40) (ia0_24 : Int32) (hia0_24l : 0 ≤ ia0_24.toInt) (hia0_24h : ia0_24.toInt ≤ 1) (ia0_25 : Int32) (hia0_25l : 0 ≤ ia0_25.toInt) (hia0_25h : ia0_25.toInt ≤ 1) (ia0_26 : Int32) (hia0_26l : 0 ≤ ia0_26.toInt) (hia0_26h : ia0_26.toInt ≤ 300) (ia0_27 : Int32) (hia0_27l : (-9) ≤ ia0_27.toInt) (hia0_27h : ia0_27.toInt ≤ 11) (ia0_28 : Int32) (ia0_30 : Int32) (hia0_30l : 0 ≤ ia0_30.toInt) (hia0_30h : ia0_30.toInt ≤ 60) (ia0_31 : Int32) (ia0_32 : Int32) (hia0_32l : 0 ≤ ia0_32.toInt) (hia0_32h : ia0_32.toInt ≤ 1) (ia0_36 : Int32) (hia0_36l : 0 ≤ ia0_36.toInt) (hia0_36h : ia0_36.toInt ≤ 12) (ia0_37 : Int32) (p1 : Int32) (hp1l : 0 ≤ p1.toInt) (hp1h : p1.toInt ≤ 11) : Met l yX12_mendsOf vsX12_mendsOf ({ frames := 3, cells := 0, slots := 0, locals := 70 }) (va_Pc [.ref ha0, .int p1] (zRB dC dI cI cQ [(ha0_5, .inl (cI, 12, .inl fa0_5)), (ha0_6, .inl (cI, 12, .inl fa0_6)), (ha0_8, .inl (cI, 60, .inl fa0_8)), (ha0, .inr (12, [.ref ha0_0, .ref ha0_1, .ref ha0_2, .ref ha0_3, .ref ha0_4, .ref ha0_5, .ref ha0_6, .ref ha0_7, .ref ha0_8, .int ia0_9, .int ia0_10, .int ia0_11, .int ia0_12, .int ia0_13, .int ia0_14, .int ia0_15, .ref ha0_16, .ref ha0_17, .ref ha0_18, .ref ha0_19, .int ia0_20, .int ia0_21, .int ia0_22, .ref ha0_23, .int ia0_24, .int ia0_25, .int ia0_26, .int ia0_27, .int ia0_28, .ref ha0_29, .int ia0_30, .int ia0_31, .int ia0_32, .ref ha0_33, .ref ha0_34, .ref ha0_35, .int ia0_36, .int ia0_37]))])) (vp_Si (fun r => (-9) ≤ r.toInt ∧ r.toInt ≤ 5 ∧ ((r.toInt = -9 ∨ 0 ≤ r.toInt) ∧ (ia0_27.toInt = -9 → r.toInt = zMw fa0_8 fa0_5 fa0_6 ia0_10.toInt p1.toInt)))) 0 0 (fun _ => False) := by
  refine Met.ofW (cc := cX12_mendsOf) (maxL := 3) (ret := (some .int)) (by decide) rfl ?_
  intro p e s m args below meth c s₁ B hml hv
  obtain ⟨rfl, hP, hZ⟩ := hv
  obtain ⟨hK, hAO, hN⟩ := id hZ
  have hx := B.exec
  have hb := B.bytes
  have hr := B.returns
  have hts := atoms_spec (ws := vsX12_mendsOf) B.pre
  have hown : s.vm.findClass RX12 = some m.cls := findClass_of_methodNamed B.named
  have hlocks := B.notSynchronized
  have hl := lv_entry ([.ref ha0, .int p1]) (n := 3) (Nat.le_of_ble_eq_true rfl)
  rw [lg_entry_eq]
  generalize (lg_sl ([.ref ha0, .int p1]) ++ List.replicate (3 - (lg_sl ([.ref ha0, .int p1])).length) Slot.unset).toArray = ls at hl ⊢
  have hl : lv_has ls 3 [(0, .ref ha0), (1, .int p1)] := hl
  refine lv_iload_n hx hb dX12_mendsOf_0 rfl (lv_at hl 1 rfl) ?_
  refine lv_if_ne (tgt := 6) hx hb dX12_mendsOf_1 (by decide) (fun hc => ?_) (fun hc => ?_)
  · have q1 : p1.toInt ≠ 0 := z_ne rfl (by decide) hc
    refine lv_iconst (v := 0) hx hb dX12_mendsOf_6 (by decide) ?_
    refine lv_istore_n (lv' := [(2, .int 0), (0, .ref ha0), (1, .int p1)]) hx hb dX12_mendsOf_7 rfl hl (by decide) rfl (fun ls hl => ?_)
    have hL43 : ∀ (n : Nat) (v2 : Int32) (ls : Array Slot), 0 ≤ v2.toInt → v2.toInt ≤ 5 → (ia0_27.toInt = -9 → ∀ w : Int, 0 ≤ w → w < (v2 : Int32).toInt → ¬ zAl fa0_8 fa0_5 ia0_10.toInt p1.toInt ((fa0_6 p1.toNatClampNeg).toInt + w)) → (5 - v2.toInt).toNat < n → lv_has ls 3 [(2, .int v2), (0, .ref ha0), (1, .int p1)] → W p l e (headSpec vsX12_mendsOf ({ frames := 3, cells := 0, slots := 0, locals := 70 })).room s m ([.ref ha0, .int p1] : List Value).toArray below meth c s.heap [] 0 0 (MQ below (vp_Si (fun r => (-9) ≤ r.toInt ∧ r.toInt ≤ 5 ∧ ((r.toInt = -9 ∨ 0 ≤ r.toInt) ∧ (ia0_27.toInt = -9 → r.toInt = zMw fa0_8 fa0_5 fa0_6 ia0_10.toInt p1.toInt)))) ([.ref ha0, .int p1] : List Value).toArray s 0 0 (fun _ => False)) (F0 m 8 ls []) := by
      intro n
      induction n with
      | zero =>
        intro v2 ls hi44_0 hi44_1 hi44_x0 hi44_m hl
        exact absurd hi44_m (Nat.not_lt_zero _)
      | succ n ih =>
        intro v2 ls hi44_0 hi44_1 hi44_x0 hi44_m hl
        have ih45 := ih
        refine lv_iload_n hx hb dX12_mendsOf_8 rfl (lv_at hl 0 rfl) ?_
        refine lv_if_eq (tgt := 31) hx hb dX12_mendsOf_9 (by decide) (fun hc => ?_) (fun hc => ?_)
        · have q46 : v2.toInt = 0 := z_eq rfl (by decide) hc
          refine lv_aload_n hx hb dX12_mendsOf_31 rfl (lv_at hl 1 rfl) ?_
          refine lv_iload_n hx hb dX12_mendsOf_32 rfl (lv_at hl 2 rfl) ?_
          refine lv_aload_n hx hb dX12_mendsOf_33 rfl (lv_at hl 1 rfl) ?_
          refine va_get (D := (dC, dI)) (ci := 12) (v := .ref ha0_6) (C := RX12) (T := TX12) (N := 38) hx hb hts in_X12_mendsOf_X12 hown hK hP 3 rfl rfl 6 (by decide) (hts (.fieldLink RX12 28 "EachOnHisCueModel" "cue" "[I") (by decide +kernel)) (fun _ h9 => h9) rfl dX12_mendsOf_34 ?_
          refine lv_iload_n hx hb dX12_mendsOf_37 rfl (lv_at hl 2 rfl) ?_
          refine va_iald hx hb hK hP 1 0 rfl rfl (z_in (by omega) (by omega)) dX12_mendsOf_38 ?_
          refine lv_topi (fun y47 ey47 => ?_)
          have gy47 : y47.toInt = (fa0_6 (p1 : Int32).toNatClampNeg).toInt := by rw [ey47]
          have hy47 : 0 ≤ y47.toInt ∧ y47.toInt ≤ 9 := by rw [ey47]; exact hBfa0_6 _
          obtain ⟨hy47, hy47_⟩ := hy47
          refine lv_iload_n hx hb dX12_mendsOf_39 rfl (lv_at hl 0 rfl) ?_
          refine lv_iadd hx hb dX12_mendsOf_40 ?_
          refine lv_topi (fun y48 ey48 => ?_)
          have hy48 : y48.toInt = y47.toInt + v2.toInt := by rw [ey48]; exact z_add rfl rfl (by omega) (by omega)
          refine z_rdi (va_runV (As := [.int p1, .int y48]) (rest := []) ⟨hx, hb, hml, hown, hts⟩ (rX12_isAlone l dC dI cI cQ ha0 ha0_5 ha0_8 ha0_0 ha0_1 ha0_2 ha0_3 ha0_4 ha0_6 ha0_7 ha0_16 ha0_17 ha0_18 ha0_19 ha0_23 ha0_29 ha0_33 ha0_34 ha0_35 fa0_5 hBfa0_5 fa0_8 ia0_9 hia0_9l hia0_9h ia0_10 hia0_10l hia0_10h ia0_11 ia0_12 ia0_13 ia0_14 hia0_14l hia0_14h ia0_15 ia0_20 hia0_20l hia0_20h ia0_21 hia0_21l hia0_21h ia0_22 hia0_22l hia0_22h ia0_24 hia0_24l hia0_24h ia0_25 hia0_25l hia0_25h ia0_26 hia0_26l hia0_26h ia0_27 hia0_27l hia0_27h ia0_28 ia0_30 hia0_30l hia0_30h ia0_31 ia0_32 hia0_32l hia0_32h ia0_36 hia0_36l hia0_36h ia0_37 p1 (by first | decide | omega) (by first | decide | omega) y48) (cwV 2 hts gv_X12_mendsOf_X12_isAlone_238 rfl rfl rfl (by decide +kernel) ⟨Nat.le_of_ble_eq_true rfl, Nat.le_of_ble_eq_true rfl⟩) ⟨z_blindR, va_recv hK hP (ci := 12) (q0 := 3) rfl rfl, z_preR hZ hP [0, 2, 3] rfl⟩ rfl rfl hl.1 rfl (lv_room (Nat.le_of_ble_eq_true rfl)) dX12_mendsOf_41 ⟨Nat.le_of_ble_eq_true rfl, Nat.le_of_ble_eq_true rfl⟩) (fun y49 hy49 => ?_)
          obtain ⟨hy49_0, hy49_1, hy49_2⟩ := hy49
          refine lv_if_eq (tgt := 49) hx hb dX12_mendsOf_44 (by decide) (fun hc => ?_) (fun hc => ?_)
          · have q50 : y49.toInt = 0 := z_eq rfl (by decide) hc
            obtain ⟨y51, ey51⟩ : ∃ y : Int32, y = v2 + 1 := ⟨_, rfl⟩
            refine lv_iinc (v := y51) (lv' := [(2, .int y51), (0, .ref ha0), (1, .int p1)]) hx hb dX12_mendsOf_49 hl (k := 0) rfl (by rw [ey51]; rfl) (by decide) rfl (fun ls hl => ?_)
            have hy51 : y51.toInt = v2.toInt + 1 := by rw [ey51]; exact z_add rfl (by decide) (by omega) (by omega)
            refine lv_goto (tgt := 8) hx hb dX12_mendsOf_52 (by decide) ?_
            exact ih45 y51 ls (by first | decide | omega) (by first | decide | omega) (z_moS (by assumption) (fun hj => by have w := hy49_2 hj; rw [show (y48 : Int32).toInt = (fa0_6 p1.toNatClampNeg).toInt + (v2 : Int32).toInt by omega] at w; exact w) (by omega) (by omega)) (by omega) (lv_sub hl [0, 1, 2] rfl)
          · have q52 : y49.toInt ≠ 0 := z_ne rfl (by decide) hc
            refine lv_iload_n hx hb dX12_mendsOf_47 rfl (lv_at hl 0 rfl) ?_
            exact W.iret (v := v2) hx hb hr (fun t ht hW => ⟨v2, rfl, ⟨by first | decide | omega, by first | decide | omega, (by exact ⟨Or.inr (by omega), z_moT (c := (fa0_6 p1.toNatClampNeg).toInt) (by assumption) (fun hj => by have w := hy49_2 hj; rw [show (y48 : Int32).toInt = (fa0_6 p1.toNatClampNeg).toInt + (v2 : Int32).toInt by omega] at w; exact w) (by omega) rfl (by omega) rfl rfl (by omega) (by omega)⟩)⟩, ht⟩) (fun _ h => absurd h List.not_mem_nil) dX12_mendsOf_48
        · have q53 : v2.toInt ≠ 0 := z_ne rfl (by decide) hc
          refine lv_aload_n hx hb dX12_mendsOf_12 rfl (lv_at hl 1 rfl) ?_
          refine va_get (D := (dC, dI)) (ci := 12) (v := .ref ha0_6) (C := RX12) (T := TX12) (N := 38) hx hb hts in_X12_mendsOf_X12 hown hK hP 3 rfl rfl 6 (by decide) (hts (.fieldLink RX12 28 "EachOnHisCueModel" "cue" "[I") (by decide +kernel)) (fun _ h9 => h9) rfl dX12_mendsOf_13 ?_
          refine lv_iload_n hx hb dX12_mendsOf_16 rfl (lv_at hl 2 rfl) ?_
          refine va_iald hx hb hK hP 1 0 rfl rfl (z_in (by omega) (by omega)) dX12_mendsOf_17 ?_
          refine lv_topi (fun y54 ey54 => ?_)
          have gy54 : y54.toInt = (fa0_6 (p1 : Int32).toNatClampNeg).toInt := by rw [ey54]
          have hy54 : 0 ≤ y54.toInt ∧ y54.toInt ≤ 9 := by rw [ey54]; exact hBfa0_6 _
          obtain ⟨hy54, hy54_⟩ := hy54
          refine lv_iload_n hx hb dX12_mendsOf_18 rfl (lv_at hl 0 rfl) ?_
          refine lv_iadd hx hb dX12_mendsOf_19 ?_
          refine lv_topi (fun y55 ey55 => ?_)
          have hy55 : y55.toInt = y54.toInt + v2.toInt := by rw [ey55]; exact z_add rfl rfl (by omega) (by omega)
          refine lv_aload_n hx hb dX12_mendsOf_20 rfl (lv_at hl 1 rfl) ?_
          refine va_get (D := (dC, dI)) (ci := 12) (v := .ref ha0_5) (C := RX12) (T := TX12) (N := 38) hx hb hts in_X12_mendsOf_X12 hown hK hP 3 rfl rfl 5 (by decide) (hts (.fieldLink RX12 25 "EachOnHisCueModel" "many" "[I") (by decide +kernel)) (fun _ h9 => h9) rfl dX12_mendsOf_21 ?_
          refine lv_iload_n hx hb dX12_mendsOf_24 rfl (lv_at hl 2 rfl) ?_
          refine lv_iconst (v := 1) hx hb dX12_mendsOf_25 (by decide) ?_
          refine lv_isub hx hb dX12_mendsOf_26 ?_
          refine lv_topi (fun y56 ey56 => ?_)
          have hy56 : y56.toInt = p1.toInt - 1 := by rw [ey56]; exact z_sub rfl (by decide) (by omega) (by omega)
          refine va_iald hx hb hK hP 0 0 rfl rfl (z_in (by omega) (by omega)) dX12_mendsOf_27 ?_
          refine lv_topi (fun y57 ey57 => ?_)
          have gy57 : y57.toInt = (fa0_5 (y56 : Int32).toNatClampNeg).toInt := by rw [ey57]
          have hy57 : 0 ≤ y57.toInt ∧ y57.toInt ≤ 4 := by rw [ey57]; exact hBfa0_5 _
          obtain ⟨hy57, hy57_⟩ := hy57
          refine lv_icmp_gt (tgt := 55) hx hb dX12_mendsOf_28 (by decide) (fun hc => ?_) (fun hc => ?_)
          · have q58 : y57.toInt < y55.toInt := z_lt rfl rfl hc
            refine lv_bipush (v := (-9)) hx hb dX12_mendsOf_55 (by decide) ?_
            exact W.iret (v := (-9)) hx hb hr (fun t ht hW => ⟨(-9), rfl, ⟨by first | decide | omega, by first | decide | omega, (by have hm2 : (y57 : Int32).toInt = (fa0_5 (p1.toInt - 1).toNat).toInt := (by rw [gy57, z_clN (show (y56 : Int32).toInt = p1.toInt - 1 by omega)]); exact ⟨Or.inl (by decide), z_moN (c := (fa0_6 p1.toNatClampNeg).toInt) (by assumption) (by decide) (by omega) rfl rfl (by omega) (by omega) (by omega)⟩)⟩, ht⟩) (fun _ h => absurd h List.not_mem_nil) dX12_mendsOf_57
          · have q59 : y55.toInt ≤ y57.toInt := z_nlt rfl rfl hc
            refine lv_aload_n hx hb dX12_mendsOf_31 rfl (lv_at hl 1 rfl) ?_
            refine lv_iload_n hx hb dX12_mendsOf_32 rfl (lv_at hl 2 rfl) ?_
            refine lv_aload_n hx hb dX12_mendsOf_33 rfl (lv_at hl 1 rfl) ?_
            refine va_get (D := (dC, dI)) (ci := 12) (v := .ref ha0_6) (C := RX12) (T := TX12) (N := 38) hx hb hts in_X12_mendsOf_X12 hown hK hP 3 rfl rfl 6 (by decide) (hts (.fieldLink RX12 28 "EachOnHisCueModel" "cue" "[I") (by decide +kernel)) (fun _ h9 => h9) rfl dX12_mendsOf_34 ?_
            refine lv_iload_n hx hb dX12_mendsOf_37 rfl (lv_at hl 2 rfl) ?_
            refine va_iald hx hb hK hP 1 0 rfl rfl (z_in (by omega) (by omega)) dX12_mendsOf_38 ?_
            refine lv_topi (fun y60 ey60 => ?_)
            obtain rfl : y54 = y60 := ey54.trans ey60.symm
            refine lv_iload_n hx hb dX12_mendsOf_39 rfl (lv_at hl 0 rfl) ?_
            refine lv_iadd hx hb dX12_mendsOf_40 ?_
            refine lv_topi (fun y61 ey61 => ?_)
            obtain rfl : y55 = y61 := ey55.trans ey61.symm
            refine z_rdi (va_runV (As := [.int p1, .int y55]) (rest := []) ⟨hx, hb, hml, hown, hts⟩ (rX12_isAlone l dC dI cI cQ ha0 ha0_5 ha0_8 ha0_0 ha0_1 ha0_2 ha0_3 ha0_4 ha0_6 ha0_7 ha0_16 ha0_17 ha0_18 ha0_19 ha0_23 ha0_29 ha0_33 ha0_34 ha0_35 fa0_5 hBfa0_5 fa0_8 ia0_9 hia0_9l hia0_9h ia0_10 hia0_10l hia0_10h ia0_11 ia0_12 ia0_13 ia0_14 hia0_14l hia0_14h ia0_15 ia0_20 hia0_20l hia0_20h ia0_21 hia0_21l hia0_21h ia0_22 hia0_22l hia0_22h ia0_24 hia0_24l hia0_24h ia0_25 hia0_25l hia0_25h ia0_26 hia0_26l hia0_26h ia0_27 hia0_27l hia0_27h ia0_28 ia0_30 hia0_30l hia0_30h ia0_31 ia0_32 hia0_32l hia0_32h ia0_36 hia0_36l hia0_36h ia0_37 p1 (by first | decide | omega) (by first | decide | omega) y55) (cwV 2 hts gv_X12_mendsOf_X12_isAlone_238 rfl rfl rfl (by decide +kernel) ⟨Nat.le_of_ble_eq_true rfl, Nat.le_of_ble_eq_true rfl⟩) ⟨z_blindR, va_recv hK hP (ci := 12) (q0 := 3) rfl rfl, z_preR hZ hP [0, 2, 3] rfl⟩ rfl rfl hl.1 rfl (lv_room (Nat.le_of_ble_eq_true rfl)) dX12_mendsOf_41 ⟨Nat.le_of_ble_eq_true rfl, Nat.le_of_ble_eq_true rfl⟩) (fun y62 hy62 => ?_)
            obtain ⟨hy62_0, hy62_1, hy62_2⟩ := hy62
            refine lv_if_eq (tgt := 49) hx hb dX12_mendsOf_44 (by decide) (fun hc => ?_) (fun hc => ?_)
            · have q63 : y62.toInt = 0 := z_eq rfl (by decide) hc
              obtain ⟨y64, ey64⟩ : ∃ y : Int32, y = v2 + 1 := ⟨_, rfl⟩
              refine lv_iinc (v := y64) (lv' := [(2, .int y64), (0, .ref ha0), (1, .int p1)]) hx hb dX12_mendsOf_49 hl (k := 0) rfl (by rw [ey64]; rfl) (by decide) rfl (fun ls hl => ?_)
              have hy64 : y64.toInt = v2.toInt + 1 := by rw [ey64]; exact z_add rfl (by decide) (by omega) (by omega)
              refine lv_goto (tgt := 8) hx hb dX12_mendsOf_52 (by decide) ?_
              exact ih45 y64 ls (by first | decide | omega) (by first | decide | omega) (z_moS (by assumption) (fun hj => by have w := hy62_2 hj; rw [show (y55 : Int32).toInt = (fa0_6 p1.toNatClampNeg).toInt + (v2 : Int32).toInt by omega] at w; exact w) (by omega) (by omega)) (by omega) (lv_sub hl [0, 1, 2] rfl)
            · have q65 : y62.toInt ≠ 0 := z_ne rfl (by decide) hc
              refine lv_iload_n hx hb dX12_mendsOf_47 rfl (lv_at hl 0 rfl) ?_
              exact W.iret (v := v2) hx hb hr (fun t ht hW => ⟨v2, rfl, ⟨by first | decide | omega, by first | decide | omega, (by have hm2 : (y57 : Int32).toInt = (fa0_5 (p1.toInt - 1).toNat).toInt := (by rw [gy57, z_clN (show (y56 : Int32).toInt = p1.toInt - 1 by omega)]); exact ⟨Or.inr (by omega), z_moT (c := (fa0_6 p1.toNatClampNeg).toInt) (by assumption) (fun hj => by have w := hy62_2 hj; rw [show (y55 : Int32).toInt = (fa0_6 p1.toNatClampNeg).toInt + (v2 : Int32).toInt by omega] at w; exact w) (by omega) rfl (by omega) rfl rfl (by omega) (by omega)⟩)⟩, ht⟩) (fun _ h => absurd h List.not_mem_nil) dX12_mendsOf_48
    exact hL43 ((5 - (0 : Int32).toInt).toNat + 1) 0 ls (by decide) (by decide) (fun _ w _ _ => by have e0 : (0 : Int32).toInt = 0 := (by decide); omega) (by omega) hl
  · have q66 : p1.toInt = 0 := z_eq rfl (by decide) hc
    refine lv_iconst (v := 0) hx hb dX12_mendsOf_4 (by decide) ?_
    exact W.iret (v := 0) hx hb hr (fun t ht hW => ⟨0, rfl, ⟨by first | decide | omega, by first | decide | omega, (by exact ⟨Or.inr (by decide), fun _ => by rw [show p1.toInt = 0 by omega, z_mw0]; decide⟩)⟩, ht⟩) (fun _ h => absurd h List.not_mem_nil) dX12_mendsOf_5
set_option maxRecDepth 20000 in
theorem edX12_isOnStage_0 : decode cX12_isOnStage 0 = .ok (.aload_n 0, 1) ∧ decode cX12_isOnStage 1 = .ok (.iload_n 1, 1) ∧ decode cX12_isOnStage 2 = .ok (.invokevirtual 166, 3) ∧ decode cX12_isOnStage 5 = .ok (.istore_n 3, 1) ∧ decode cX12_isOnStage 6 = .ok (.iload_n 3, 1) ∧ decode cX12_isOnStage 7 = .ok (.iconst 1, 1) ∧ decode cX12_isOnStage 8 = .ok (.iload_n 2, 1) ∧ decode cX12_isOnStage 9 = .ok (.iconst 1, 1) ∧ decode cX12_isOnStage 10 = .ok (.iadd, 1) ∧ decode cX12_isOnStage 11 = .ok (.ishl, 1) ∧ decode cX12_isOnStage 12 = .ok (.iconst 1, 1) ∧ decode cX12_isOnStage 13 = .ok (.isub, 1) := by decide +kernel
theorem dX12_isOnStage_0 : decode cX12_isOnStage 0 = .ok (.aload_n 0, 1) := edX12_isOnStage_0.1
theorem dX12_isOnStage_1 : decode cX12_isOnStage 1 = .ok (.iload_n 1, 1) := edX12_isOnStage_0.2.1
theorem dX12_isOnStage_2 : decode cX12_isOnStage 2 = .ok (.invokevirtual 166, 3) := edX12_isOnStage_0.2.2.1
theorem dX12_isOnStage_5 : decode cX12_isOnStage 5 = .ok (.istore_n 3, 1) := edX12_isOnStage_0.2.2.2.1
theorem dX12_isOnStage_6 : decode cX12_isOnStage 6 = .ok (.iload_n 3, 1) := edX12_isOnStage_0.2.2.2.2.1
theorem dX12_isOnStage_7 : decode cX12_isOnStage 7 = .ok (.iconst 1, 1) := edX12_isOnStage_0.2.2.2.2.2.1
theorem dX12_isOnStage_8 : decode cX12_isOnStage 8 = .ok (.iload_n 2, 1) := edX12_isOnStage_0.2.2.2.2.2.2.1
theorem dX12_isOnStage_9 : decode cX12_isOnStage 9 = .ok (.iconst 1, 1) := edX12_isOnStage_0.2.2.2.2.2.2.2.1
theorem dX12_isOnStage_10 : decode cX12_isOnStage 10 = .ok (.iadd, 1) := edX12_isOnStage_0.2.2.2.2.2.2.2.2.1
theorem dX12_isOnStage_11 : decode cX12_isOnStage 11 = .ok (.ishl, 1) := edX12_isOnStage_0.2.2.2.2.2.2.2.2.2.1
theorem dX12_isOnStage_12 : decode cX12_isOnStage 12 = .ok (.iconst 1, 1) := edX12_isOnStage_0.2.2.2.2.2.2.2.2.2.2.1
theorem dX12_isOnStage_13 : decode cX12_isOnStage 13 = .ok (.isub, 1) := edX12_isOnStage_0.2.2.2.2.2.2.2.2.2.2.2
set_option maxRecDepth 20000 in
theorem edX12_isOnStage_14 : decode cX12_isOnStage 14 = .ok (.iand, 1) ∧ decode cX12_isOnStage 15 = .ok (.ifCond .eq 13, 3) ∧ decode cX12_isOnStage 18 = .ok (.iload_n 3, 1) ∧ decode cX12_isOnStage 19 = .ok (.iload_n 2, 1) ∧ decode cX12_isOnStage 20 = .ok (.ishr, 1) ∧ decode cX12_isOnStage 21 = .ok (.ifCond .eq 7, 3) ∧ decode cX12_isOnStage 24 = .ok (.iconst 1, 1) ∧ decode cX12_isOnStage 25 = .ok (.goto 4, 3) ∧ decode cX12_isOnStage 28 = .ok (.iconst 0, 1) ∧ decode cX12_isOnStage 29 = .ok (.ireturn, 1) := by decide +kernel
theorem dX12_isOnStage_14 : decode cX12_isOnStage 14 = .ok (.iand, 1) := edX12_isOnStage_14.1
theorem dX12_isOnStage_15 : decode cX12_isOnStage 15 = .ok (.ifCond .eq 13, 3) := edX12_isOnStage_14.2.1
theorem dX12_isOnStage_18 : decode cX12_isOnStage 18 = .ok (.iload_n 3, 1) := edX12_isOnStage_14.2.2.1
theorem dX12_isOnStage_19 : decode cX12_isOnStage 19 = .ok (.iload_n 2, 1) := edX12_isOnStage_14.2.2.2.1
theorem dX12_isOnStage_20 : decode cX12_isOnStage 20 = .ok (.ishr, 1) := edX12_isOnStage_14.2.2.2.2.1
theorem dX12_isOnStage_21 : decode cX12_isOnStage 21 = .ok (.ifCond .eq 7, 3) := edX12_isOnStage_14.2.2.2.2.2.1
theorem dX12_isOnStage_24 : decode cX12_isOnStage 24 = .ok (.iconst 1, 1) := edX12_isOnStage_14.2.2.2.2.2.2.1
theorem dX12_isOnStage_25 : decode cX12_isOnStage 25 = .ok (.goto 4, 3) := edX12_isOnStage_14.2.2.2.2.2.2.2.1
theorem dX12_isOnStage_28 : decode cX12_isOnStage 28 = .ok (.iconst 0, 1) := edX12_isOnStage_14.2.2.2.2.2.2.2.2.1
theorem dX12_isOnStage_29 : decode cX12_isOnStage 29 = .ok (.ireturn, 1) := edX12_isOnStage_14.2.2.2.2.2.2.2.2.2
noncomputable def voX12_isOnStage : List Cond := [.methodLink RX12 166 yX12_linesOf, .instanceMethod yX12_linesOf, .selects RX12 yX12_linesOf yX12_linesOf, .initialized RX12]
noncomputable def vsX12_isOnStage : List Cond := .code yX12_isOnStage cX12_isOnStage 4 (some .boolean) :: (voX12_isOnStage ++ (vsX12_linesOf))
theorem zgX12_isOnStage : zGd vsX12_isOnStage := z_gdC rfl (z_gdA (z_gdO (by decide +kernel) : zGd voX12_isOnStage) (zgX12_linesOf))
theorem gw_X12_isOnStage_X12_linesOf : GoodIn vsX12_isOnStage vsX12_linesOf := z_gdI (fun _ h => List.mem_cons_of_mem _ (List.mem_append_right _ (h))) zgX12_linesOf
set_option maxRecDepth 20000 in
theorem gv_X12_isOnStage_X12_linesOf_166 : GoodIn vsX12_isOnStage (wsV RX12 166 RX12 yX12_linesOf vsX12_linesOf) := goodIn_app (goodIn_of _ (by decide +kernel)) gw_X12_isOnStage_X12_linesOf
set_option maxHeartbeats 4000000 in
set_option maxRecDepth 100000 in
theorem rX12_isOnStage (l : Launch) (dC : Nat → ClassId) (dI : Nat → Nat → Nat) (cI cQ : ClassId) (ha0 ha0_4 ha0_0 ha0_1 ha0_2 ha0_3 ha0_5 ha0_6 ha0_7 ha0_8 ha0_16 ha0_17 ha0_18 ha0_19 ha0_23 ha0_29 ha0_33 ha0_34 ha0_35 : Nat) (fa0_4 : Nat → Int32) (hBfa0_4 : ∀ k, 0 ≤ (fa0_4 k).toInt ∧ (fa0_4 k).toInt ≤ 4) (ia0_9 : Int32) (hia0_9l : 0 ≤ ia0_9.toInt) (hia0_9h : ia0_9.toInt ≤ 5) (ia0_10 : Int32) (hia0_10l : 0 ≤ ia0_10.toInt) (hia0_10h : ia0_10.toInt ≤ 12) (ia0_11 : Int32) (ia0_12 : Int32) (ia0_13 : Int32) (ia0_14 : Int32) (hia0_14l : (-9) ≤ ia0_14.toInt) (hia0_14h : ia0_14.toInt ≤ 11) (ia0_15 : Int32) (ia0_20 : Int32) (hia0_20l : 0 ≤ ia0_20.toInt) (hia0_20h : ia0_20.toInt ≤ 80) (ia0_21 : Int32) (hia0_21l : 0 ≤ ia0_21.toInt) (hia0_21h : ia0_21.toInt ≤ 80) (ia0_22 : Int32) (hia0_22l : 0 ≤ ia0_22.toInt) (hia0_22h : ia0_22.toInt ≤ 40) (ia0_24 : Int32) (hia0_24l : 0 ≤ ia0_24.toInt) (hia0_24h : ia0_24.toInt ≤ 1) (ia0_25 : Int32) (hia0_25l : 0 ≤ ia0_25.toInt) (hia0_25h : ia0_25.toInt ≤ 1) (ia0_26 : Int32) (hia0_26l : 0 ≤ ia0_26.toInt) (hia0_26h : ia0_26.toInt ≤ 300) (ia0_27 : Int32) (hia0_27l : (-9) ≤ ia0_27.toInt) (hia0_27h : ia0_27.toInt ≤ 11) (ia0_28 : Int32) (ia0_30 : Int32) (hia0_30l : 0 ≤ ia0_30.toInt) (hia0_30h : ia0_30.toInt ≤ 60) (ia0_31 : Int32) (ia0_32 : Int32) (hia0_32l : 0 ≤ ia0_32.toInt) (hia0_32h : ia0_32.toInt ≤ 1) (ia0_36 : Int32) (hia0_36l : 0 ≤ ia0_36.toInt) (hia0_36h : ia0_36.toInt ≤ 12) (ia0_37 : Int32) (p1 : Int32) (p2 : Int32) (hp2l : 0 ≤ p2.toInt) (hp2h : p2.toInt ≤ 11) : Met l yX12_isOnStage vsX12_isOnStage ({ frames := 1, cells := 0, slots := 0, locals := 23 }) (va_Pc [.ref ha0, .int p1, .int p2] (zRB dC dI cI cQ [(ha0_4, .inl (cI, 12, .inl fa0_4)), (ha0, .inr (12, [.ref ha0_0, .ref ha0_1, .ref ha0_2, .ref ha0_3, .ref ha0_4, .ref ha0_5, .ref ha0_6, .ref ha0_7, .ref ha0_8, .int ia0_9, .int ia0_10, .int ia0_11, .int ia0_12, .int ia0_13, .int ia0_14, .int ia0_15, .ref ha0_16, .ref ha0_17, .ref ha0_18, .ref ha0_19, .int ia0_20, .int ia0_21, .int ia0_22, .ref ha0_23, .int ia0_24, .int ia0_25, .int ia0_26, .int ia0_27, .int ia0_28, .ref ha0_29, .int ia0_30, .int ia0_31, .int ia0_32, .ref ha0_33, .ref ha0_34, .ref ha0_35, .int ia0_36, .int ia0_37]))])) (vp_Si (fun r => 0 ≤ r.toInt ∧ r.toInt ≤ 1 ∧ (zYn (zOn ia0_10.toInt fa0_4 p1.toInt p2.toInt) r.toInt))) 0 0 (fun _ => False) := by
  refine Met.ofW (cc := cX12_isOnStage) (maxL := 4) (ret := (some .boolean)) (by decide) rfl ?_
  intro p e s m args below meth c s₁ B hml hv
  obtain ⟨rfl, hP, hZ⟩ := hv
  obtain ⟨hK, hAO, hN⟩ := id hZ
  have hx := B.exec
  have hb := B.bytes
  have hr := B.returns
  have hts := atoms_spec (ws := vsX12_isOnStage) B.pre
  have hown : s.vm.findClass RX12 = some m.cls := findClass_of_methodNamed B.named
  have hlocks := B.notSynchronized
  have hp1l := z_lo p1
  have hp1h := z_hi p1
  have hl := lv_entry ([.ref ha0, .int p1, .int p2]) (n := 4) (Nat.le_of_ble_eq_true rfl)
  rw [lg_entry_eq]
  generalize (lg_sl ([.ref ha0, .int p1, .int p2]) ++ List.replicate (4 - (lg_sl ([.ref ha0, .int p1, .int p2])).length) Slot.unset).toArray = ls at hl ⊢
  have hl : lv_has ls 4 [(0, .ref ha0), (1, .int p1), (2, .int p2)] := hl
  refine lv_aload_n hx hb dX12_isOnStage_0 rfl (lv_at hl 0 rfl) ?_
  refine lv_iload_n hx hb dX12_isOnStage_1 rfl (lv_at hl 1 rfl) ?_
  refine z_rdi (va_runV (As := [.int p1]) (rest := []) ⟨hx, hb, hml, hown, hts⟩ (rX12_linesOf l dC dI cI cQ ha0 ha0_4 ha0_0 ha0_1 ha0_2 ha0_3 ha0_5 ha0_6 ha0_7 ha0_8 ha0_16 ha0_17 ha0_18 ha0_19 ha0_23 ha0_29 ha0_33 ha0_34 ha0_35 fa0_4 hBfa0_4 ia0_9 hia0_9l hia0_9h ia0_10 hia0_10l hia0_10h ia0_11 ia0_12 ia0_13 ia0_14 hia0_14l hia0_14h ia0_15 ia0_20 hia0_20l hia0_20h ia0_21 hia0_21l hia0_21h ia0_22 hia0_22l hia0_22h ia0_24 hia0_24l hia0_24h ia0_25 hia0_25l hia0_25h ia0_26 hia0_26l hia0_26h ia0_27 hia0_27l hia0_27h ia0_28 ia0_30 hia0_30l hia0_30h ia0_31 ia0_32 hia0_32l hia0_32h ia0_36 hia0_36l hia0_36h ia0_37 p1) (cwV 1 hts gv_X12_isOnStage_X12_linesOf_166 rfl rfl rfl (by decide +kernel) ⟨Nat.le_of_ble_eq_true rfl, Nat.le_of_ble_eq_true rfl⟩) ⟨z_blindR, va_recv hK hP (ci := 12) (q0 := 1) rfl rfl, z_preR hZ hP [0, 1] rfl⟩ rfl rfl hl.1 rfl (lv_room (Nat.le_of_ble_eq_true rfl)) dX12_isOnStage_2 ⟨Nat.le_of_ble_eq_true rfl, Nat.le_of_ble_eq_true rfl⟩) (fun y1 hy1 => ?_)
  obtain ⟨hy1_0, hy1_1, hy1_2⟩ := hy1
  refine lv_istore_n (lv' := [(3, .int y1), (0, .ref ha0), (1, .int p1), (2, .int p2)]) hx hb dX12_isOnStage_5 rfl hl (by decide) rfl (fun ls hl => ?_)
  refine lv_iload_n hx hb dX12_isOnStage_6 rfl (lv_at hl 0 rfl) ?_
  refine lv_iconst (v := 1) hx hb dX12_isOnStage_7 (by decide) ?_
  refine lv_iload_n hx hb dX12_isOnStage_8 rfl (lv_at hl 3 rfl) ?_
  refine lv_iconst (v := 1) hx hb dX12_isOnStage_9 (by decide) ?_
  refine lv_iadd hx hb dX12_isOnStage_10 ?_
  refine lv_topi (fun y2 ey2 => ?_)
  have hy2 : y2.toInt = p2.toInt + 1 := by rw [ey2]; exact z_add rfl (by decide) (by omega) (by omega)
  refine lv_ishl hx hb dX12_isOnStage_11 ?_
  refine lv_topi (fun y3 ey3 => ?_)
  refine lv_iconst (v := 1) hx hb dX12_isOnStage_12 (by decide) ?_
  refine lv_isub hx hb dX12_isOnStage_13 ?_
  refine lv_topi (fun y4 ey4 => ?_)
  refine lv_iand hx hb dX12_isOnStage_14 ?_
  refine lv_topi (fun y5 ey5 => ?_)
  refine lv_if_eq (tgt := 28) hx hb dX12_isOnStage_15 (by decide) (fun hc => ?_) (fun hc => ?_)
  · have q6 : y5.toInt = 0 := z_eq rfl (by decide) hc
    refine lv_iconst (v := 0) hx hb dX12_isOnStage_28 (by decide) ?_
    exact W.zret (v := 0) hx hb hr (rfl) (fun t ht hW => ⟨0, rfl, ⟨by first | decide | omega, by first | decide | omega, (by have q := z_onR (s := (y1 >>> (p2 &&& 31))) hy1_2 (by omega) (by omega) (by omega) (by omega : (y2 : Int32).toInt = p2.toInt + 1) ey3 ey4 ey5 rfl; exact Or.inr ⟨by decide, fun w => (q.mp w).1 (by omega)⟩)⟩, ht⟩) (fun _ h => absurd h List.not_mem_nil) dX12_isOnStage_29
  · have q7 : y5.toInt ≠ 0 := z_ne rfl (by decide) hc
    refine lv_iload_n hx hb dX12_isOnStage_18 rfl (lv_at hl 0 rfl) ?_
    refine lv_iload_n hx hb dX12_isOnStage_19 rfl (lv_at hl 3 rfl) ?_
    refine lv_ishr hx hb dX12_isOnStage_20 ?_
    refine lv_topi (fun y8 ey8 => ?_)
    refine lv_if_eq (tgt := 28) hx hb dX12_isOnStage_21 (by decide) (fun hc => ?_) (fun hc => ?_)
    · have q9 : y8.toInt = 0 := z_eq rfl (by decide) hc
      refine lv_iconst (v := 0) hx hb dX12_isOnStage_28 (by decide) ?_
      exact W.zret (v := 0) hx hb hr (rfl) (fun t ht hW => ⟨0, rfl, ⟨by first | decide | omega, by first | decide | omega, (by have q := z_onR (s := y8) hy1_2 (by omega) (by omega) (by omega) (by omega : (y2 : Int32).toInt = p2.toInt + 1) ey3 ey4 ey5 ey8; exact Or.inr ⟨by decide, fun w => (q.mp w).2 (by omega)⟩)⟩, ht⟩) (fun _ h => absurd h List.not_mem_nil) dX12_isOnStage_29
    · have q10 : y8.toInt ≠ 0 := z_ne rfl (by decide) hc
      refine lv_iconst (v := 1) hx hb dX12_isOnStage_24 (by decide) ?_
      refine lv_goto (tgt := 29) hx hb dX12_isOnStage_25 (by decide) ?_
      exact W.zret (v := 1) hx hb hr (rfl) (fun t ht hW => ⟨1, rfl, ⟨by first | decide | omega, by first | decide | omega, (by have q := z_onR (s := y8) hy1_2 (by omega) (by omega) (by omega) (by omega : (y2 : Int32).toInt = p2.toInt + 1) ey3 ey4 ey5 ey8; exact Or.inl ⟨by decide, q.mpr ⟨by omega, by omega⟩⟩)⟩, ht⟩) (fun _ h => absurd h List.not_mem_nil) dX12_isOnStage_29
set_option maxRecDepth 20000 in
theorem edX12_notBooks_0 : decode cX12_notBooks 0 = .ok (.aload_n 0, 1) ∧ decode cX12_notBooks 1 = .ok (.getfield 79, 3) ∧ decode cX12_notBooks 4 = .ok (.ifCond .ne 8, 3) ∧ decode cX12_notBooks 7 = .ok (.bipush (-3), 2) ∧ decode cX12_notBooks 9 = .ok (.goto 18, 3) ∧ decode cX12_notBooks 12 = .ok (.aload_n 0, 1) ∧ decode cX12_notBooks 13 = .ok (.getfield 79, 3) ∧ decode cX12_notBooks 16 = .ok (.bipush 7, 2) ∧ decode cX12_notBooks 18 = .ok (.if_icmp .le 8, 3) ∧ decode cX12_notBooks 21 = .ok (.bipush (-6), 2) ∧ decode cX12_notBooks 23 = .ok (.goto 4, 3) ∧ decode cX12_notBooks 26 = .ok (.iconst 0, 1) := by decide +kernel
theorem dX12_notBooks_0 : decode cX12_notBooks 0 = .ok (.aload_n 0, 1) := edX12_notBooks_0.1
theorem dX12_notBooks_1 : decode cX12_notBooks 1 = .ok (.getfield 79, 3) := edX12_notBooks_0.2.1
theorem dX12_notBooks_4 : decode cX12_notBooks 4 = .ok (.ifCond .ne 8, 3) := edX12_notBooks_0.2.2.1
theorem dX12_notBooks_7 : decode cX12_notBooks 7 = .ok (.bipush (-3), 2) := edX12_notBooks_0.2.2.2.1
theorem dX12_notBooks_9 : decode cX12_notBooks 9 = .ok (.goto 18, 3) := edX12_notBooks_0.2.2.2.2.1
theorem dX12_notBooks_12 : decode cX12_notBooks 12 = .ok (.aload_n 0, 1) := edX12_notBooks_0.2.2.2.2.2.1
theorem dX12_notBooks_13 : decode cX12_notBooks 13 = .ok (.getfield 79, 3) := edX12_notBooks_0.2.2.2.2.2.2.1
theorem dX12_notBooks_16 : decode cX12_notBooks 16 = .ok (.bipush 7, 2) := edX12_notBooks_0.2.2.2.2.2.2.2.1
theorem dX12_notBooks_18 : decode cX12_notBooks 18 = .ok (.if_icmp .le 8, 3) := edX12_notBooks_0.2.2.2.2.2.2.2.2.1
theorem dX12_notBooks_21 : decode cX12_notBooks 21 = .ok (.bipush (-6), 2) := edX12_notBooks_0.2.2.2.2.2.2.2.2.2.1
theorem dX12_notBooks_23 : decode cX12_notBooks 23 = .ok (.goto 4, 3) := edX12_notBooks_0.2.2.2.2.2.2.2.2.2.2.1
theorem dX12_notBooks_26 : decode cX12_notBooks 26 = .ok (.iconst 0, 1) := edX12_notBooks_0.2.2.2.2.2.2.2.2.2.2.2
theorem dX12_notBooks_27 : decode cX12_notBooks 27 = .ok (.ireturn, 1) := by decide +kernel
noncomputable def voX12_notBooks : List Cond := [.fieldLink RX12 79 "EachOnHisCueModel" "lines" "I"]
noncomputable def vsX12_notBooks : List Cond := .code yX12_notBooks cX12_notBooks 1 (some .int) :: (voX12_notBooks ++ (wsX120))
theorem zgX12_notBooks : zGd vsX12_notBooks := z_gdC rfl (z_gdA (z_gdO (by decide +kernel) : zGd voX12_notBooks) (zgX12))
theorem in_X12_notBooks_X12 : ∀ w ∈ wsX120, w ∈ vsX12_notBooks := fun _ h => List.mem_cons_of_mem _ (List.mem_append_right _ (h))
set_option maxHeartbeats 4000000 in
set_option maxRecDepth 100000 in
theorem rX12_notBooks (l : Launch) (dC : Nat → ClassId) (dI : Nat → Nat → Nat) (cI cQ : ClassId) (ha0 ha0_0 ha0_1 ha0_2 ha0_3 ha0_4 ha0_5 ha0_6 ha0_7 ha0_8 ha0_16 ha0_17 ha0_18 ha0_19 ha0_23 ha0_29 ha0_33 ha0_34 ha0_35 : Nat) (ia0_9 : Int32) (hia0_9l : 0 ≤ ia0_9.toInt) (hia0_9h : ia0_9.toInt ≤ 5) (ia0_10 : Int32) (hia0_10l : 0 ≤ ia0_10.toInt) (hia0_10h : ia0_10.toInt ≤ 12) (ia0_11 : Int32) (ia0_12 : Int32) (ia0_13 : Int32) (ia0_14 : Int32) (hia0_14l : (-9) ≤ ia0_14.toInt) (hia0_14h : ia0_14.toInt ≤ 11) (ia0_15 : Int32) (ia0_20 : Int32) (hia0_20l : 0 ≤ ia0_20.toInt) (hia0_20h : ia0_20.toInt ≤ 80) (ia0_21 : Int32) (hia0_21l : 0 ≤ ia0_21.toInt) (hia0_21h : ia0_21.toInt ≤ 80) (ia0_22 : Int32) (hia0_22l : 0 ≤ ia0_22.toInt) (hia0_22h : ia0_22.toInt ≤ 40) (ia0_24 : Int32) (hia0_24l : 0 ≤ ia0_24.toInt) (hia0_24h : ia0_24.toInt ≤ 1) (ia0_25 : Int32) (hia0_25l : 0 ≤ ia0_25.toInt) (hia0_25h : ia0_25.toInt ≤ 1) (ia0_26 : Int32) (hia0_26l : 0 ≤ ia0_26.toInt) (hia0_26h : ia0_26.toInt ≤ 300) (ia0_27 : Int32) (hia0_27l : (-9) ≤ ia0_27.toInt) (hia0_27h : ia0_27.toInt ≤ 11) (ia0_28 : Int32) (ia0_30 : Int32) (hia0_30l : 0 ≤ ia0_30.toInt) (hia0_30h : ia0_30.toInt ≤ 60) (ia0_31 : Int32) (ia0_32 : Int32) (hia0_32l : 0 ≤ ia0_32.toInt) (hia0_32h : ia0_32.toInt ≤ 1) (ia0_36 : Int32) (hia0_36l : 0 ≤ ia0_36.toInt) (hia0_36h : ia0_36.toInt ≤ 12) (ia0_37 : Int32) : Met l yX12_notBooks vsX12_notBooks ({ frames := 0, cells := 0, slots := 0, locals := 0 }) (va_Pc [.ref ha0] (zRB dC dI cI cQ [(ha0, .inr (12, [.ref ha0_0, .ref ha0_1, .ref ha0_2, .ref ha0_3, .ref ha0_4, .ref ha0_5, .ref ha0_6, .ref ha0_7, .ref ha0_8, .int ia0_9, .int ia0_10, .int ia0_11, .int ia0_12, .int ia0_13, .int ia0_14, .int ia0_15, .ref ha0_16, .ref ha0_17, .ref ha0_18, .ref ha0_19, .int ia0_20, .int ia0_21, .int ia0_22, .ref ha0_23, .int ia0_24, .int ia0_25, .int ia0_26, .int ia0_27, .int ia0_28, .ref ha0_29, .int ia0_30, .int ia0_31, .int ia0_32, .ref ha0_33, .ref ha0_34, .ref ha0_35, .int ia0_36, .int ia0_37]))])) (vp_Si (fun r => (-6) ≤ r.toInt ∧ r.toInt ≤ 0)) 0 0 (fun _ => False) := by
  refine Met.ofW (cc := cX12_notBooks) (maxL := 1) (ret := (some .int)) (by decide) rfl ?_
  intro p e s m args below meth c s₁ B hml hv
  obtain ⟨rfl, hP, hZ⟩ := hv
  obtain ⟨hK, hAO, hN⟩ := id hZ
  have hx := B.exec
  have hb := B.bytes
  have hr := B.returns
  have hts := atoms_spec (ws := vsX12_notBooks) B.pre
  have hown : s.vm.findClass RX12 = some m.cls := findClass_of_methodNamed B.named
  have hlocks := B.notSynchronized
  have hl := lv_entry ([.ref ha0]) (n := 1) (Nat.le_of_ble_eq_true rfl)
  rw [lg_entry_eq]
  generalize (lg_sl ([.ref ha0]) ++ List.replicate (1 - (lg_sl ([.ref ha0])).length) Slot.unset).toArray = ls at hl ⊢
  have hl : lv_has ls 1 [(0, .ref ha0)] := hl
  refine lv_aload_n hx hb dX12_notBooks_0 rfl (lv_at hl 0 rfl) ?_
  refine va_get (D := (dC, dI)) (ci := 12) (v := .int ia0_10) (C := RX12) (T := TX12) (N := 38) hx hb hts in_X12_notBooks_X12 hown hK hP 0 rfl rfl 10 (by decide) (hts (.fieldLink RX12 79 "EachOnHisCueModel" "lines" "I") (by decide +kernel)) (fun _ h9 => h9) rfl dX12_notBooks_1 ?_
  refine lv_if_ne (tgt := 12) hx hb dX12_notBooks_4 (by decide) (fun hc => ?_) (fun hc => ?_)
  · have q1 : ia0_10.toInt ≠ 0 := z_ne rfl (by decide) hc
    refine lv_aload_n hx hb dX12_notBooks_12 rfl (lv_at hl 0 rfl) ?_
    refine va_get (D := (dC, dI)) (ci := 12) (v := .int ia0_10) (C := RX12) (T := TX12) (N := 38) hx hb hts in_X12_notBooks_X12 hown hK hP 0 rfl rfl 10 (by decide) (hts (.fieldLink RX12 79 "EachOnHisCueModel" "lines" "I") (by decide +kernel)) (fun _ h9 => h9) rfl dX12_notBooks_13 ?_
    refine lv_bipush (v := 7) hx hb dX12_notBooks_16 (by decide) ?_
    refine lv_icmp_le (tgt := 26) hx hb dX12_notBooks_18 (by decide) (fun hc => ?_) (fun hc => ?_)
    · have q2 : ia0_10.toInt ≤ 7 := z_le rfl (by decide) hc
      refine lv_iconst (v := 0) hx hb dX12_notBooks_26 (by decide) ?_
      exact W.iret (v := 0) hx hb hr (fun t ht hW => ⟨0, rfl, ⟨by first | decide | omega, by first | decide | omega⟩, ht⟩) (fun _ h => absurd h List.not_mem_nil) dX12_notBooks_27
    · have q3 : 7 < ia0_10.toInt := z_nle rfl (by decide) hc
      refine lv_bipush (v := (-6)) hx hb dX12_notBooks_21 (by decide) ?_
      refine lv_goto (tgt := 27) hx hb dX12_notBooks_23 (by decide) ?_
      exact W.iret (v := (-6)) hx hb hr (fun t ht hW => ⟨(-6), rfl, ⟨by first | decide | omega, by first | decide | omega⟩, ht⟩) (fun _ h => absurd h List.not_mem_nil) dX12_notBooks_27
  · have q4 : ia0_10.toInt = 0 := z_eq rfl (by decide) hc
    refine lv_bipush (v := (-3)) hx hb dX12_notBooks_7 (by decide) ?_
    refine lv_goto (tgt := 27) hx hb dX12_notBooks_9 (by decide) ?_
    exact W.iret (v := (-3)) hx hb hr (fun t ht hW => ⟨(-3), rfl, ⟨by first | decide | omega, by first | decide | omega⟩, ht⟩) (fun _ h => absurd h List.not_mem_nil) dX12_notBooks_27
set_option maxRecDepth 20000 in
theorem edX12_words_0 : decode cX12_words 0 = .ok (.iconst 0, 1) ∧ decode cX12_words 1 = .ok (.istore_n 1, 1) ∧ decode cX12_words 2 = .ok (.iconst 0, 1) ∧ decode cX12_words 3 = .ok (.istore_n 2, 1) ∧ decode cX12_words 4 = .ok (.iload_n 2, 1) ∧ decode cX12_words 5 = .ok (.aload_n 0, 1) ∧ decode cX12_words 6 = .ok (.getfield 79, 3) ∧ decode cX12_words 9 = .ok (.if_icmp .ge 18, 3) ∧ decode cX12_words 12 = .ok (.iload_n 1, 1) ∧ decode cX12_words 13 = .ok (.aload_n 0, 1) ∧ decode cX12_words 14 = .ok (.getfield 25, 3) ∧ decode cX12_words 17 = .ok (.iload_n 2, 1) := by decide +kernel
theorem dX12_words_0 : decode cX12_words 0 = .ok (.iconst 0, 1) := edX12_words_0.1
theorem dX12_words_1 : decode cX12_words 1 = .ok (.istore_n 1, 1) := edX12_words_0.2.1
theorem dX12_words_2 : decode cX12_words 2 = .ok (.iconst 0, 1) := edX12_words_0.2.2.1
theorem dX12_words_3 : decode cX12_words 3 = .ok (.istore_n 2, 1) := edX12_words_0.2.2.2.1
theorem dX12_words_4 : decode cX12_words 4 = .ok (.iload_n 2, 1) := edX12_words_0.2.2.2.2.1
theorem dX12_words_5 : decode cX12_words 5 = .ok (.aload_n 0, 1) := edX12_words_0.2.2.2.2.2.1
theorem dX12_words_6 : decode cX12_words 6 = .ok (.getfield 79, 3) := edX12_words_0.2.2.2.2.2.2.1
theorem dX12_words_9 : decode cX12_words 9 = .ok (.if_icmp .ge 18, 3) := edX12_words_0.2.2.2.2.2.2.2.1
theorem dX12_words_12 : decode cX12_words 12 = .ok (.iload_n 1, 1) := edX12_words_0.2.2.2.2.2.2.2.2.1
theorem dX12_words_13 : decode cX12_words 13 = .ok (.aload_n 0, 1) := edX12_words_0.2.2.2.2.2.2.2.2.2.1
theorem dX12_words_14 : decode cX12_words 14 = .ok (.getfield 25, 3) := edX12_words_0.2.2.2.2.2.2.2.2.2.2.1
theorem dX12_words_17 : decode cX12_words 17 = .ok (.iload_n 2, 1) := edX12_words_0.2.2.2.2.2.2.2.2.2.2.2
set_option maxRecDepth 20000 in
theorem edX12_words_18 : decode cX12_words 18 = .ok (.iaload, 1) ∧ decode cX12_words 19 = .ok (.iadd, 1) ∧ decode cX12_words 20 = .ok (.istore_n 1, 1) ∧ decode cX12_words 21 = .ok (.iinc 2 1, 3) ∧ decode cX12_words 24 = .ok (.goto (-20), 3) ∧ decode cX12_words 27 = .ok (.iload_n 1, 1) ∧ decode cX12_words 28 = .ok (.ireturn, 1) := by decide +kernel
theorem dX12_words_18 : decode cX12_words 18 = .ok (.iaload, 1) := edX12_words_18.1
theorem dX12_words_19 : decode cX12_words 19 = .ok (.iadd, 1) := edX12_words_18.2.1
theorem dX12_words_20 : decode cX12_words 20 = .ok (.istore_n 1, 1) := edX12_words_18.2.2.1
theorem dX12_words_21 : decode cX12_words 21 = .ok (.iinc 2 1, 3) := edX12_words_18.2.2.2.1
theorem dX12_words_24 : decode cX12_words 24 = .ok (.goto (-20), 3) := edX12_words_18.2.2.2.2.1
theorem dX12_words_27 : decode cX12_words 27 = .ok (.iload_n 1, 1) := edX12_words_18.2.2.2.2.2.1
theorem dX12_words_28 : decode cX12_words 28 = .ok (.ireturn, 1) := edX12_words_18.2.2.2.2.2.2
noncomputable def voX12_words : List Cond := [.fieldLink RX12 79 "EachOnHisCueModel" "lines" "I", .fieldLink RX12 25 "EachOnHisCueModel" "many" "[I"]
noncomputable def vsX12_words : List Cond := .code yX12_words cX12_words 3 (some .int) :: (voX12_words ++ (wsX120))
theorem zgX12_words : zGd vsX12_words := z_gdC rfl (z_gdA (z_gdO (by decide +kernel) : zGd voX12_words) (zgX12))
theorem in_X12_words_X12 : ∀ w ∈ wsX120, w ∈ vsX12_words := fun _ h => List.mem_cons_of_mem _ (List.mem_append_right _ (h))
set_option maxHeartbeats 4000000 in
set_option maxRecDepth 100000 in
theorem rX12_words (l : Launch) (dC : Nat → ClassId) (dI : Nat → Nat → Nat) (cI cQ : ClassId) (ha0 ha0_5 ha0_0 ha0_1 ha0_2 ha0_3 ha0_4 ha0_6 ha0_7 ha0_8 ha0_16 ha0_17 ha0_18 ha0_19 ha0_23 ha0_29 ha0_33 ha0_34 ha0_35 : Nat) (fa0_5 : Nat → Int32) (hBfa0_5 : ∀ k, 0 ≤ (fa0_5 k).toInt ∧ (fa0_5 k).toInt ≤ 4) (ia0_9 : Int32) (hia0_9l : 0 ≤ ia0_9.toInt) (hia0_9h : ia0_9.toInt ≤ 5) (ia0_10 : Int32) (hia0_10l : 0 ≤ ia0_10.toInt) (hia0_10h : ia0_10.toInt ≤ 12) (ia0_11 : Int32) (ia0_12 : Int32) (ia0_13 : Int32) (ia0_14 : Int32) (hia0_14l : (-9) ≤ ia0_14.toInt) (hia0_14h : ia0_14.toInt ≤ 11) (ia0_15 : Int32) (ia0_20 : Int32) (hia0_20l : 0 ≤ ia0_20.toInt) (hia0_20h : ia0_20.toInt ≤ 80) (ia0_21 : Int32) (hia0_21l : 0 ≤ ia0_21.toInt) (hia0_21h : ia0_21.toInt ≤ 80) (ia0_22 : Int32) (hia0_22l : 0 ≤ ia0_22.toInt) (hia0_22h : ia0_22.toInt ≤ 40) (ia0_24 : Int32) (hia0_24l : 0 ≤ ia0_24.toInt) (hia0_24h : ia0_24.toInt ≤ 1) (ia0_25 : Int32) (hia0_25l : 0 ≤ ia0_25.toInt) (hia0_25h : ia0_25.toInt ≤ 1) (ia0_26 : Int32) (hia0_26l : 0 ≤ ia0_26.toInt) (hia0_26h : ia0_26.toInt ≤ 300) (ia0_27 : Int32) (hia0_27l : (-9) ≤ ia0_27.toInt) (hia0_27h : ia0_27.toInt ≤ 11) (ia0_28 : Int32) (ia0_30 : Int32) (hia0_30l : 0 ≤ ia0_30.toInt) (hia0_30h : ia0_30.toInt ≤ 60) (ia0_31 : Int32) (ia0_32 : Int32) (hia0_32l : 0 ≤ ia0_32.toInt) (hia0_32h : ia0_32.toInt ≤ 1) (ia0_36 : Int32) (hia0_36l : 0 ≤ ia0_36.toInt) (hia0_36h : ia0_36.toInt ≤ 12) (ia0_37 : Int32) : Met l yX12_words vsX12_words ({ frames := 0, cells := 0, slots := 0, locals := 0 }) (va_Pc [.ref ha0] (zRB dC dI cI cQ [(ha0_5, .inl (cI, 12, .inl fa0_5)), (ha0, .inr (12, [.ref ha0_0, .ref ha0_1, .ref ha0_2, .ref ha0_3, .ref ha0_4, .ref ha0_5, .ref ha0_6, .ref ha0_7, .ref ha0_8, .int ia0_9, .int ia0_10, .int ia0_11, .int ia0_12, .int ia0_13, .int ia0_14, .int ia0_15, .ref ha0_16, .ref ha0_17, .ref ha0_18, .ref ha0_19, .int ia0_20, .int ia0_21, .int ia0_22, .ref ha0_23, .int ia0_24, .int ia0_25, .int ia0_26, .int ia0_27, .int ia0_28, .ref ha0_29, .int ia0_30, .int ia0_31, .int ia0_32, .ref ha0_33, .ref ha0_34, .ref ha0_35, .int ia0_36, .int ia0_37]))])) (vp_Si (fun r => (-2147483648) ≤ r.toInt ∧ r.toInt ≤ 2147483647)) 0 0 (fun _ => False) := by
  refine Met.ofW (cc := cX12_words) (maxL := 3) (ret := (some .int)) (by decide) rfl ?_
  intro p e s m args below meth c s₁ B hml hv
  obtain ⟨rfl, hP, hZ⟩ := hv
  obtain ⟨hK, hAO, hN⟩ := id hZ
  have hx := B.exec
  have hb := B.bytes
  have hr := B.returns
  have hts := atoms_spec (ws := vsX12_words) B.pre
  have hown : s.vm.findClass RX12 = some m.cls := findClass_of_methodNamed B.named
  have hlocks := B.notSynchronized
  have hl := lv_entry ([.ref ha0]) (n := 3) (Nat.le_of_ble_eq_true rfl)
  rw [lg_entry_eq]
  generalize (lg_sl ([.ref ha0]) ++ List.replicate (3 - (lg_sl ([.ref ha0])).length) Slot.unset).toArray = ls at hl ⊢
  have hl : lv_has ls 3 [(0, .ref ha0)] := hl
  refine lv_iconst (v := 0) hx hb dX12_words_0 (by decide) ?_
  refine lv_istore_n (lv' := [(1, .int 0), (0, .ref ha0)]) hx hb dX12_words_1 rfl hl (by decide) rfl (fun ls hl => ?_)
  refine lv_iconst (v := 0) hx hb dX12_words_2 (by decide) ?_
  refine lv_istore_n (lv' := [(2, .int 0), (1, .int 0), (0, .ref ha0)]) hx hb dX12_words_3 rfl hl (by decide) rfl (fun ls hl => ?_)
  have hL78 : ∀ (n : Nat) (v1 : Int32) (v2 : Int32) (ls : Array Slot), 0 ≤ v1.toInt → v1.toInt ≤ 12 → (12 - v1.toInt).toNat < n → lv_has ls 3 [(2, .int v1), (1, .int v2), (0, .ref ha0)] → W p l e (headSpec vsX12_words ({ frames := 0, cells := 0, slots := 0, locals := 0 })).room s m ([.ref ha0] : List Value).toArray below meth c s.heap [] 0 0 (MQ below (vp_Si (fun r => (-2147483648) ≤ r.toInt ∧ r.toInt ≤ 2147483647)) ([.ref ha0] : List Value).toArray s 0 0 (fun _ => False)) (F0 m 4 ls []) := by
    intro n
    induction n with
    | zero =>
      intro v1 v2 ls hi79_0 hi79_1 hi79_m hl
      exact absurd hi79_m (Nat.not_lt_zero _)
    | succ n ih =>
      intro v1 v2 ls hi79_0 hi79_1 hi79_m hl
      have ih80 := ih
      refine lv_iload_n hx hb dX12_words_4 rfl (lv_at hl 0 rfl) ?_
      refine lv_aload_n hx hb dX12_words_5 rfl (lv_at hl 2 rfl) ?_
      refine va_get (D := (dC, dI)) (ci := 12) (v := .int ia0_10) (C := RX12) (T := TX12) (N := 38) hx hb hts in_X12_words_X12 hown hK hP 1 rfl rfl 10 (by decide) (hts (.fieldLink RX12 79 "EachOnHisCueModel" "lines" "I") (by decide +kernel)) (fun _ h9 => h9) rfl dX12_words_6 ?_
      refine lv_icmp_ge (tgt := 27) hx hb dX12_words_9 (by decide) (fun hc => ?_) (fun hc => ?_)
      · have q81 : ia0_10.toInt ≤ v1.toInt := z_le rfl rfl hc
        refine lv_iload_n hx hb dX12_words_27 rfl (lv_at hl 1 rfl) ?_
        exact W.iret (v := v2) hx hb hr (fun t ht hW => ⟨v2, rfl, ⟨z_lo _, z_hi _⟩, ht⟩) (fun _ h => absurd h List.not_mem_nil) dX12_words_28
      · have q82 : v1.toInt < ia0_10.toInt := z_nle rfl rfl hc
        refine lv_iload_n hx hb dX12_words_12 rfl (lv_at hl 1 rfl) ?_
        refine lv_aload_n hx hb dX12_words_13 rfl (lv_at hl 2 rfl) ?_
        refine va_get (D := (dC, dI)) (ci := 12) (v := .ref ha0_5) (C := RX12) (T := TX12) (N := 38) hx hb hts in_X12_words_X12 hown hK hP 1 rfl rfl 5 (by decide) (hts (.fieldLink RX12 25 "EachOnHisCueModel" "many" "[I") (by decide +kernel)) (fun _ h9 => h9) rfl dX12_words_14 ?_
        refine lv_iload_n hx hb dX12_words_17 rfl (lv_at hl 0 rfl) ?_
        refine va_iald hx hb hK hP 0 0 rfl rfl (z_in (by omega) (by omega)) dX12_words_18 ?_
        refine lv_topi (fun y83 ey83 => ?_)
        have gy83 : y83.toInt = (fa0_5 (v1 : Int32).toNatClampNeg).toInt := by rw [ey83]
        have hy83 : 0 ≤ y83.toInt ∧ y83.toInt ≤ 4 := by rw [ey83]; exact hBfa0_5 _
        obtain ⟨hy83, hy83_⟩ := hy83
        refine lv_iadd hx hb dX12_words_19 ?_
        refine lv_topi (fun y84 ey84 => ?_)
        refine lv_istore_n (lv' := [(1, .int y84), (2, .int v1), (0, .ref ha0)]) hx hb dX12_words_20 rfl hl (by decide) rfl (fun ls hl => ?_)
        obtain ⟨y85, ey85⟩ : ∃ y : Int32, y = v1 + 1 := ⟨_, rfl⟩
        refine lv_iinc (v := y85) (lv' := [(2, .int y85), (1, .int y84), (0, .ref ha0)]) hx hb dX12_words_21 hl (k := 1) rfl (by rw [ey85]; rfl) (by decide) rfl (fun ls hl => ?_)
        have hy85 : y85.toInt = v1.toInt + 1 := by rw [ey85]; exact z_add rfl (by decide) (by omega) (by omega)
        refine lv_goto (tgt := 4) hx hb dX12_words_24 (by decide) ?_
        exact ih80 y85 y84 ls (by first | decide | omega) (by first | decide | omega) (by omega) (lv_sub hl [0, 1, 2] rfl)
  exact hL78 ((12 - (0 : Int32).toInt).toNat + 1) 0 0 ls (by decide) (by decide) (by omega) hl
set_option maxRecDepth 20000 in
theorem edX12_parts_0 : decode cX12_parts 0 = .ok (.iconst 0, 1) ∧ decode cX12_parts 1 = .ok (.istore_n 1, 1) ∧ decode cX12_parts 2 = .ok (.iconst 0, 1) ∧ decode cX12_parts 3 = .ok (.istore_n 2, 1) ∧ decode cX12_parts 4 = .ok (.iload_n 2, 1) ∧ decode cX12_parts 5 = .ok (.aload_n 0, 1) ∧ decode cX12_parts 6 = .ok (.getfield 79, 3) ∧ decode cX12_parts 9 = .ok (.if_icmp .ge 58, 3) ∧ decode cX12_parts 12 = .ok (.iconst 0, 1) ∧ decode cX12_parts 13 = .ok (.istore_n 3, 1) ∧ decode cX12_parts 14 = .ok (.iconst 0, 1) ∧ decode cX12_parts 15 = .ok (.istore 4, 2) := by decide +kernel
theorem dX12_parts_0 : decode cX12_parts 0 = .ok (.iconst 0, 1) := edX12_parts_0.1
theorem dX12_parts_1 : decode cX12_parts 1 = .ok (.istore_n 1, 1) := edX12_parts_0.2.1
theorem dX12_parts_2 : decode cX12_parts 2 = .ok (.iconst 0, 1) := edX12_parts_0.2.2.1
theorem dX12_parts_3 : decode cX12_parts 3 = .ok (.istore_n 2, 1) := edX12_parts_0.2.2.2.1
theorem dX12_parts_4 : decode cX12_parts 4 = .ok (.iload_n 2, 1) := edX12_parts_0.2.2.2.2.1
theorem dX12_parts_5 : decode cX12_parts 5 = .ok (.aload_n 0, 1) := edX12_parts_0.2.2.2.2.2.1
theorem dX12_parts_6 : decode cX12_parts 6 = .ok (.getfield 79, 3) := edX12_parts_0.2.2.2.2.2.2.1
theorem dX12_parts_9 : decode cX12_parts 9 = .ok (.if_icmp .ge 58, 3) := edX12_parts_0.2.2.2.2.2.2.2.1
theorem dX12_parts_12 : decode cX12_parts 12 = .ok (.iconst 0, 1) := edX12_parts_0.2.2.2.2.2.2.2.2.1
theorem dX12_parts_13 : decode cX12_parts 13 = .ok (.istore_n 3, 1) := edX12_parts_0.2.2.2.2.2.2.2.2.2.1
theorem dX12_parts_14 : decode cX12_parts 14 = .ok (.iconst 0, 1) := edX12_parts_0.2.2.2.2.2.2.2.2.2.2.1
theorem dX12_parts_15 : decode cX12_parts 15 = .ok (.istore 4, 2) := edX12_parts_0.2.2.2.2.2.2.2.2.2.2.2
set_option maxRecDepth 20000 in
theorem edX12_parts_17 : decode cX12_parts 17 = .ok (.iload 4, 2) ∧ decode cX12_parts 19 = .ok (.aload_n 0, 1) ∧ decode cX12_parts 20 = .ok (.getfield 76, 3) ∧ decode cX12_parts 23 = .ok (.if_icmp .ge 27, 3) ∧ decode cX12_parts 26 = .ok (.iload_n 3, 1) ∧ decode cX12_parts 27 = .ok (.aload_n 0, 1) ∧ decode cX12_parts 28 = .ok (.iload 4, 2) ∧ decode cX12_parts 30 = .ok (.iload_n 2, 1) ∧ decode cX12_parts 31 = .ok (.invokevirtual 257, 3) ∧ decode cX12_parts 34 = .ok (.ifCond .eq 7, 3) ∧ decode cX12_parts 37 = .ok (.iconst 1, 1) ∧ decode cX12_parts 38 = .ok (.goto 4, 3) := by decide +kernel
theorem dX12_parts_17 : decode cX12_parts 17 = .ok (.iload 4, 2) := edX12_parts_17.1
theorem dX12_parts_19 : decode cX12_parts 19 = .ok (.aload_n 0, 1) := edX12_parts_17.2.1
theorem dX12_parts_20 : decode cX12_parts 20 = .ok (.getfield 76, 3) := edX12_parts_17.2.2.1
theorem dX12_parts_23 : decode cX12_parts 23 = .ok (.if_icmp .ge 27, 3) := edX12_parts_17.2.2.2.1
theorem dX12_parts_26 : decode cX12_parts 26 = .ok (.iload_n 3, 1) := edX12_parts_17.2.2.2.2.1
theorem dX12_parts_27 : decode cX12_parts 27 = .ok (.aload_n 0, 1) := edX12_parts_17.2.2.2.2.2.1
theorem dX12_parts_28 : decode cX12_parts 28 = .ok (.iload 4, 2) := edX12_parts_17.2.2.2.2.2.2.1
theorem dX12_parts_30 : decode cX12_parts 30 = .ok (.iload_n 2, 1) := edX12_parts_17.2.2.2.2.2.2.2.1
theorem dX12_parts_31 : decode cX12_parts 31 = .ok (.invokevirtual 257, 3) := edX12_parts_17.2.2.2.2.2.2.2.2.1
theorem dX12_parts_34 : decode cX12_parts 34 = .ok (.ifCond .eq 7, 3) := edX12_parts_17.2.2.2.2.2.2.2.2.2.1
theorem dX12_parts_37 : decode cX12_parts 37 = .ok (.iconst 1, 1) := edX12_parts_17.2.2.2.2.2.2.2.2.2.2.1
theorem dX12_parts_38 : decode cX12_parts 38 = .ok (.goto 4, 3) := edX12_parts_17.2.2.2.2.2.2.2.2.2.2.2
set_option maxRecDepth 20000 in
theorem edX12_parts_41 : decode cX12_parts 41 = .ok (.iconst 0, 1) ∧ decode cX12_parts 42 = .ok (.iadd, 1) ∧ decode cX12_parts 43 = .ok (.istore_n 3, 1) ∧ decode cX12_parts 44 = .ok (.iinc 4 1, 3) ∧ decode cX12_parts 47 = .ok (.goto (-30), 3) ∧ decode cX12_parts 50 = .ok (.iload_n 3, 1) ∧ decode cX12_parts 51 = .ok (.iload_n 1, 1) ∧ decode cX12_parts 52 = .ok (.if_icmp .le 7, 3) ∧ decode cX12_parts 55 = .ok (.iload_n 3, 1) ∧ decode cX12_parts 56 = .ok (.goto 4, 3) ∧ decode cX12_parts 59 = .ok (.iload_n 1, 1) ∧ decode cX12_parts 60 = .ok (.istore_n 1, 1) := by decide +kernel
theorem dX12_parts_41 : decode cX12_parts 41 = .ok (.iconst 0, 1) := edX12_parts_41.1
theorem dX12_parts_42 : decode cX12_parts 42 = .ok (.iadd, 1) := edX12_parts_41.2.1
theorem dX12_parts_43 : decode cX12_parts 43 = .ok (.istore_n 3, 1) := edX12_parts_41.2.2.1
theorem dX12_parts_44 : decode cX12_parts 44 = .ok (.iinc 4 1, 3) := edX12_parts_41.2.2.2.1
theorem dX12_parts_47 : decode cX12_parts 47 = .ok (.goto (-30), 3) := edX12_parts_41.2.2.2.2.1
theorem dX12_parts_50 : decode cX12_parts 50 = .ok (.iload_n 3, 1) := edX12_parts_41.2.2.2.2.2.1
theorem dX12_parts_51 : decode cX12_parts 51 = .ok (.iload_n 1, 1) := edX12_parts_41.2.2.2.2.2.2.1
theorem dX12_parts_52 : decode cX12_parts 52 = .ok (.if_icmp .le 7, 3) := edX12_parts_41.2.2.2.2.2.2.2.1
theorem dX12_parts_55 : decode cX12_parts 55 = .ok (.iload_n 3, 1) := edX12_parts_41.2.2.2.2.2.2.2.2.1
theorem dX12_parts_56 : decode cX12_parts 56 = .ok (.goto 4, 3) := edX12_parts_41.2.2.2.2.2.2.2.2.2.1
theorem dX12_parts_59 : decode cX12_parts 59 = .ok (.iload_n 1, 1) := edX12_parts_41.2.2.2.2.2.2.2.2.2.2.1
theorem dX12_parts_60 : decode cX12_parts 60 = .ok (.istore_n 1, 1) := edX12_parts_41.2.2.2.2.2.2.2.2.2.2.2
set_option maxRecDepth 20000 in
theorem edX12_parts_61 : decode cX12_parts 61 = .ok (.iinc 2 1, 3) ∧ decode cX12_parts 64 = .ok (.goto (-60), 3) ∧ decode cX12_parts 67 = .ok (.iload_n 1, 1) ∧ decode cX12_parts 68 = .ok (.ireturn, 1) := by decide +kernel
theorem dX12_parts_61 : decode cX12_parts 61 = .ok (.iinc 2 1, 3) := edX12_parts_61.1
theorem dX12_parts_64 : decode cX12_parts 64 = .ok (.goto (-60), 3) := edX12_parts_61.2.1
theorem dX12_parts_67 : decode cX12_parts 67 = .ok (.iload_n 1, 1) := edX12_parts_61.2.2.1
theorem dX12_parts_68 : decode cX12_parts 68 = .ok (.ireturn, 1) := edX12_parts_61.2.2.2
noncomputable def voX12_parts : List Cond := [.fieldLink RX12 79 "EachOnHisCueModel" "lines" "I", .fieldLink RX12 76 "EachOnHisCueModel" "players" "I", .methodLink RX12 257 yX12_isOnStage, .instanceMethod yX12_isOnStage, .selects RX12 yX12_isOnStage yX12_isOnStage, .initialized RX12]
noncomputable def vsX12_parts : List Cond := .code yX12_parts cX12_parts 5 (some .int) :: (voX12_parts ++ (vsX12_isOnStage ++ (wsX120)))
theorem zgX12_parts : zGd vsX12_parts := z_gdC rfl (z_gdA (z_gdO (by decide +kernel) : zGd voX12_parts) (z_gdA zgX12_isOnStage (zgX12)))
theorem in_X12_parts_X12 : ∀ w ∈ wsX120, w ∈ vsX12_parts := fun _ h => List.mem_cons_of_mem _ (List.mem_append_right _ (List.mem_append_right _ (h)))
theorem gw_X12_parts_X12_isOnStage : GoodIn vsX12_parts vsX12_isOnStage := z_gdI (fun _ h => List.mem_cons_of_mem _ (List.mem_append_right _ (List.mem_append_left _ h))) zgX12_isOnStage
set_option maxRecDepth 20000 in
theorem gv_X12_parts_X12_isOnStage_257 : GoodIn vsX12_parts (wsV RX12 257 RX12 yX12_isOnStage vsX12_isOnStage) := goodIn_app (goodIn_of _ (by decide +kernel)) gw_X12_parts_X12_isOnStage
set_option maxHeartbeats 4000000 in
set_option maxRecDepth 100000 in
theorem rX12_parts (l : Launch) (dC : Nat → ClassId) (dI : Nat → Nat → Nat) (cI cQ : ClassId) (ha0 ha0_4 ha0_0 ha0_1 ha0_2 ha0_3 ha0_5 ha0_6 ha0_7 ha0_8 ha0_16 ha0_17 ha0_18 ha0_19 ha0_23 ha0_29 ha0_33 ha0_34 ha0_35 : Nat) (fa0_4 : Nat → Int32) (hBfa0_4 : ∀ k, 0 ≤ (fa0_4 k).toInt ∧ (fa0_4 k).toInt ≤ 4) (ia0_9 : Int32) (hia0_9l : 0 ≤ ia0_9.toInt) (hia0_9h : ia0_9.toInt ≤ 5) (ia0_10 : Int32) (hia0_10l : 0 ≤ ia0_10.toInt) (hia0_10h : ia0_10.toInt ≤ 12) (ia0_11 : Int32) (ia0_12 : Int32) (ia0_13 : Int32) (ia0_14 : Int32) (hia0_14l : (-9) ≤ ia0_14.toInt) (hia0_14h : ia0_14.toInt ≤ 11) (ia0_15 : Int32) (ia0_20 : Int32) (hia0_20l : 0 ≤ ia0_20.toInt) (hia0_20h : ia0_20.toInt ≤ 80) (ia0_21 : Int32) (hia0_21l : 0 ≤ ia0_21.toInt) (hia0_21h : ia0_21.toInt ≤ 80) (ia0_22 : Int32) (hia0_22l : 0 ≤ ia0_22.toInt) (hia0_22h : ia0_22.toInt ≤ 40) (ia0_24 : Int32) (hia0_24l : 0 ≤ ia0_24.toInt) (hia0_24h : ia0_24.toInt ≤ 1) (ia0_25 : Int32) (hia0_25l : 0 ≤ ia0_25.toInt) (hia0_25h : ia0_25.toInt ≤ 1) (ia0_26 : Int32) (hia0_26l : 0 ≤ ia0_26.toInt) (hia0_26h : ia0_26.toInt ≤ 300) (ia0_27 : Int32) (hia0_27l : (-9) ≤ ia0_27.toInt) (hia0_27h : ia0_27.toInt ≤ 11) (ia0_28 : Int32) (ia0_30 : Int32) (hia0_30l : 0 ≤ ia0_30.toInt) (hia0_30h : ia0_30.toInt ≤ 60) (ia0_31 : Int32) (ia0_32 : Int32) (hia0_32l : 0 ≤ ia0_32.toInt) (hia0_32h : ia0_32.toInt ≤ 1) (ia0_36 : Int32) (hia0_36l : 0 ≤ ia0_36.toInt) (hia0_36h : ia0_36.toInt ≤ 12) (ia0_37 : Int32) : Met l yX12_parts vsX12_parts ({ frames := 2, cells := 0, slots := 0, locals := 46 }) (va_Pc [.ref ha0] (zRB dC dI cI cQ [(ha0_4, .inl (cI, 12, .inl fa0_4)), (ha0, .inr (12, [.ref ha0_0, .ref ha0_1, .ref ha0_2, .ref ha0_3, .ref ha0_4, .ref ha0_5, .ref ha0_6, .ref ha0_7, .ref ha0_8, .int ia0_9, .int ia0_10, .int ia0_11, .int ia0_12, .int ia0_13, .int ia0_14, .int ia0_15, .ref ha0_16, .ref ha0_17, .ref ha0_18, .ref ha0_19, .int ia0_20, .int ia0_21, .int ia0_22, .ref ha0_23, .int ia0_24, .int ia0_25, .int ia0_26, .int ia0_27, .int ia0_28, .ref ha0_29, .int ia0_30, .int ia0_31, .int ia0_32, .ref ha0_33, .ref ha0_34, .ref ha0_35, .int ia0_36, .int ia0_37]))])) (vp_Si (fun r => 0 ≤ r.toInt ∧ r.toInt ≤ 5 ∧ (r.toInt = zMx (zOc ia0_9.toInt ia0_10.toInt fa0_4) ia0_10.toInt.toNat))) 0 0 (fun _ => False) := by
  refine Met.ofW (cc := cX12_parts) (maxL := 5) (ret := (some .int)) (by decide) rfl ?_
  intro p e s m args below meth c s₁ B hml hv
  obtain ⟨rfl, hP, hZ⟩ := hv
  obtain ⟨hK, hAO, hN⟩ := id hZ
  have hx := B.exec
  have hb := B.bytes
  have hr := B.returns
  have hts := atoms_spec (ws := vsX12_parts) B.pre
  have hown : s.vm.findClass RX12 = some m.cls := findClass_of_methodNamed B.named
  have hlocks := B.notSynchronized
  have hl := lv_entry ([.ref ha0]) (n := 5) (Nat.le_of_ble_eq_true rfl)
  rw [lg_entry_eq]
  generalize (lg_sl ([.ref ha0]) ++ List.replicate (5 - (lg_sl ([.ref ha0])).length) Slot.unset).toArray = ls at hl ⊢
  have hl : lv_has ls 5 [(0, .ref ha0)] := hl
  refine lv_iconst (v := 0) hx hb dX12_parts_0 (by decide) ?_
  refine lv_istore_n (lv' := [(1, .int 0), (0, .ref ha0)]) hx hb dX12_parts_1 rfl hl (by decide) rfl (fun ls hl => ?_)
  refine lv_iconst (v := 0) hx hb dX12_parts_2 (by decide) ?_
  refine lv_istore_n (lv' := [(2, .int 0), (1, .int 0), (0, .ref ha0)]) hx hb dX12_parts_3 rfl hl (by decide) rfl (fun ls hl => ?_)
  have hL659 : ∀ (n : Nat) (v1 : Int32) (v2 : Int32) (ls : Array Slot), 0 ≤ v1.toInt → v1.toInt ≤ 12 → 0 ≤ v2.toInt → v2.toInt ≤ 5 → ((v2 : Int32).toInt = zMx (zOc ia0_9.toInt ia0_10.toInt fa0_4) (v1 : Int32).toInt.toNat) → ((v1 : Int32).toInt ≤ ia0_10.toInt) → (12 - v1.toInt).toNat < n → lv_has ls 5 [(2, .int v1), (1, .int v2), (0, .ref ha0)] → W p l e (headSpec vsX12_parts ({ frames := 2, cells := 0, slots := 0, locals := 46 })).room s m ([.ref ha0] : List Value).toArray below meth c s.heap [] 0 0 (MQ below (vp_Si (fun r => 0 ≤ r.toInt ∧ r.toInt ≤ 5 ∧ (r.toInt = zMx (zOc ia0_9.toInt ia0_10.toInt fa0_4) ia0_10.toInt.toNat))) ([.ref ha0] : List Value).toArray s 0 0 (fun _ => False)) (F0 m 4 ls []) := by
    intro n
    induction n with
    | zero =>
      intro v1 v2 ls hi660_0 hi660_1 hi660_2 hi660_3 hi660_x0 hi660_x1 hi660_m hl
      exact absurd hi660_m (Nat.not_lt_zero _)
    | succ n ih =>
      intro v1 v2 ls hi660_0 hi660_1 hi660_2 hi660_3 hi660_x0 hi660_x1 hi660_m hl
      have ih661 := ih
      refine lv_iload_n hx hb dX12_parts_4 rfl (lv_at hl 0 rfl) ?_
      refine lv_aload_n hx hb dX12_parts_5 rfl (lv_at hl 2 rfl) ?_
      refine va_get (D := (dC, dI)) (ci := 12) (v := .int ia0_10) (C := RX12) (T := TX12) (N := 38) hx hb hts in_X12_parts_X12 hown hK hP 1 rfl rfl 10 (by decide) (hts (.fieldLink RX12 79 "EachOnHisCueModel" "lines" "I") (by decide +kernel)) (fun _ h9 => h9) rfl dX12_parts_6 ?_
      refine lv_icmp_ge (tgt := 67) hx hb dX12_parts_9 (by decide) (fun hc => ?_) (fun hc => ?_)
      · have q662 : ia0_10.toInt ≤ v1.toInt := z_le rfl rfl hc
        refine lv_iload_n hx hb dX12_parts_67 rfl (lv_at hl 1 rfl) ?_
        exact W.iret (v := v2) hx hb hr (fun t ht hW => ⟨v2, rfl, ⟨by first | decide | omega, by first | decide | omega, (by exact z_mxE (by assumption) (by omega))⟩, ht⟩) (fun _ h => absurd h List.not_mem_nil) dX12_parts_68
      · have q663 : v1.toInt < ia0_10.toInt := z_nle rfl rfl hc
        refine lv_iconst (v := 0) hx hb dX12_parts_12 (by decide) ?_
        refine lv_istore_n (lv' := [(3, .int 0), (2, .int v1), (1, .int v2), (0, .ref ha0)]) hx hb dX12_parts_13 rfl hl (by decide) rfl (fun ls hl => ?_)
        refine lv_iconst (v := 0) hx hb dX12_parts_14 (by decide) ?_
        refine lv_istore (lv' := [(4, .int 0), (3, .int 0), (2, .int v1), (1, .int v2), (0, .ref ha0)]) hx hb dX12_parts_15 hl (by decide) rfl (fun ls hl => ?_)
        have hL731 : ∀ (n : Nat) (v664 : Int32) (v665 : Int32) (ls : Array Slot), 0 ≤ v664.toInt → v664.toInt ≤ 5 → 0 ≤ v665.toInt → v665.toInt ≤ 5 → ((v665 : Int32).toInt = zCt (fun q => zOn ia0_10.toInt fa0_4 (q : Int) (v1 : Int32).toInt) (v664 : Int32).toInt.toNat) → ((v664 : Int32).toInt ≤ ia0_9.toInt) → ((v665 : Int32).toInt ≤ (v664 : Int32).toInt) → (5 - v664.toInt).toNat < n → lv_has ls 5 [(4, .int v664), (3, .int v665), (2, .int v1), (1, .int v2), (0, .ref ha0)] → W p l e (headSpec vsX12_parts ({ frames := 2, cells := 0, slots := 0, locals := 46 })).room s m ([.ref ha0] : List Value).toArray below meth c s.heap [] 0 0 (MQ below (vp_Si (fun r => 0 ≤ r.toInt ∧ r.toInt ≤ 5 ∧ (r.toInt = zMx (zOc ia0_9.toInt ia0_10.toInt fa0_4) ia0_10.toInt.toNat))) ([.ref ha0] : List Value).toArray s 0 0 (fun _ => False)) (F0 m 17 ls []) := by
          intro n
          induction n with
          | zero =>
            intro v664 v665 ls hi732_0 hi732_1 hi732_2 hi732_3 hi732_x0 hi732_x1 hi732_x2 hi732_m hl
            exact absurd hi732_m (Nat.not_lt_zero _)
          | succ n ih =>
            intro v664 v665 ls hi732_0 hi732_1 hi732_2 hi732_3 hi732_x0 hi732_x1 hi732_x2 hi732_m hl
            have ih733 := ih
            refine lv_iload hx hb dX12_parts_17 (lv_at hl 0 rfl) ?_
            refine lv_aload_n hx hb dX12_parts_19 rfl (lv_at hl 4 rfl) ?_
            refine va_get (D := (dC, dI)) (ci := 12) (v := .int ia0_9) (C := RX12) (T := TX12) (N := 38) hx hb hts in_X12_parts_X12 hown hK hP 1 rfl rfl 9 (by decide) (hts (.fieldLink RX12 76 "EachOnHisCueModel" "players" "I") (by decide +kernel)) (fun _ h9 => h9) rfl dX12_parts_20 ?_
            refine lv_icmp_ge (tgt := 50) hx hb dX12_parts_23 (by decide) (fun hc => ?_) (fun hc => ?_)
            · have q734 : ia0_9.toInt ≤ v664.toInt := z_le rfl rfl hc
              refine lv_iload_n hx hb dX12_parts_50 rfl (lv_at hl 1 rfl) ?_
              refine lv_iload_n hx hb dX12_parts_51 rfl (lv_at hl 3 rfl) ?_
              refine lv_icmp_le (tgt := 59) hx hb dX12_parts_52 (by decide) (fun hc => ?_) (fun hc => ?_)
              · have q735 : v665.toInt ≤ v2.toInt := z_le rfl rfl hc
                refine lv_iload_n hx hb dX12_parts_59 rfl (lv_at hl 3 rfl) ?_
                refine lv_istore_n (lv' := [(1, .int v2), (4, .int v664), (3, .int v665), (2, .int v1), (0, .ref ha0)]) hx hb dX12_parts_60 rfl hl (by decide) rfl (fun ls hl => ?_)
                obtain ⟨y736, ey736⟩ : ∃ y : Int32, y = v1 + 1 := ⟨_, rfl⟩
                refine lv_iinc (v := y736) (lv' := [(2, .int y736), (1, .int v2), (4, .int v664), (3, .int v665), (0, .ref ha0)]) hx hb dX12_parts_61 hl (k := 3) rfl (by rw [ey736]; rfl) (by decide) rfl (fun ls hl => ?_)
                have hy736 : y736.toInt = v1.toInt + 1 := by rw [ey736]; exact z_add rfl (by decide) (by omega) (by omega)
                refine lv_goto (tgt := 4) hx hb dX12_parts_64 (by decide) ?_
                exact ih661 y736 v2 ls (by first | decide | omega) (by first | decide | omega) hi660_2 hi660_3 (z_mxS (by assumption) (by omega) (by omega) (z_osE (by assumption) (by omega) (by omega)) (by omega) (by omega) (by omega)) (by have e0 : (0 : Int32).toInt = 0 := (by decide); omega) (by omega) (lv_sub hl [0, 1, 4] rfl)
              · have q737 : v2.toInt < v665.toInt := z_nle rfl rfl hc
                refine lv_iload_n hx hb dX12_parts_55 rfl (lv_at hl 1 rfl) ?_
                refine lv_goto (tgt := 60) hx hb dX12_parts_56 (by decide) ?_
                refine lv_istore_n (lv' := [(1, .int v665), (4, .int v664), (3, .int v665), (2, .int v1), (0, .ref ha0)]) hx hb dX12_parts_60 rfl hl (by decide) rfl (fun ls hl => ?_)
                obtain ⟨y738, ey738⟩ : ∃ y : Int32, y = v1 + 1 := ⟨_, rfl⟩
                refine lv_iinc (v := y738) (lv' := [(2, .int y738), (1, .int v665), (4, .int v664), (3, .int v665), (0, .ref ha0)]) hx hb dX12_parts_61 hl (k := 3) rfl (by rw [ey738]; rfl) (by decide) rfl (fun ls hl => ?_)
                have hy738 : y738.toInt = v1.toInt + 1 := by rw [ey738]; exact z_add rfl (by decide) (by omega) (by omega)
                refine lv_goto (tgt := 4) hx hb dX12_parts_64 (by decide) ?_
                exact ih661 y738 v665 ls (by first | decide | omega) (by first | decide | omega) hi732_2 hi732_3 (z_mxS (by assumption) (by omega) (by omega) (z_osE (by assumption) (by omega) (by omega)) (by omega) (by omega) (by omega)) (by have e0 : (0 : Int32).toInt = 0 := (by decide); omega) (by omega) (lv_sub hl [0, 1, 4] rfl)
            · have q739 : v664.toInt < ia0_9.toInt := z_nle rfl rfl hc
              refine lv_iload_n hx hb dX12_parts_26 rfl (lv_at hl 1 rfl) ?_
              refine lv_aload_n hx hb dX12_parts_27 rfl (lv_at hl 4 rfl) ?_
              refine lv_iload hx hb dX12_parts_28 (lv_at hl 0 rfl) ?_
              refine lv_iload_n hx hb dX12_parts_30 rfl (lv_at hl 2 rfl) ?_
              refine z_rdi (va_runV (As := [.int v664, .int v1]) (rest := [.int v665]) ⟨hx, hb, hml, hown, hts⟩ (rX12_isOnStage l dC dI cI cQ ha0 ha0_4 ha0_0 ha0_1 ha0_2 ha0_3 ha0_5 ha0_6 ha0_7 ha0_8 ha0_16 ha0_17 ha0_18 ha0_19 ha0_23 ha0_29 ha0_33 ha0_34 ha0_35 fa0_4 hBfa0_4 ia0_9 hia0_9l hia0_9h ia0_10 hia0_10l hia0_10h ia0_11 ia0_12 ia0_13 ia0_14 hia0_14l hia0_14h ia0_15 ia0_20 hia0_20l hia0_20h ia0_21 hia0_21l hia0_21h ia0_22 hia0_22l hia0_22h ia0_24 hia0_24l hia0_24h ia0_25 hia0_25l hia0_25h ia0_26 hia0_26l hia0_26h ia0_27 hia0_27l hia0_27h ia0_28 ia0_30 hia0_30l hia0_30h ia0_31 ia0_32 hia0_32l hia0_32h ia0_36 hia0_36l hia0_36h ia0_37 v664 v1 (by first | decide | omega) (by first | decide | omega)) (cwV 2 hts gv_X12_parts_X12_isOnStage_257 rfl rfl rfl (by decide +kernel) ⟨Nat.le_of_ble_eq_true rfl, Nat.le_of_ble_eq_true rfl⟩) ⟨z_blindR, va_recv hK hP (ci := 12) (q0 := 1) rfl rfl, z_preR hZ hP [0, 1] rfl⟩ rfl rfl hl.1 rfl (lv_room (Nat.le_of_ble_eq_true rfl)) dX12_parts_31 ⟨Nat.le_of_ble_eq_true rfl, Nat.le_of_ble_eq_true rfl⟩) (fun y740 hy740 => ?_)
              obtain ⟨hy740_0, hy740_1, hy740_2⟩ := hy740
              refine lv_if_eq (tgt := 41) hx hb dX12_parts_34 (by decide) (fun hc => ?_) (fun hc => ?_)
              · have q741 : y740.toInt = 0 := z_eq rfl (by decide) hc
                refine lv_iconst (v := 0) hx hb dX12_parts_41 (by decide) ?_
                refine lv_iadd hx hb dX12_parts_42 ?_
                refine lv_topi (fun y742 ey742 => ?_)
                have hy742 : y742.toInt = v665.toInt + 0 := by rw [ey742]; exact z_add rfl (by decide) (by omega) (by omega)
                refine lv_istore_n (lv' := [(3, .int y742), (4, .int v664), (2, .int v1), (1, .int v2), (0, .ref ha0)]) hx hb dX12_parts_43 rfl hl (by decide) rfl (fun ls hl => ?_)
                obtain ⟨y743, ey743⟩ : ∃ y : Int32, y = v664 + 1 := ⟨_, rfl⟩
                refine lv_iinc (v := y743) (lv' := [(4, .int y743), (3, .int y742), (2, .int v1), (1, .int v2), (0, .ref ha0)]) hx hb dX12_parts_44 hl (k := 1) rfl (by rw [ey743]; rfl) (by decide) rfl (fun ls hl => ?_)
                have hy743 : y743.toInt = v664.toInt + 1 := by rw [ey743]; exact z_add rfl (by decide) (by omega) (by omega)
                refine lv_goto (tgt := 17) hx hb dX12_parts_47 (by decide) ?_
                exact ih733 y743 y742 ls (by first | decide | omega) (by first | decide | omega) (by first | decide | omega) (by first | decide | omega) (z_osS (by assumption) (by omega) (by omega) hy740_2 (by first | exact Or.inl ⟨by omega, by omega⟩ | exact Or.inr ⟨by omega, by omega⟩)) (by have e0 : (0 : Int32).toInt = 0 := (by decide); omega) (by have e0 : (0 : Int32).toInt = 0 := (by decide); omega) (by omega) (lv_sub hl [0, 1, 2, 3, 4] rfl)
              · have q744 : y740.toInt ≠ 0 := z_ne rfl (by decide) hc
                refine lv_iconst (v := 1) hx hb dX12_parts_37 (by decide) ?_
                refine lv_goto (tgt := 42) hx hb dX12_parts_38 (by decide) ?_
                refine lv_iadd hx hb dX12_parts_42 ?_
                refine lv_topi (fun y745 ey745 => ?_)
                have hy745 : y745.toInt = v665.toInt + 1 := by rw [ey745]; exact z_add rfl (by decide) (by omega) (by omega)
                refine lv_istore_n (lv' := [(3, .int y745), (4, .int v664), (2, .int v1), (1, .int v2), (0, .ref ha0)]) hx hb dX12_parts_43 rfl hl (by decide) rfl (fun ls hl => ?_)
                obtain ⟨y746, ey746⟩ : ∃ y : Int32, y = v664 + 1 := ⟨_, rfl⟩
                refine lv_iinc (v := y746) (lv' := [(4, .int y746), (3, .int y745), (2, .int v1), (1, .int v2), (0, .ref ha0)]) hx hb dX12_parts_44 hl (k := 1) rfl (by rw [ey746]; rfl) (by decide) rfl (fun ls hl => ?_)
                have hy746 : y746.toInt = v664.toInt + 1 := by rw [ey746]; exact z_add rfl (by decide) (by omega) (by omega)
                refine lv_goto (tgt := 17) hx hb dX12_parts_47 (by decide) ?_
                exact ih733 y746 y745 ls (by first | decide | omega) (by first | decide | omega) (by first | decide | omega) (by first | decide | omega) (z_osS (by assumption) (by omega) (by omega) hy740_2 (by first | exact Or.inl ⟨by omega, by omega⟩ | exact Or.inr ⟨by omega, by omega⟩)) (by have e0 : (0 : Int32).toInt = 0 := (by decide); omega) (by have e0 : (0 : Int32).toInt = 0 := (by decide); omega) (by omega) (lv_sub hl [0, 1, 2, 3, 4] rfl)
        exact hL731 ((5 - (0 : Int32).toInt).toNat + 1) 0 0 ls (by decide) (by decide) (by decide) (by decide) (by rw [show (0 : Int32).toInt = 0 from by decide]; rfl) (by have e0 : (0 : Int32).toInt = 0 := (by decide); omega) (by have e0 : (0 : Int32).toInt = 0 := (by decide); omega) (by omega) hl
  exact hL659 ((12 - (0 : Int32).toInt).toNat + 1) 0 0 ls (by decide) (by decide) (by decide) (by decide) (by rw [show (0 : Int32).toInt = 0 from by decide]; rfl) (by have e0 : (0 : Int32).toInt = 0 := (by decide); omega) (by omega) hl
set_option maxRecDepth 20000 in
theorem edX9_forget_0 : decode cX9_forget 0 = .ok (.aload_n 0, 1) ∧ decode cX9_forget 1 = .ok (.iconst 0, 1) ∧ decode cX9_forget 2 = .ok (.putfield 9, 3) ∧ decode cX9_forget 5 = .ok (.aload_n 0, 1) ∧ decode cX9_forget 6 = .ok (.iconst 0, 1) ∧ decode cX9_forget 7 = .ok (.putfield 15, 3) ∧ decode cX9_forget 10 = .ok (.aload_n 0, 1) ∧ decode cX9_forget 11 = .ok (.bipush (-9), 2) ∧ decode cX9_forget 13 = .ok (.putfield 18, 3) ∧ decode cX9_forget 16 = .ok (.aload_n 0, 1) ∧ decode cX9_forget 17 = .ok (.iconst 0, 1) ∧ decode cX9_forget 18 = .ok (.putfield 21, 3) := by decide +kernel
theorem dX9_forget_0 : decode cX9_forget 0 = .ok (.aload_n 0, 1) := edX9_forget_0.1
theorem dX9_forget_1 : decode cX9_forget 1 = .ok (.iconst 0, 1) := edX9_forget_0.2.1
theorem dX9_forget_2 : decode cX9_forget 2 = .ok (.putfield 9, 3) := edX9_forget_0.2.2.1
theorem dX9_forget_5 : decode cX9_forget 5 = .ok (.aload_n 0, 1) := edX9_forget_0.2.2.2.1
theorem dX9_forget_6 : decode cX9_forget 6 = .ok (.iconst 0, 1) := edX9_forget_0.2.2.2.2.1
theorem dX9_forget_7 : decode cX9_forget 7 = .ok (.putfield 15, 3) := edX9_forget_0.2.2.2.2.2.1
theorem dX9_forget_10 : decode cX9_forget 10 = .ok (.aload_n 0, 1) := edX9_forget_0.2.2.2.2.2.2.1
theorem dX9_forget_11 : decode cX9_forget 11 = .ok (.bipush (-9), 2) := edX9_forget_0.2.2.2.2.2.2.2.1
theorem dX9_forget_13 : decode cX9_forget 13 = .ok (.putfield 18, 3) := edX9_forget_0.2.2.2.2.2.2.2.2.1
theorem dX9_forget_16 : decode cX9_forget 16 = .ok (.aload_n 0, 1) := edX9_forget_0.2.2.2.2.2.2.2.2.2.1
theorem dX9_forget_17 : decode cX9_forget 17 = .ok (.iconst 0, 1) := edX9_forget_0.2.2.2.2.2.2.2.2.2.2.1
theorem dX9_forget_18 : decode cX9_forget 18 = .ok (.putfield 21, 3) := edX9_forget_0.2.2.2.2.2.2.2.2.2.2.2
set_option maxRecDepth 20000 in
theorem edX9_forget_21 : decode cX9_forget 21 = .ok (.aload_n 0, 1) ∧ decode cX9_forget 22 = .ok (.iconst 0, 1) ∧ decode cX9_forget 23 = .ok (.putfield 24, 3) ∧ decode cX9_forget 26 = .ok (.return_, 1) := by decide +kernel
theorem dX9_forget_21 : decode cX9_forget 21 = .ok (.aload_n 0, 1) := edX9_forget_21.1
theorem dX9_forget_22 : decode cX9_forget 22 = .ok (.iconst 0, 1) := edX9_forget_21.2.1
theorem dX9_forget_23 : decode cX9_forget 23 = .ok (.putfield 24, 3) := edX9_forget_21.2.2.1
theorem dX9_forget_26 : decode cX9_forget 26 = .ok (.return_, 1) := edX9_forget_21.2.2.2
noncomputable def voX9_forget : List Cond := [.fieldLink RX9 9 "EachOnHisCue$Saying" "said" "I", .fieldLink RX9 15 "EachOnHisCue$Saying" "dead" "I", .fieldLink RX9 18 "EachOnHisCue$Saying" "latest" "I", .fieldLink RX9 21 "EachOnHisCue$Saying" "times" "I", .fieldLink RX9 24 "EachOnHisCue$Saying" "leaps" "I"]
noncomputable def vsX9_forget : List Cond := .code yX9_forget cX9_forget 1 none :: (voX9_forget ++ (wsX90))
theorem zgX9 : zGd wsX90 := z_gdO (by decide +kernel)
theorem zgX9_forget : zGd vsX9_forget := z_gdC rfl (z_gdA (z_gdO (by decide +kernel) : zGd voX9_forget) (zgX9))
theorem in_X9_forget_X9 : ∀ w ∈ wsX90, w ∈ vsX9_forget := fun _ h => List.mem_cons_of_mem _ (List.mem_append_right _ (h))
set_option maxHeartbeats 4000000 in
set_option maxRecDepth 100000 in
theorem wX9_forget (l : Launch) (dC : Nat → ClassId) (dI : Nat → Nat → Nat) (cI cQ : ClassId) (ha0 : Nat) (ia0_0 : Int32) (ia0_1 : Int32) (ia0_2 : Int32) (ia0_3 : Int32) (ia0_4 : Int32) (sz : Nat) : Met l yX9_forget vsX9_forget ({ frames := 0, cells := 0, slots := 0, locals := 0 }) (va_Pc [.ref ha0] (zB dC dI cI cQ [(ha0, .inr (9, [.int ia0_0, .int ia0_1, .int ia0_2, .int ia0_3, .int ia0_4]))] sz)) (zWv dC dI (va_A [(ha0, .inr (9, [.int ia0_0, .int ia0_1, .int ia0_2, .int ia0_3, .int ia0_4]))] sz) (fun u => [(ha0, .inr (9, [.int 0, .int 0, .int (-9), .int 0, .int 0]))]) (fun u => True)) 0 0 (va_A [(ha0, .inr (9, [.int ia0_0, .int ia0_1, .int ia0_2, .int ia0_3, .int ia0_4]))] sz) := by
  refine Met.ofW (cc := cX9_forget) (maxL := 1) (ret := none) (by decide) rfl ?_
  intro p e s m args below meth c s₁ B hml hv
  obtain ⟨rfl, hsz, hP, hZ, hD0⟩ := hv
  obtain ⟨hK, hAO, hN⟩ := id hZ
  have hx := B.exec
  have hb := B.bytes
  have hr := B.returns
  have hts := atoms_spec (ws := vsX9_forget) B.pre
  have hown : s.vm.findClass RX9 = some m.cls := findClass_of_methodNamed B.named
  have hlocks := B.notSynchronized
  subst hsz
  have hD := hD0.self (sz := s.heap.size)
  generalize hAe : va_A [(ha0, .inr (9, [.int ia0_0, .int ia0_1, .int ia0_2, .int ia0_3, .int ia0_4]))] s.heap.size = A at hD ⊢
  have hA : ∀ q : Nat, s.heap.size ≤ q → A q := fun q h => by rw [← hAe]; exact Or.inr h
  have hS : va_S A s.heap s.heap [] := va_S.rf
  have hP : va_P (dC, dI) vwCl [(ha0, .inr (9, [.int ia0_0, .int ia0_1, .int ia0_2, .int ia0_3, .int ia0_4]))] s.heap := hP
  have hl := lv_entry ([.ref ha0]) (n := 1) (Nat.le_of_ble_eq_true rfl)
  rw [lg_entry_eq]
  generalize (lg_sl ([.ref ha0]) ++ List.replicate (1 - (lg_sl ([.ref ha0])).length) Slot.unset).toArray = ls at hl ⊢
  have hl : lv_has ls 1 [(0, .ref ha0)] := hl
  refine lv_aload_n hx hb dX9_forget_0 rfl (lv_at hl 0 rfl) ?_
  refine lv_iconst (v := 0) hx hb dX9_forget_1 (by decide) ?_
  refine va_put (D := (dC, dI)) (ci := 9) (v := .int 0) (ty := .int) (C := RX9) (T := TX9) (N := 5) hx hb hts in_X9_forget_X9 tyX9 tyX9_ok nmX9 hown hK hP hD hS 0 rfl rfl 0 (by decide) (hts (.fieldLink RX9 9 "EachOnHisCue$Saying" "said" "I") (by decide +kernel)) (fun _ h9 => h9) rfl (by decide +kernel) rfl rfl (Nat.le_of_ble_eq_true rfl) dX9_forget_2 (fun H locs hP hD hS => ?_)
  have hP : va_P (dC, dI) vwCl [(ha0, .inr (9, [.int 0, .int ia0_1, .int ia0_2, .int ia0_3, .int ia0_4]))] H := hP
  have hD : va_D A [(ha0, .inr (9, [.int 0, .int ia0_1, .int ia0_2, .int ia0_3, .int ia0_4]))] := hD
  refine lv_aload_n hx hb dX9_forget_5 rfl (lv_at hl 0 rfl) ?_
  refine lv_iconst (v := 0) hx hb dX9_forget_6 (by decide) ?_
  refine va_put (D := (dC, dI)) (ci := 9) (v := .int 0) (ty := .int) (C := RX9) (T := TX9) (N := 5) hx hb hts in_X9_forget_X9 tyX9 tyX9_ok nmX9 hown hK hP hD hS 0 rfl rfl 1 (by decide) (hts (.fieldLink RX9 15 "EachOnHisCue$Saying" "dead" "I") (by decide +kernel)) (fun _ h9 => h9) rfl (by decide +kernel) rfl rfl (Nat.le_of_ble_eq_true rfl) dX9_forget_7 (fun H locs hP hD hS => ?_)
  have hP : va_P (dC, dI) vwCl [(ha0, .inr (9, [.int 0, .int 0, .int ia0_2, .int ia0_3, .int ia0_4]))] H := hP
  have hD : va_D A [(ha0, .inr (9, [.int 0, .int 0, .int ia0_2, .int ia0_3, .int ia0_4]))] := hD
  refine lv_aload_n hx hb dX9_forget_10 rfl (lv_at hl 0 rfl) ?_
  refine lv_bipush (v := (-9)) hx hb dX9_forget_11 (by decide) ?_
  refine va_put (D := (dC, dI)) (ci := 9) (v := .int (-9)) (ty := .int) (C := RX9) (T := TX9) (N := 5) hx hb hts in_X9_forget_X9 tyX9 tyX9_ok nmX9 hown hK hP hD hS 0 rfl rfl 2 (by decide) (hts (.fieldLink RX9 18 "EachOnHisCue$Saying" "latest" "I") (by decide +kernel)) (fun _ h9 => h9) rfl (by decide +kernel) rfl rfl (Nat.le_of_ble_eq_true rfl) dX9_forget_13 (fun H locs hP hD hS => ?_)
  have hP : va_P (dC, dI) vwCl [(ha0, .inr (9, [.int 0, .int 0, .int (-9), .int ia0_3, .int ia0_4]))] H := hP
  have hD : va_D A [(ha0, .inr (9, [.int 0, .int 0, .int (-9), .int ia0_3, .int ia0_4]))] := hD
  refine lv_aload_n hx hb dX9_forget_16 rfl (lv_at hl 0 rfl) ?_
  refine lv_iconst (v := 0) hx hb dX9_forget_17 (by decide) ?_
  refine va_put (D := (dC, dI)) (ci := 9) (v := .int 0) (ty := .int) (C := RX9) (T := TX9) (N := 5) hx hb hts in_X9_forget_X9 tyX9 tyX9_ok nmX9 hown hK hP hD hS 0 rfl rfl 3 (by decide) (hts (.fieldLink RX9 21 "EachOnHisCue$Saying" "times" "I") (by decide +kernel)) (fun _ h9 => h9) rfl (by decide +kernel) rfl rfl (Nat.le_of_ble_eq_true rfl) dX9_forget_18 (fun H locs hP hD hS => ?_)
  have hP : va_P (dC, dI) vwCl [(ha0, .inr (9, [.int 0, .int 0, .int (-9), .int 0, .int ia0_4]))] H := hP
  have hD : va_D A [(ha0, .inr (9, [.int 0, .int 0, .int (-9), .int 0, .int ia0_4]))] := hD
  refine lv_aload_n hx hb dX9_forget_21 rfl (lv_at hl 0 rfl) ?_
  refine lv_iconst (v := 0) hx hb dX9_forget_22 (by decide) ?_
  refine va_put (D := (dC, dI)) (ci := 9) (v := .int 0) (ty := .int) (C := RX9) (T := TX9) (N := 5) hx hb hts in_X9_forget_X9 tyX9 tyX9_ok nmX9 hown hK hP hD hS 0 rfl rfl 4 (by decide) (hts (.fieldLink RX9 24 "EachOnHisCue$Saying" "leaps" "I") (by decide +kernel)) (fun _ h9 => h9) rfl (by decide +kernel) rfl rfl (Nat.le_of_ble_eq_true rfl) dX9_forget_23 (fun H locs hP hD hS => ?_)
  have hP : va_P (dC, dI) vwCl [(ha0, .inr (9, [.int 0, .int 0, .int (-9), .int 0, .int 0]))] H := hP
  have hD : va_D A [(ha0, .inr (9, [.int 0, .int 0, .int (-9), .int 0, .int 0]))] := hD
  have hP9 := hP.sub (ws' := [(ha0, .inr (9, [.int 0, .int 0, .int (-9), .int 0, .int 0]))]) [0] rfl
  have hD9 := hD.sub (ws' := [(ha0, .inr (9, [.int 0, .int 0, .int (-9), .int 0, .int 0]))]) [0] (by decide) rfl
  exact W.vret hx hb hr (fun t ht hW => ⟨⟨(fun k => [].getD k 0, fun k => [].getD k (fun _ => 0)), rfl, (show True from trivial), by rw [ht]; exact hP9, hD9⟩, hS.F ht⟩) hS.2.2 dX9_forget_26
set_option maxRecDepth 20000 in
theorem edX9_add_0 : decode cX9_add 0 = .ok (.aload_n 0, 1) ∧ decode cX9_add 1 = .ok (.getfield 21, 3) ∧ decode cX9_add 4 = .ok (.ifCond .le 23, 3) ∧ decode cX9_add 7 = .ok (.iload_n 1, 1) ∧ decode cX9_add 8 = .ok (.aload_n 0, 1) ∧ decode cX9_add 9 = .ok (.getfield 18, 3) ∧ decode cX9_add 12 = .ok (.iconst 1, 1) ∧ decode cX9_add 13 = .ok (.iadd, 1) ∧ decode cX9_add 14 = .ok (.if_icmp .eq 13, 3) ∧ decode cX9_add 17 = .ok (.aload_n 0, 1) ∧ decode cX9_add 18 = .ok (.dup, 1) ∧ decode cX9_add 19 = .ok (.getfield 24, 3) := by decide +kernel
theorem dX9_add_0 : decode cX9_add 0 = .ok (.aload_n 0, 1) := edX9_add_0.1
theorem dX9_add_1 : decode cX9_add 1 = .ok (.getfield 21, 3) := edX9_add_0.2.1
theorem dX9_add_4 : decode cX9_add 4 = .ok (.ifCond .le 23, 3) := edX9_add_0.2.2.1
theorem dX9_add_7 : decode cX9_add 7 = .ok (.iload_n 1, 1) := edX9_add_0.2.2.2.1
theorem dX9_add_8 : decode cX9_add 8 = .ok (.aload_n 0, 1) := edX9_add_0.2.2.2.2.1
theorem dX9_add_9 : decode cX9_add 9 = .ok (.getfield 18, 3) := edX9_add_0.2.2.2.2.2.1
theorem dX9_add_12 : decode cX9_add 12 = .ok (.iconst 1, 1) := edX9_add_0.2.2.2.2.2.2.1
theorem dX9_add_13 : decode cX9_add 13 = .ok (.iadd, 1) := edX9_add_0.2.2.2.2.2.2.2.1
theorem dX9_add_14 : decode cX9_add 14 = .ok (.if_icmp .eq 13, 3) := edX9_add_0.2.2.2.2.2.2.2.2.1
theorem dX9_add_17 : decode cX9_add 17 = .ok (.aload_n 0, 1) := edX9_add_0.2.2.2.2.2.2.2.2.2.1
theorem dX9_add_18 : decode cX9_add 18 = .ok (.dup, 1) := edX9_add_0.2.2.2.2.2.2.2.2.2.2.1
theorem dX9_add_19 : decode cX9_add 19 = .ok (.getfield 24, 3) := edX9_add_0.2.2.2.2.2.2.2.2.2.2.2
set_option maxRecDepth 20000 in
theorem edX9_add_22 : decode cX9_add 22 = .ok (.iconst 1, 1) ∧ decode cX9_add 23 = .ok (.iadd, 1) ∧ decode cX9_add 24 = .ok (.putfield 24, 3) ∧ decode cX9_add 27 = .ok (.aload_n 0, 1) ∧ decode cX9_add 28 = .ok (.dup, 1) ∧ decode cX9_add 29 = .ok (.getfield 9, 3) ∧ decode cX9_add 32 = .ok (.iconst 1, 1) ∧ decode cX9_add 33 = .ok (.iload_n 1, 1) ∧ decode cX9_add 34 = .ok (.ishl, 1) ∧ decode cX9_add 35 = .ok (.ior, 1) ∧ decode cX9_add 36 = .ok (.putfield 9, 3) ∧ decode cX9_add 39 = .ok (.aload_n 0, 1) := by decide +kernel
theorem dX9_add_22 : decode cX9_add 22 = .ok (.iconst 1, 1) := edX9_add_22.1
theorem dX9_add_23 : decode cX9_add 23 = .ok (.iadd, 1) := edX9_add_22.2.1
theorem dX9_add_24 : decode cX9_add 24 = .ok (.putfield 24, 3) := edX9_add_22.2.2.1
theorem dX9_add_27 : decode cX9_add 27 = .ok (.aload_n 0, 1) := edX9_add_22.2.2.2.1
theorem dX9_add_28 : decode cX9_add 28 = .ok (.dup, 1) := edX9_add_22.2.2.2.2.1
theorem dX9_add_29 : decode cX9_add 29 = .ok (.getfield 9, 3) := edX9_add_22.2.2.2.2.2.1
theorem dX9_add_32 : decode cX9_add 32 = .ok (.iconst 1, 1) := edX9_add_22.2.2.2.2.2.2.1
theorem dX9_add_33 : decode cX9_add 33 = .ok (.iload_n 1, 1) := edX9_add_22.2.2.2.2.2.2.2.1
theorem dX9_add_34 : decode cX9_add 34 = .ok (.ishl, 1) := edX9_add_22.2.2.2.2.2.2.2.2.1
theorem dX9_add_35 : decode cX9_add 35 = .ok (.ior, 1) := edX9_add_22.2.2.2.2.2.2.2.2.2.1
theorem dX9_add_36 : decode cX9_add 36 = .ok (.putfield 9, 3) := edX9_add_22.2.2.2.2.2.2.2.2.2.2.1
theorem dX9_add_39 : decode cX9_add 39 = .ok (.aload_n 0, 1) := edX9_add_22.2.2.2.2.2.2.2.2.2.2.2
set_option maxRecDepth 20000 in
theorem edX9_add_40 : decode cX9_add 40 = .ok (.dup, 1) ∧ decode cX9_add 41 = .ok (.getfield 15, 3) ∧ decode cX9_add 44 = .ok (.iload_n 2, 1) ∧ decode cX9_add 45 = .ok (.ior, 1) ∧ decode cX9_add 46 = .ok (.putfield 15, 3) ∧ decode cX9_add 49 = .ok (.aload_n 0, 1) ∧ decode cX9_add 50 = .ok (.iload_n 1, 1) ∧ decode cX9_add 51 = .ok (.putfield 18, 3) ∧ decode cX9_add 54 = .ok (.aload_n 0, 1) ∧ decode cX9_add 55 = .ok (.dup, 1) ∧ decode cX9_add 56 = .ok (.getfield 21, 3) ∧ decode cX9_add 59 = .ok (.iconst 1, 1) := by decide +kernel
theorem dX9_add_40 : decode cX9_add 40 = .ok (.dup, 1) := edX9_add_40.1
theorem dX9_add_41 : decode cX9_add 41 = .ok (.getfield 15, 3) := edX9_add_40.2.1
theorem dX9_add_44 : decode cX9_add 44 = .ok (.iload_n 2, 1) := edX9_add_40.2.2.1
theorem dX9_add_45 : decode cX9_add 45 = .ok (.ior, 1) := edX9_add_40.2.2.2.1
theorem dX9_add_46 : decode cX9_add 46 = .ok (.putfield 15, 3) := edX9_add_40.2.2.2.2.1
theorem dX9_add_49 : decode cX9_add 49 = .ok (.aload_n 0, 1) := edX9_add_40.2.2.2.2.2.1
theorem dX9_add_50 : decode cX9_add 50 = .ok (.iload_n 1, 1) := edX9_add_40.2.2.2.2.2.2.1
theorem dX9_add_51 : decode cX9_add 51 = .ok (.putfield 18, 3) := edX9_add_40.2.2.2.2.2.2.2.1
theorem dX9_add_54 : decode cX9_add 54 = .ok (.aload_n 0, 1) := edX9_add_40.2.2.2.2.2.2.2.2.1
theorem dX9_add_55 : decode cX9_add 55 = .ok (.dup, 1) := edX9_add_40.2.2.2.2.2.2.2.2.2.1
theorem dX9_add_56 : decode cX9_add 56 = .ok (.getfield 21, 3) := edX9_add_40.2.2.2.2.2.2.2.2.2.2.1
theorem dX9_add_59 : decode cX9_add 59 = .ok (.iconst 1, 1) := edX9_add_40.2.2.2.2.2.2.2.2.2.2.2
set_option maxRecDepth 20000 in
theorem edX9_add_60 : decode cX9_add 60 = .ok (.iadd, 1) ∧ decode cX9_add 61 = .ok (.putfield 21, 3) ∧ decode cX9_add 64 = .ok (.return_, 1) := by decide +kernel
theorem dX9_add_60 : decode cX9_add 60 = .ok (.iadd, 1) := edX9_add_60.1
theorem dX9_add_61 : decode cX9_add 61 = .ok (.putfield 21, 3) := edX9_add_60.2.1
theorem dX9_add_64 : decode cX9_add 64 = .ok (.return_, 1) := edX9_add_60.2.2
noncomputable def voX9_add : List Cond := [.fieldLink RX9 21 "EachOnHisCue$Saying" "times" "I", .fieldLink RX9 9 "EachOnHisCue$Saying" "said" "I", .fieldLink RX9 15 "EachOnHisCue$Saying" "dead" "I", .fieldLink RX9 18 "EachOnHisCue$Saying" "latest" "I", .fieldLink RX9 24 "EachOnHisCue$Saying" "leaps" "I"]
noncomputable def vsX9_add : List Cond := .code yX9_add cX9_add 3 none :: (voX9_add ++ (wsX90))
theorem zgX9_add : zGd vsX9_add := z_gdC rfl (z_gdA (z_gdO (by decide +kernel) : zGd voX9_add) (zgX9))
theorem in_X9_add_X9 : ∀ w ∈ wsX90, w ∈ vsX9_add := fun _ h => List.mem_cons_of_mem _ (List.mem_append_right _ (h))
set_option maxHeartbeats 4000000 in
set_option maxRecDepth 100000 in
theorem wX9_add (l : Launch) (dC : Nat → ClassId) (dI : Nat → Nat → Nat) (cI cQ : ClassId) (ha0 : Nat) (ia0_0 : Int32) (ia0_1 : Int32) (ia0_2 : Int32) (ia0_3 : Int32) (ia0_4 : Int32) (p1 : Int32) (p2 : Int32) (sz : Nat) : Met l yX9_add vsX9_add ({ frames := 0, cells := 0, slots := 0, locals := 0 }) (va_Pc [.ref ha0, .int p1, .int p2] (zB dC dI cI cQ [(ha0, .inr (9, [.int ia0_0, .int ia0_1, .int ia0_2, .int ia0_3, .int ia0_4]))] sz)) (zWv dC dI (va_A [(ha0, .inr (9, [.int ia0_0, .int ia0_1, .int ia0_2, .int ia0_3, .int ia0_4]))] sz) (fun u => [(ha0, .inr (9, [.int (u.1 0), .int (u.1 1), .int (u.1 2), .int (u.1 3), .int (u.1 4)]))]) (fun u => ((-2147483648) ≤ (u.1 0).toInt ∧ (u.1 0).toInt ≤ 2147483647) ∧ ((-2147483648) ≤ (u.1 1).toInt ∧ (u.1 1).toInt ≤ 2147483647) ∧ ((-2147483648) ≤ (u.1 2).toInt ∧ (u.1 2).toInt ≤ 2147483647) ∧ ((-2147483648) ≤ (u.1 3).toInt ∧ (u.1 3).toInt ≤ 2147483647) ∧ ((-2147483648) ≤ (u.1 4).toInt ∧ (u.1 4).toInt ≤ 2147483647) ∧ ((((u.1 0) = ia0_0 ||| ((1 : Int32) <<< (p1 &&& 31)) ∧ (u.1 1) = ia0_1 ||| p2 ∧ (u.1 2) = p1 ∧ (u.1 3) = ia0_3 + 1) ∧ zLq ia0_3 ia0_2 p1 ia0_4 (u.1 4))))) 0 0 (va_A [(ha0, .inr (9, [.int ia0_0, .int ia0_1, .int ia0_2, .int ia0_3, .int ia0_4]))] sz) := by
  refine Met.ofW (cc := cX9_add) (maxL := 3) (ret := none) (by decide) rfl ?_
  intro p e s m args below meth c s₁ B hml hv
  obtain ⟨rfl, hsz, hP, hZ, hD0⟩ := hv
  obtain ⟨hK, hAO, hN⟩ := id hZ
  have hx := B.exec
  have hb := B.bytes
  have hr := B.returns
  have hts := atoms_spec (ws := vsX9_add) B.pre
  have hown : s.vm.findClass RX9 = some m.cls := findClass_of_methodNamed B.named
  have hlocks := B.notSynchronized
  subst hsz
  have hD := hD0.self (sz := s.heap.size)
  generalize hAe : va_A [(ha0, .inr (9, [.int ia0_0, .int ia0_1, .int ia0_2, .int ia0_3, .int ia0_4]))] s.heap.size = A at hD ⊢
  have hA : ∀ q : Nat, s.heap.size ≤ q → A q := fun q h => by rw [← hAe]; exact Or.inr h
  have hS : va_S A s.heap s.heap [] := va_S.rf
  have hP : va_P (dC, dI) vwCl [(ha0, .inr (9, [.int ia0_0, .int ia0_1, .int ia0_2, .int ia0_3, .int ia0_4]))] s.heap := hP
  have hp1l := z_lo p1
  have hp1h := z_hi p1
  have hp2l := z_lo p2
  have hp2h := z_hi p2
  have hl := lv_entry ([.ref ha0, .int p1, .int p2]) (n := 3) (Nat.le_of_ble_eq_true rfl)
  rw [lg_entry_eq]
  generalize (lg_sl ([.ref ha0, .int p1, .int p2]) ++ List.replicate (3 - (lg_sl ([.ref ha0, .int p1, .int p2])).length) Slot.unset).toArray = ls at hl ⊢
  have hl : lv_has ls 3 [(0, .ref ha0), (1, .int p1), (2, .int p2)] := hl
  refine lv_aload_n hx hb dX9_add_0 rfl (lv_at hl 0 rfl) ?_
  refine va_get (D := (dC, dI)) (ci := 9) (v := .int ia0_3) (C := RX9) (T := TX9) (N := 5) hx hb hts in_X9_add_X9 hown hK hP 0 rfl rfl 3 (by decide) (hts (.fieldLink RX9 21 "EachOnHisCue$Saying" "times" "I") (by decide +kernel)) (fun _ h9 => h9) rfl dX9_add_1 ?_
  refine lv_if_le (tgt := 27) hx hb dX9_add_4 (by decide) (fun hc => ?_) (fun hc => ?_)
  · have q1 : ia0_3.toInt ≤ 0 := z_le rfl (by decide) hc
    refine lv_aload_n hx hb dX9_add_27 rfl (lv_at hl 0 rfl) ?_
    refine lv_dup hx hb dX9_add_28 rfl ?_
    refine va_get (D := (dC, dI)) (ci := 9) (v := .int ia0_0) (C := RX9) (T := TX9) (N := 5) hx hb hts in_X9_add_X9 hown hK hP 0 rfl rfl 0 (by decide) (hts (.fieldLink RX9 9 "EachOnHisCue$Saying" "said" "I") (by decide +kernel)) (fun _ h9 => h9) rfl dX9_add_29 ?_
    refine lv_iconst (v := 1) hx hb dX9_add_32 (by decide) ?_
    refine lv_iload_n hx hb dX9_add_33 rfl (lv_at hl 1 rfl) ?_
    refine lv_ishl hx hb dX9_add_34 ?_
    refine lv_topi (fun y2 ey2 => ?_)
    refine lv_ior hx hb dX9_add_35 ?_
    refine lv_topi (fun y3 ey3 => ?_)
    refine va_put (D := (dC, dI)) (ci := 9) (v := .int y3) (ty := .int) (C := RX9) (T := TX9) (N := 5) hx hb hts in_X9_add_X9 tyX9 tyX9_ok nmX9 hown hK hP hD hS 0 rfl rfl 0 (by decide) (hts (.fieldLink RX9 9 "EachOnHisCue$Saying" "said" "I") (by decide +kernel)) (fun _ h9 => h9) rfl (by decide +kernel) rfl rfl (Nat.le_of_ble_eq_true rfl) dX9_add_36 (fun H locs hP hD hS => ?_)
    have hP : va_P (dC, dI) vwCl [(ha0, .inr (9, [.int y3, .int ia0_1, .int ia0_2, .int ia0_3, .int ia0_4]))] H := hP
    have hD : va_D A [(ha0, .inr (9, [.int y3, .int ia0_1, .int ia0_2, .int ia0_3, .int ia0_4]))] := hD
    refine lv_aload_n hx hb dX9_add_39 rfl (lv_at hl 0 rfl) ?_
    refine lv_dup hx hb dX9_add_40 rfl ?_
    refine va_get (D := (dC, dI)) (ci := 9) (v := .int ia0_1) (C := RX9) (T := TX9) (N := 5) hx hb hts in_X9_add_X9 hown hK hP 0 rfl rfl 1 (by decide) (hts (.fieldLink RX9 15 "EachOnHisCue$Saying" "dead" "I") (by decide +kernel)) (fun _ h9 => h9) rfl dX9_add_41 ?_
    refine lv_iload_n hx hb dX9_add_44 rfl (lv_at hl 2 rfl) ?_
    refine lv_ior hx hb dX9_add_45 ?_
    refine lv_topi (fun y4 ey4 => ?_)
    refine va_put (D := (dC, dI)) (ci := 9) (v := .int y4) (ty := .int) (C := RX9) (T := TX9) (N := 5) hx hb hts in_X9_add_X9 tyX9 tyX9_ok nmX9 hown hK hP hD hS 0 rfl rfl 1 (by decide) (hts (.fieldLink RX9 15 "EachOnHisCue$Saying" "dead" "I") (by decide +kernel)) (fun _ h9 => h9) rfl (by decide +kernel) rfl rfl (Nat.le_of_ble_eq_true rfl) dX9_add_46 (fun H locs hP hD hS => ?_)
    have hP : va_P (dC, dI) vwCl [(ha0, .inr (9, [.int y3, .int y4, .int ia0_2, .int ia0_3, .int ia0_4]))] H := hP
    have hD : va_D A [(ha0, .inr (9, [.int y3, .int y4, .int ia0_2, .int ia0_3, .int ia0_4]))] := hD
    refine lv_aload_n hx hb dX9_add_49 rfl (lv_at hl 0 rfl) ?_
    refine lv_iload_n hx hb dX9_add_50 rfl (lv_at hl 1 rfl) ?_
    refine va_put (D := (dC, dI)) (ci := 9) (v := .int p1) (ty := .int) (C := RX9) (T := TX9) (N := 5) hx hb hts in_X9_add_X9 tyX9 tyX9_ok nmX9 hown hK hP hD hS 0 rfl rfl 2 (by decide) (hts (.fieldLink RX9 18 "EachOnHisCue$Saying" "latest" "I") (by decide +kernel)) (fun _ h9 => h9) rfl (by decide +kernel) rfl rfl (Nat.le_of_ble_eq_true rfl) dX9_add_51 (fun H locs hP hD hS => ?_)
    have hP : va_P (dC, dI) vwCl [(ha0, .inr (9, [.int y3, .int y4, .int p1, .int ia0_3, .int ia0_4]))] H := hP
    have hD : va_D A [(ha0, .inr (9, [.int y3, .int y4, .int p1, .int ia0_3, .int ia0_4]))] := hD
    refine lv_aload_n hx hb dX9_add_54 rfl (lv_at hl 0 rfl) ?_
    refine lv_dup hx hb dX9_add_55 rfl ?_
    refine va_get (D := (dC, dI)) (ci := 9) (v := .int ia0_3) (C := RX9) (T := TX9) (N := 5) hx hb hts in_X9_add_X9 hown hK hP 0 rfl rfl 3 (by decide) (hts (.fieldLink RX9 21 "EachOnHisCue$Saying" "times" "I") (by decide +kernel)) (fun _ h9 => h9) rfl dX9_add_56 ?_
    refine lv_iconst (v := 1) hx hb dX9_add_59 (by decide) ?_
    refine lv_iadd hx hb dX9_add_60 ?_
    refine lv_topi (fun y5 ey5 => ?_)
    have := z_lo ia0_3
    have hy5 : y5.toInt = ia0_3.toInt + 1 := by rw [ey5]; exact z_add rfl (by decide) (by omega) (by omega)
    refine va_put (D := (dC, dI)) (ci := 9) (v := .int y5) (ty := .int) (C := RX9) (T := TX9) (N := 5) hx hb hts in_X9_add_X9 tyX9 tyX9_ok nmX9 hown hK hP hD hS 0 rfl rfl 3 (by decide) (hts (.fieldLink RX9 21 "EachOnHisCue$Saying" "times" "I") (by decide +kernel)) (fun _ h9 => h9) rfl (by decide +kernel) rfl rfl (Nat.le_of_ble_eq_true rfl) dX9_add_61 (fun H locs hP hD hS => ?_)
    have hP : va_P (dC, dI) vwCl [(ha0, .inr (9, [.int y3, .int y4, .int p1, .int y5, .int ia0_4]))] H := hP
    have hD : va_D A [(ha0, .inr (9, [.int y3, .int y4, .int p1, .int y5, .int ia0_4]))] := hD
    have hP9 := hP.sub (ws' := [(ha0, .inr (9, [.int y3, .int y4, .int p1, .int y5, .int ia0_4]))]) [0] rfl
    have hD9 := hD.sub (ws' := [(ha0, .inr (9, [.int y3, .int y4, .int p1, .int y5, .int ia0_4]))]) [0] (by decide) rfl
    have hpo : (((y3 : Int32) = ia0_0 ||| ((1 : Int32) <<< (p1 &&& 31)) ∧ (y4 : Int32) = ia0_1 ||| p2 ∧ (p1 : Int32) = p1 ∧ (y5 : Int32) = ia0_3 + 1) ∧ zLq ia0_3 ia0_2 p1 ia0_4 (ia0_4 : Int32)) := by exact ⟨⟨by rw [ey3, ey2], ey4, rfl, ey5⟩, Or.inr ⟨Or.inl (by omega), rfl⟩⟩
    exact W.vret hx hb hr (fun t ht hW => ⟨⟨(fun k => [y3, y4, p1, y5, ia0_4].getD k 0, fun k => [].getD k (fun _ => 0)), rfl, (show ((-2147483648) ≤ (y3 : Int32).toInt ∧ (y3 : Int32).toInt ≤ 2147483647) ∧ ((-2147483648) ≤ (y4 : Int32).toInt ∧ (y4 : Int32).toInt ≤ 2147483647) ∧ ((-2147483648) ≤ (p1 : Int32).toInt ∧ (p1 : Int32).toInt ≤ 2147483647) ∧ ((-2147483648) ≤ (y5 : Int32).toInt ∧ (y5 : Int32).toInt ≤ 2147483647) ∧ ((-2147483648) ≤ (ia0_4 : Int32).toInt ∧ (ia0_4 : Int32).toInt ≤ 2147483647) ∧ ((((y3 : Int32) = ia0_0 ||| ((1 : Int32) <<< (p1 &&& 31)) ∧ (y4 : Int32) = ia0_1 ||| p2 ∧ (p1 : Int32) = p1 ∧ (y5 : Int32) = ia0_3 + 1) ∧ zLq ia0_3 ia0_2 p1 ia0_4 (ia0_4 : Int32))) from ⟨⟨(z_lo _), (z_hi _)⟩, ⟨(z_lo _), (z_hi _)⟩, ⟨hp1l, hp1h⟩, ⟨(z_lo _), (z_hi _)⟩, ⟨(z_lo _), (z_hi _)⟩, hpo⟩), by rw [ht]; exact hP9, hD9⟩, hS.F ht⟩) hS.2.2 dX9_add_64
  · have q6 : 0 < ia0_3.toInt := z_nle rfl (by decide) hc
    refine lv_iload_n hx hb dX9_add_7 rfl (lv_at hl 1 rfl) ?_
    refine lv_aload_n hx hb dX9_add_8 rfl (lv_at hl 0 rfl) ?_
    refine va_get (D := (dC, dI)) (ci := 9) (v := .int ia0_2) (C := RX9) (T := TX9) (N := 5) hx hb hts in_X9_add_X9 hown hK hP 0 rfl rfl 2 (by decide) (hts (.fieldLink RX9 18 "EachOnHisCue$Saying" "latest" "I") (by decide +kernel)) (fun _ h9 => h9) rfl dX9_add_9 ?_
    refine lv_iconst (v := 1) hx hb dX9_add_12 (by decide) ?_
    refine lv_iadd hx hb dX9_add_13 ?_
    refine lv_topi (fun y7 ey7 => ?_)
    refine lv_icmp_eq (tgt := 27) hx hb dX9_add_14 (by decide) (fun hc => ?_) (fun hc => ?_)
    · have q8 : p1.toInt = y7.toInt := z_eq rfl rfl hc
      refine lv_aload_n hx hb dX9_add_27 rfl (lv_at hl 0 rfl) ?_
      refine lv_dup hx hb dX9_add_28 rfl ?_
      refine va_get (D := (dC, dI)) (ci := 9) (v := .int ia0_0) (C := RX9) (T := TX9) (N := 5) hx hb hts in_X9_add_X9 hown hK hP 0 rfl rfl 0 (by decide) (hts (.fieldLink RX9 9 "EachOnHisCue$Saying" "said" "I") (by decide +kernel)) (fun _ h9 => h9) rfl dX9_add_29 ?_
      refine lv_iconst (v := 1) hx hb dX9_add_32 (by decide) ?_
      refine lv_iload_n hx hb dX9_add_33 rfl (lv_at hl 1 rfl) ?_
      refine lv_ishl hx hb dX9_add_34 ?_
      refine lv_topi (fun y9 ey9 => ?_)
      refine lv_ior hx hb dX9_add_35 ?_
      refine lv_topi (fun y10 ey10 => ?_)
      refine va_put (D := (dC, dI)) (ci := 9) (v := .int y10) (ty := .int) (C := RX9) (T := TX9) (N := 5) hx hb hts in_X9_add_X9 tyX9 tyX9_ok nmX9 hown hK hP hD hS 0 rfl rfl 0 (by decide) (hts (.fieldLink RX9 9 "EachOnHisCue$Saying" "said" "I") (by decide +kernel)) (fun _ h9 => h9) rfl (by decide +kernel) rfl rfl (Nat.le_of_ble_eq_true rfl) dX9_add_36 (fun H locs hP hD hS => ?_)
      have hP : va_P (dC, dI) vwCl [(ha0, .inr (9, [.int y10, .int ia0_1, .int ia0_2, .int ia0_3, .int ia0_4]))] H := hP
      have hD : va_D A [(ha0, .inr (9, [.int y10, .int ia0_1, .int ia0_2, .int ia0_3, .int ia0_4]))] := hD
      refine lv_aload_n hx hb dX9_add_39 rfl (lv_at hl 0 rfl) ?_
      refine lv_dup hx hb dX9_add_40 rfl ?_
      refine va_get (D := (dC, dI)) (ci := 9) (v := .int ia0_1) (C := RX9) (T := TX9) (N := 5) hx hb hts in_X9_add_X9 hown hK hP 0 rfl rfl 1 (by decide) (hts (.fieldLink RX9 15 "EachOnHisCue$Saying" "dead" "I") (by decide +kernel)) (fun _ h9 => h9) rfl dX9_add_41 ?_
      refine lv_iload_n hx hb dX9_add_44 rfl (lv_at hl 2 rfl) ?_
      refine lv_ior hx hb dX9_add_45 ?_
      refine lv_topi (fun y11 ey11 => ?_)
      refine va_put (D := (dC, dI)) (ci := 9) (v := .int y11) (ty := .int) (C := RX9) (T := TX9) (N := 5) hx hb hts in_X9_add_X9 tyX9 tyX9_ok nmX9 hown hK hP hD hS 0 rfl rfl 1 (by decide) (hts (.fieldLink RX9 15 "EachOnHisCue$Saying" "dead" "I") (by decide +kernel)) (fun _ h9 => h9) rfl (by decide +kernel) rfl rfl (Nat.le_of_ble_eq_true rfl) dX9_add_46 (fun H locs hP hD hS => ?_)
      have hP : va_P (dC, dI) vwCl [(ha0, .inr (9, [.int y10, .int y11, .int ia0_2, .int ia0_3, .int ia0_4]))] H := hP
      have hD : va_D A [(ha0, .inr (9, [.int y10, .int y11, .int ia0_2, .int ia0_3, .int ia0_4]))] := hD
      refine lv_aload_n hx hb dX9_add_49 rfl (lv_at hl 0 rfl) ?_
      refine lv_iload_n hx hb dX9_add_50 rfl (lv_at hl 1 rfl) ?_
      refine va_put (D := (dC, dI)) (ci := 9) (v := .int p1) (ty := .int) (C := RX9) (T := TX9) (N := 5) hx hb hts in_X9_add_X9 tyX9 tyX9_ok nmX9 hown hK hP hD hS 0 rfl rfl 2 (by decide) (hts (.fieldLink RX9 18 "EachOnHisCue$Saying" "latest" "I") (by decide +kernel)) (fun _ h9 => h9) rfl (by decide +kernel) rfl rfl (Nat.le_of_ble_eq_true rfl) dX9_add_51 (fun H locs hP hD hS => ?_)
      have hP : va_P (dC, dI) vwCl [(ha0, .inr (9, [.int y10, .int y11, .int p1, .int ia0_3, .int ia0_4]))] H := hP
      have hD : va_D A [(ha0, .inr (9, [.int y10, .int y11, .int p1, .int ia0_3, .int ia0_4]))] := hD
      refine lv_aload_n hx hb dX9_add_54 rfl (lv_at hl 0 rfl) ?_
      refine lv_dup hx hb dX9_add_55 rfl ?_
      refine va_get (D := (dC, dI)) (ci := 9) (v := .int ia0_3) (C := RX9) (T := TX9) (N := 5) hx hb hts in_X9_add_X9 hown hK hP 0 rfl rfl 3 (by decide) (hts (.fieldLink RX9 21 "EachOnHisCue$Saying" "times" "I") (by decide +kernel)) (fun _ h9 => h9) rfl dX9_add_56 ?_
      refine lv_iconst (v := 1) hx hb dX9_add_59 (by decide) ?_
      refine lv_iadd hx hb dX9_add_60 ?_
      refine lv_topi (fun y12 ey12 => ?_)
      refine va_put (D := (dC, dI)) (ci := 9) (v := .int y12) (ty := .int) (C := RX9) (T := TX9) (N := 5) hx hb hts in_X9_add_X9 tyX9 tyX9_ok nmX9 hown hK hP hD hS 0 rfl rfl 3 (by decide) (hts (.fieldLink RX9 21 "EachOnHisCue$Saying" "times" "I") (by decide +kernel)) (fun _ h9 => h9) rfl (by decide +kernel) rfl rfl (Nat.le_of_ble_eq_true rfl) dX9_add_61 (fun H locs hP hD hS => ?_)
      have hP : va_P (dC, dI) vwCl [(ha0, .inr (9, [.int y10, .int y11, .int p1, .int y12, .int ia0_4]))] H := hP
      have hD : va_D A [(ha0, .inr (9, [.int y10, .int y11, .int p1, .int y12, .int ia0_4]))] := hD
      have hP9 := hP.sub (ws' := [(ha0, .inr (9, [.int y10, .int y11, .int p1, .int y12, .int ia0_4]))]) [0] rfl
      have hD9 := hD.sub (ws' := [(ha0, .inr (9, [.int y10, .int y11, .int p1, .int y12, .int ia0_4]))]) [0] (by decide) rfl
      have hpo : (((y10 : Int32) = ia0_0 ||| ((1 : Int32) <<< (p1 &&& 31)) ∧ (y11 : Int32) = ia0_1 ||| p2 ∧ (p1 : Int32) = p1 ∧ (y12 : Int32) = ia0_3 + 1) ∧ zLq ia0_3 ia0_2 p1 ia0_4 (ia0_4 : Int32)) := by exact ⟨⟨by rw [ey10, ey9], ey11, rfl, ey12⟩, Or.inr ⟨Or.inr (by rw [← ey7]; omega), rfl⟩⟩
      exact W.vret hx hb hr (fun t ht hW => ⟨⟨(fun k => [y10, y11, p1, y12, ia0_4].getD k 0, fun k => [].getD k (fun _ => 0)), rfl, (show ((-2147483648) ≤ (y10 : Int32).toInt ∧ (y10 : Int32).toInt ≤ 2147483647) ∧ ((-2147483648) ≤ (y11 : Int32).toInt ∧ (y11 : Int32).toInt ≤ 2147483647) ∧ ((-2147483648) ≤ (p1 : Int32).toInt ∧ (p1 : Int32).toInt ≤ 2147483647) ∧ ((-2147483648) ≤ (y12 : Int32).toInt ∧ (y12 : Int32).toInt ≤ 2147483647) ∧ ((-2147483648) ≤ (ia0_4 : Int32).toInt ∧ (ia0_4 : Int32).toInt ≤ 2147483647) ∧ ((((y10 : Int32) = ia0_0 ||| ((1 : Int32) <<< (p1 &&& 31)) ∧ (y11 : Int32) = ia0_1 ||| p2 ∧ (p1 : Int32) = p1 ∧ (y12 : Int32) = ia0_3 + 1) ∧ zLq ia0_3 ia0_2 p1 ia0_4 (ia0_4 : Int32))) from ⟨⟨(z_lo _), (z_hi _)⟩, ⟨(z_lo _), (z_hi _)⟩, ⟨hp1l, hp1h⟩, ⟨(z_lo _), (z_hi _)⟩, ⟨(z_lo _), (z_hi _)⟩, hpo⟩), by rw [ht]; exact hP9, hD9⟩, hS.F ht⟩) hS.2.2 dX9_add_64
    · have q13 : p1.toInt ≠ y7.toInt := z_ne rfl rfl hc
      refine lv_aload_n hx hb dX9_add_17 rfl (lv_at hl 0 rfl) ?_
      refine lv_dup hx hb dX9_add_18 rfl ?_
      refine va_get (D := (dC, dI)) (ci := 9) (v := .int ia0_4) (C := RX9) (T := TX9) (N := 5) hx hb hts in_X9_add_X9 hown hK hP 0 rfl rfl 4 (by decide) (hts (.fieldLink RX9 24 "EachOnHisCue$Saying" "leaps" "I") (by decide +kernel)) (fun _ h9 => h9) rfl dX9_add_19 ?_
      refine lv_iconst (v := 1) hx hb dX9_add_22 (by decide) ?_
      refine lv_iadd hx hb dX9_add_23 ?_
      refine lv_topi (fun y14 ey14 => ?_)
      refine va_put (D := (dC, dI)) (ci := 9) (v := .int y14) (ty := .int) (C := RX9) (T := TX9) (N := 5) hx hb hts in_X9_add_X9 tyX9 tyX9_ok nmX9 hown hK hP hD hS 0 rfl rfl 4 (by decide) (hts (.fieldLink RX9 24 "EachOnHisCue$Saying" "leaps" "I") (by decide +kernel)) (fun _ h9 => h9) rfl (by decide +kernel) rfl rfl (Nat.le_of_ble_eq_true rfl) dX9_add_24 (fun H locs hP hD hS => ?_)
      have hP : va_P (dC, dI) vwCl [(ha0, .inr (9, [.int ia0_0, .int ia0_1, .int ia0_2, .int ia0_3, .int y14]))] H := hP
      have hD : va_D A [(ha0, .inr (9, [.int ia0_0, .int ia0_1, .int ia0_2, .int ia0_3, .int y14]))] := hD
      refine lv_aload_n hx hb dX9_add_27 rfl (lv_at hl 0 rfl) ?_
      refine lv_dup hx hb dX9_add_28 rfl ?_
      refine va_get (D := (dC, dI)) (ci := 9) (v := .int ia0_0) (C := RX9) (T := TX9) (N := 5) hx hb hts in_X9_add_X9 hown hK hP 0 rfl rfl 0 (by decide) (hts (.fieldLink RX9 9 "EachOnHisCue$Saying" "said" "I") (by decide +kernel)) (fun _ h9 => h9) rfl dX9_add_29 ?_
      refine lv_iconst (v := 1) hx hb dX9_add_32 (by decide) ?_
      refine lv_iload_n hx hb dX9_add_33 rfl (lv_at hl 1 rfl) ?_
      refine lv_ishl hx hb dX9_add_34 ?_
      refine lv_topi (fun y15 ey15 => ?_)
      refine lv_ior hx hb dX9_add_35 ?_
      refine lv_topi (fun y16 ey16 => ?_)
      refine va_put (D := (dC, dI)) (ci := 9) (v := .int y16) (ty := .int) (C := RX9) (T := TX9) (N := 5) hx hb hts in_X9_add_X9 tyX9 tyX9_ok nmX9 hown hK hP hD hS 0 rfl rfl 0 (by decide) (hts (.fieldLink RX9 9 "EachOnHisCue$Saying" "said" "I") (by decide +kernel)) (fun _ h9 => h9) rfl (by decide +kernel) rfl rfl (Nat.le_of_ble_eq_true rfl) dX9_add_36 (fun H locs hP hD hS => ?_)
      have hP : va_P (dC, dI) vwCl [(ha0, .inr (9, [.int y16, .int ia0_1, .int ia0_2, .int ia0_3, .int y14]))] H := hP
      have hD : va_D A [(ha0, .inr (9, [.int y16, .int ia0_1, .int ia0_2, .int ia0_3, .int y14]))] := hD
      refine lv_aload_n hx hb dX9_add_39 rfl (lv_at hl 0 rfl) ?_
      refine lv_dup hx hb dX9_add_40 rfl ?_
      refine va_get (D := (dC, dI)) (ci := 9) (v := .int ia0_1) (C := RX9) (T := TX9) (N := 5) hx hb hts in_X9_add_X9 hown hK hP 0 rfl rfl 1 (by decide) (hts (.fieldLink RX9 15 "EachOnHisCue$Saying" "dead" "I") (by decide +kernel)) (fun _ h9 => h9) rfl dX9_add_41 ?_
      refine lv_iload_n hx hb dX9_add_44 rfl (lv_at hl 2 rfl) ?_
      refine lv_ior hx hb dX9_add_45 ?_
      refine lv_topi (fun y17 ey17 => ?_)
      refine va_put (D := (dC, dI)) (ci := 9) (v := .int y17) (ty := .int) (C := RX9) (T := TX9) (N := 5) hx hb hts in_X9_add_X9 tyX9 tyX9_ok nmX9 hown hK hP hD hS 0 rfl rfl 1 (by decide) (hts (.fieldLink RX9 15 "EachOnHisCue$Saying" "dead" "I") (by decide +kernel)) (fun _ h9 => h9) rfl (by decide +kernel) rfl rfl (Nat.le_of_ble_eq_true rfl) dX9_add_46 (fun H locs hP hD hS => ?_)
      have hP : va_P (dC, dI) vwCl [(ha0, .inr (9, [.int y16, .int y17, .int ia0_2, .int ia0_3, .int y14]))] H := hP
      have hD : va_D A [(ha0, .inr (9, [.int y16, .int y17, .int ia0_2, .int ia0_3, .int y14]))] := hD
      refine lv_aload_n hx hb dX9_add_49 rfl (lv_at hl 0 rfl) ?_
      refine lv_iload_n hx hb dX9_add_50 rfl (lv_at hl 1 rfl) ?_
      refine va_put (D := (dC, dI)) (ci := 9) (v := .int p1) (ty := .int) (C := RX9) (T := TX9) (N := 5) hx hb hts in_X9_add_X9 tyX9 tyX9_ok nmX9 hown hK hP hD hS 0 rfl rfl 2 (by decide) (hts (.fieldLink RX9 18 "EachOnHisCue$Saying" "latest" "I") (by decide +kernel)) (fun _ h9 => h9) rfl (by decide +kernel) rfl rfl (Nat.le_of_ble_eq_true rfl) dX9_add_51 (fun H locs hP hD hS => ?_)
      have hP : va_P (dC, dI) vwCl [(ha0, .inr (9, [.int y16, .int y17, .int p1, .int ia0_3, .int y14]))] H := hP
      have hD : va_D A [(ha0, .inr (9, [.int y16, .int y17, .int p1, .int ia0_3, .int y14]))] := hD
      refine lv_aload_n hx hb dX9_add_54 rfl (lv_at hl 0 rfl) ?_
      refine lv_dup hx hb dX9_add_55 rfl ?_
      refine va_get (D := (dC, dI)) (ci := 9) (v := .int ia0_3) (C := RX9) (T := TX9) (N := 5) hx hb hts in_X9_add_X9 hown hK hP 0 rfl rfl 3 (by decide) (hts (.fieldLink RX9 21 "EachOnHisCue$Saying" "times" "I") (by decide +kernel)) (fun _ h9 => h9) rfl dX9_add_56 ?_
      refine lv_iconst (v := 1) hx hb dX9_add_59 (by decide) ?_
      refine lv_iadd hx hb dX9_add_60 ?_
      refine lv_topi (fun y18 ey18 => ?_)
      refine va_put (D := (dC, dI)) (ci := 9) (v := .int y18) (ty := .int) (C := RX9) (T := TX9) (N := 5) hx hb hts in_X9_add_X9 tyX9 tyX9_ok nmX9 hown hK hP hD hS 0 rfl rfl 3 (by decide) (hts (.fieldLink RX9 21 "EachOnHisCue$Saying" "times" "I") (by decide +kernel)) (fun _ h9 => h9) rfl (by decide +kernel) rfl rfl (Nat.le_of_ble_eq_true rfl) dX9_add_61 (fun H locs hP hD hS => ?_)
      have hP : va_P (dC, dI) vwCl [(ha0, .inr (9, [.int y16, .int y17, .int p1, .int y18, .int y14]))] H := hP
      have hD : va_D A [(ha0, .inr (9, [.int y16, .int y17, .int p1, .int y18, .int y14]))] := hD
      have hP9 := hP.sub (ws' := [(ha0, .inr (9, [.int y16, .int y17, .int p1, .int y18, .int y14]))]) [0] rfl
      have hD9 := hD.sub (ws' := [(ha0, .inr (9, [.int y16, .int y17, .int p1, .int y18, .int y14]))]) [0] (by decide) rfl
      have hpo : (((y16 : Int32) = ia0_0 ||| ((1 : Int32) <<< (p1 &&& 31)) ∧ (y17 : Int32) = ia0_1 ||| p2 ∧ (p1 : Int32) = p1 ∧ (y18 : Int32) = ia0_3 + 1) ∧ zLq ia0_3 ia0_2 p1 ia0_4 (y14 : Int32)) := by exact ⟨⟨by rw [ey16, ey15], ey17, rfl, ey18⟩, Or.inl ⟨by omega, by rw [← ey7]; omega, ey14⟩⟩
      exact W.vret hx hb hr (fun t ht hW => ⟨⟨(fun k => [y16, y17, p1, y18, y14].getD k 0, fun k => [].getD k (fun _ => 0)), rfl, (show ((-2147483648) ≤ (y16 : Int32).toInt ∧ (y16 : Int32).toInt ≤ 2147483647) ∧ ((-2147483648) ≤ (y17 : Int32).toInt ∧ (y17 : Int32).toInt ≤ 2147483647) ∧ ((-2147483648) ≤ (p1 : Int32).toInt ∧ (p1 : Int32).toInt ≤ 2147483647) ∧ ((-2147483648) ≤ (y18 : Int32).toInt ∧ (y18 : Int32).toInt ≤ 2147483647) ∧ ((-2147483648) ≤ (y14 : Int32).toInt ∧ (y14 : Int32).toInt ≤ 2147483647) ∧ ((((y16 : Int32) = ia0_0 ||| ((1 : Int32) <<< (p1 &&& 31)) ∧ (y17 : Int32) = ia0_1 ||| p2 ∧ (p1 : Int32) = p1 ∧ (y18 : Int32) = ia0_3 + 1) ∧ zLq ia0_3 ia0_2 p1 ia0_4 (y14 : Int32))) from ⟨⟨(z_lo _), (z_hi _)⟩, ⟨(z_lo _), (z_hi _)⟩, ⟨hp1l, hp1h⟩, ⟨(z_lo _), (z_hi _)⟩, ⟨(z_lo _), (z_hi _)⟩, hpo⟩), by rw [ht]; exact hP9, hD9⟩, hS.F ht⟩) hS.2.2 dX9_add_64
