theorem dX12_comesWith_0 : decode cX12_comesWith 0 = .ok (.aload_n 0, 1) := by decide +kernel
theorem dX12_comesWith_1 : decode cX12_comesWith 1 = .ok (.getfield 13, 3) := by decide +kernel
theorem dX12_comesWith_4 : decode cX12_comesWith 4 = .ok (.iload_n 1, 1) := by decide +kernel
theorem dX12_comesWith_5 : decode cX12_comesWith 5 = .ok (.iaload, 1) := by decide +kernel
theorem dX12_comesWith_6 : decode cX12_comesWith 6 = .ok (.iconst 4, 1) := by decide +kernel
theorem dX12_comesWith_7 : decode cX12_comesWith 7 = .ok (.if_icmp .eq 15, 3) := by decide +kernel
theorem dX12_comesWith_10 : decode cX12_comesWith 10 = .ok (.aload_n 0, 1) := by decide +kernel
theorem dX12_comesWith_11 : decode cX12_comesWith 11 = .ok (.getfield 154, 3) := by decide +kernel
theorem dX12_comesWith_14 : decode cX12_comesWith 14 = .ok (.iload_n 1, 1) := by decide +kernel
theorem dX12_comesWith_15 : decode cX12_comesWith 15 = .ok (.ishr, 1) := by decide +kernel
theorem dX12_comesWith_16 : decode cX12_comesWith 16 = .ok (.iconst 1, 1) := by decide +kernel
theorem dX12_comesWith_17 : decode cX12_comesWith 17 = .ok (.iand, 1) := by decide +kernel
theorem dX12_comesWith_18 : decode cX12_comesWith 18 = .ok (.iconst 1, 1) := by decide +kernel
theorem dX12_comesWith_19 : decode cX12_comesWith 19 = .ok (.if_icmp .ne 6, 3) := by decide +kernel
theorem dX12_comesWith_22 : decode cX12_comesWith 22 = .ok (.bipush (-9), 2) := by decide +kernel
theorem dX12_comesWith_24 : decode cX12_comesWith 24 = .ok (.ireturn, 1) := by decide +kernel
theorem dX12_comesWith_25 : decode cX12_comesWith 25 = .ok (.aload_n 0, 1) := by decide +kernel
theorem dX12_comesWith_26 : decode cX12_comesWith 26 = .ok (.getfield 13, 3) := by decide +kernel
theorem dX12_comesWith_29 : decode cX12_comesWith 29 = .ok (.iload_n 1, 1) := by decide +kernel
theorem dX12_comesWith_30 : decode cX12_comesWith 30 = .ok (.iaload, 1) := by decide +kernel
theorem dX12_comesWith_31 : decode cX12_comesWith 31 = .ok (.iconst 1, 1) := by decide +kernel
theorem dX12_comesWith_32 : decode cX12_comesWith 32 = .ok (.if_icmp .eq 13, 3) := by decide +kernel
theorem dX12_comesWith_35 : decode cX12_comesWith 35 = .ok (.aload_n 0, 1) := by decide +kernel
theorem dX12_comesWith_36 : decode cX12_comesWith 36 = .ok (.getfield 13, 3) := by decide +kernel
theorem dX12_comesWith_39 : decode cX12_comesWith 39 = .ok (.iload_n 1, 1) := by decide +kernel
theorem dX12_comesWith_40 : decode cX12_comesWith 40 = .ok (.iaload, 1) := by decide +kernel
theorem dX12_comesWith_41 : decode cX12_comesWith 41 = .ok (.iconst 5, 1) := by decide +kernel
theorem dX12_comesWith_42 : decode cX12_comesWith 42 = .ok (.if_icmp .ne 7, 3) := by decide +kernel
theorem dX12_comesWith_45 : decode cX12_comesWith 45 = .ok (.iconst 1, 1) := by decide +kernel
theorem dX12_comesWith_46 : decode cX12_comesWith 46 = .ok (.goto 4, 3) := by decide +kernel
theorem dX12_comesWith_49 : decode cX12_comesWith 49 = .ok (.iconst 0, 1) := by decide +kernel
theorem dX12_comesWith_50 : decode cX12_comesWith 50 = .ok (.istore_n 3, 1) := by decide +kernel
theorem dX12_comesWith_51 : decode cX12_comesWith 51 = .ok (.bipush (-9), 2) := by decide +kernel
theorem dX12_comesWith_53 : decode cX12_comesWith 53 = .ok (.istore 4, 2) := by decide +kernel
theorem dX12_comesWith_55 : decode cX12_comesWith 55 = .ok (.iconst 0, 1) := by decide +kernel
theorem dX12_comesWith_56 : decode cX12_comesWith 56 = .ok (.istore 5, 2) := by decide +kernel
theorem dX12_comesWith_58 : decode cX12_comesWith 58 = .ok (.iload 5, 2) := by decide +kernel
theorem dX12_comesWith_60 : decode cX12_comesWith 60 = .ok (.aload_n 0, 1) := by decide +kernel
theorem dX12_comesWith_61 : decode cX12_comesWith 61 = .ok (.getfield 79, 3) := by decide +kernel
theorem dX12_comesWith_64 : decode cX12_comesWith 64 = .ok (.if_icmp .ge 90, 3) := by decide +kernel
theorem dX12_comesWith_67 : decode cX12_comesWith 67 = .ok (.aload_n 0, 1) := by decide +kernel
theorem dX12_comesWith_68 : decode cX12_comesWith 68 = .ok (.getfield 22, 3) := by decide +kernel
theorem dX12_comesWith_71 : decode cX12_comesWith 71 = .ok (.iload 5, 2) := by decide +kernel
theorem dX12_comesWith_73 : decode cX12_comesWith 73 = .ok (.iaload, 1) := by decide +kernel
theorem dX12_comesWith_74 : decode cX12_comesWith 74 = .ok (.iload_n 1, 1) := by decide +kernel
theorem dX12_comesWith_75 : decode cX12_comesWith 75 = .ok (.if_icmp .ne 73, 3) := by decide +kernel
theorem dX12_comesWith_78 : decode cX12_comesWith 78 = .ok (.iload_n 3, 1) := by decide +kernel
theorem dX12_comesWith_79 : decode cX12_comesWith 79 = .ok (.ifCond .ne 19, 3) := by decide +kernel
theorem dX12_comesWith_82 : decode cX12_comesWith 82 = .ok (.aload_n 0, 1) := by decide +kernel
theorem dX12_comesWith_83 : decode cX12_comesWith 83 = .ok (.getfield 151, 3) := by decide +kernel
theorem dX12_comesWith_86 : decode cX12_comesWith 86 = .ok (.iload 5, 2) := by decide +kernel
theorem dX12_comesWith_88 : decode cX12_comesWith 88 = .ok (.ishr, 1) := by decide +kernel
theorem dX12_comesWith_89 : decode cX12_comesWith 89 = .ok (.iconst 1, 1) := by decide +kernel
theorem dX12_comesWith_90 : decode cX12_comesWith 90 = .ok (.iand, 1) := by decide +kernel
theorem dX12_comesWith_91 : decode cX12_comesWith 91 = .ok (.iconst 1, 1) := by decide +kernel
theorem dX12_comesWith_92 : decode cX12_comesWith 92 = .ok (.if_icmp .ne 6, 3) := by decide +kernel
theorem dX12_comesWith_95 : decode cX12_comesWith 95 = .ok (.goto 53, 3) := by decide +kernel
theorem dX12_comesWith_98 : decode cX12_comesWith 98 = .ok (.aload_n 0, 1) := by decide +kernel
theorem dX12_comesWith_99 : decode cX12_comesWith 99 = .ok (.iload 5, 2) := by decide +kernel
theorem dX12_comesWith_101 : decode cX12_comesWith 101 = .ok (.iload_n 2, 1) := by decide +kernel
theorem dX12_comesWith_102 : decode cX12_comesWith 102 = .ok (.invokevirtual 188, 3) := by decide +kernel
theorem dX12_comesWith_105 : decode cX12_comesWith 105 = .ok (.istore 6, 2) := by decide +kernel
theorem dX12_comesWith_107 : decode cX12_comesWith 107 = .ok (.iload_n 3, 1) := by decide +kernel
theorem dX12_comesWith_108 : decode cX12_comesWith 108 = .ok (.ifCond .ne 16, 3) := by decide +kernel
theorem dX12_comesWith_111 : decode cX12_comesWith 111 = .ok (.iload 6, 2) := by decide +kernel
theorem dX12_comesWith_113 : decode cX12_comesWith 113 = .ok (.ifCond .eq 8, 3) := by decide +kernel
theorem dX12_comesWith_116 : decode cX12_comesWith 116 = .ok (.iload 5, 2) := by decide +kernel
theorem dX12_comesWith_118 : decode cX12_comesWith 118 = .ok (.goto 5, 3) := by decide +kernel
theorem dX12_comesWith_121 : decode cX12_comesWith 121 = .ok (.bipush (-9), 2) := by decide +kernel
theorem dX12_comesWith_123 : decode cX12_comesWith 123 = .ok (.ireturn, 1) := by decide +kernel
theorem dX12_comesWith_124 : decode cX12_comesWith 124 = .ok (.iload 6, 2) := by decide +kernel
theorem dX12_comesWith_126 : decode cX12_comesWith 126 = .ok (.ifCond .eq 22, 3) := by decide +kernel
theorem dX12_comesWith_129 : decode cX12_comesWith 129 = .ok (.iload 4, 2) := by decide +kernel
theorem dX12_comesWith_131 : decode cX12_comesWith 131 = .ok (.ifCond .lt 13, 3) := by decide +kernel
theorem dX12_comesWith_134 : decode cX12_comesWith 134 = .ok (.aload_n 0, 1) := by decide +kernel
theorem dX12_comesWith_135 : decode cX12_comesWith 135 = .ok (.getfield 13, 3) := by decide +kernel
theorem dX12_comesWith_138 : decode cX12_comesWith 138 = .ok (.iload_n 1, 1) := by decide +kernel
theorem dX12_comesWith_139 : decode cX12_comesWith 139 = .ok (.iaload, 1) := by decide +kernel
theorem dX12_comesWith_140 : decode cX12_comesWith 140 = .ok (.iconst 5, 1) := by decide +kernel
theorem dX12_comesWith_141 : decode cX12_comesWith 141 = .ok (.if_icmp .ne 7, 3) := by decide +kernel
theorem dX12_comesWith_144 : decode cX12_comesWith 144 = .ok (.iload 5, 2) := by decide +kernel
theorem dX12_comesWith_146 : decode cX12_comesWith 146 = .ok (.istore 4, 2) := by decide +kernel
theorem dX12_comesWith_148 : decode cX12_comesWith 148 = .ok (.iinc 5 1, 3) := by decide +kernel
theorem dX12_comesWith_151 : decode cX12_comesWith 151 = .ok (.goto (-93), 3) := by decide +kernel
theorem dX12_comesWith_154 : decode cX12_comesWith 154 = .ok (.iload 4, 2) := by decide +kernel
theorem dX12_comesWith_156 : decode cX12_comesWith 156 = .ok (.ireturn, 1) := by decide +kernel
noncomputable def vsX12_comesWith : List Cond := .code yX12_comesWith cX12_comesWith 7 (some .int) :: (([.fieldLink RX12 13 "EachOnHisCueModel" "kind" "[I", .fieldLink RX12 154 "EachOnHisCueModel" "dead" "I", .fieldLink RX12 79 "EachOnHisCueModel" "lines" "I", .fieldLink RX12 22 "EachOnHisCueModel" "whose" "[I", .fieldLink RX12 151 "EachOnHisCueModel" "said" "I", .methodLink RX12 188 yX12_isCued, .instanceMethod yX12_isCued, .selects RX12 yX12_isCued yX12_isCued, .initialized RX12, .code yX12_isCued cX12_isCued 5 (some .boolean), .fieldLink RX12 28 "EachOnHisCueModel" "cue" "[I", .fieldLink RX12 16 "EachOnHisCueModel" "figure" "[I", .methodLink RX12 175 yX12_least, .static yX12_least, .code yX12_least cX12_least 2 (some .int), .methodLink RX12 185 yX12_doesEnd, .instanceMethod yX12_doesEnd, .selects RX12 yX12_doesEnd yX12_doesEnd, .code yX12_doesEnd cX12_doesEnd 6 (some .boolean), .fieldLink RX12 25 "EachOnHisCueModel" "many" "[I", .fieldLink RX12 34 "EachOnHisCueModel" "word" "[I", .methodLink RX12 179 yX12_saidWords, .instanceMethod yX12_saidWords, .selects RX12 yX12_saidWords yX12_saidWords, .code yX12_saidWords cX12_saidWords 2 (some .int), .fieldLink RX12 59 "EachOnHisCueModel" "joked" "I", .methodLink RX12 182 yX12_saidWord, .instanceMethod yX12_saidWord, .selects RX12 yX12_saidWord yX12_saidWord, .code yX12_saidWord cX12_saidWord 3 (some .int), .fieldLink RX12 172 "EachOnHisCueModel" "joke" "I"] : List Cond) ++ wsX120)
theorem in_X12_comesWith_X12 : ∀ w ∈ wsX120, w ∈ vsX12_comesWith := fun _ h => List.mem_cons_of_mem _ (List.mem_append_right _ h)
set_option maxRecDepth 20000 in
theorem gw_X12_comesWith_X12_isCued : GoodIn vsX12_comesWith vsX12_isCued := goodIn_r _ [10, 4, 1, 11, 12, 13, 14, 9, 15, 16, 17, 18, 19, 20, 21, 22, 23, 24, 25, 26, 27, 28, 29, 30, 31, 32, 33, 34, 35, 36, 37, 38, 39, 40, 41, 42, 43, 44, 45, 46, 47, 48, 49, 50, 51, 52, 53, 54, 55, 56, 57, 58, 59, 60, 61, 62, 63, 64, 65, 66, 67, 68, 69] (by decide +kernel) (by decide +kernel)
set_option maxRecDepth 20000 in
theorem gv_X12_comesWith_X12_isCued_188 : GoodIn vsX12_comesWith (wsV RX12 188 RX12 yX12_isCued vsX12_isCued) := goodIn_app (goodIn_of _ (by decide +kernel)) gw_X12_comesWith_X12_isCued
set_option maxHeartbeats 4000000 in
set_option maxRecDepth 100000 in
theorem rX12_comesWith (l : Launch) (dC : Nat → ClassId) (dI : Nat → Nat → Nat) (cI cQ : ClassId) (ha0 ha0_1 ha0_2 ha0_4 ha0_5 ha0_6 ha0_8 ha0_0 ha0_3 ha0_7 ha0_16 ha0_17 ha0_18 ha0_19 ha0_23 ha0_29 ha0_33 ha0_34 ha0_35 : Nat) (fa0_1 : Nat → Int32) (fa0_2 : Nat → Int32) (fa0_4 : Nat → Int32) (hBfa0_4 : ∀ k, 0 ≤ (fa0_4 k).toInt ∧ (fa0_4 k).toInt ≤ 4) (fa0_5 : Nat → Int32) (hBfa0_5 : ∀ k, 0 ≤ (fa0_5 k).toInt ∧ (fa0_5 k).toInt ≤ 4) (fa0_6 : Nat → Int32) (hBfa0_6 : ∀ k, 0 ≤ (fa0_6 k).toInt ∧ (fa0_6 k).toInt ≤ 9) (fa0_8 : Nat → Int32) (ia0_9 : Int32) (hia0_9l : 0 ≤ ia0_9.toInt) (hia0_9h : ia0_9.toInt ≤ 5) (ia0_10 : Int32) (hia0_10l : 0 ≤ ia0_10.toInt) (hia0_10h : ia0_10.toInt ≤ 12) (ia0_11 : Int32) (ia0_12 : Int32) (ia0_13 : Int32) (ia0_14 : Int32) (hia0_14l : (-9) ≤ ia0_14.toInt) (hia0_14h : ia0_14.toInt ≤ 11) (ia0_15 : Int32) (ia0_20 : Int32) (hia0_20l : 0 ≤ ia0_20.toInt) (hia0_20h : ia0_20.toInt ≤ 80) (ia0_21 : Int32) (hia0_21l : 0 ≤ ia0_21.toInt) (hia0_21h : ia0_21.toInt ≤ 80) (ia0_22 : Int32) (hia0_22l : 0 ≤ ia0_22.toInt) (hia0_22h : ia0_22.toInt ≤ 40) (ia0_24 : Int32) (hia0_24l : 0 ≤ ia0_24.toInt) (hia0_24h : ia0_24.toInt ≤ 1) (ia0_25 : Int32) (hia0_25l : 0 ≤ ia0_25.toInt) (hia0_25h : ia0_25.toInt ≤ 1) (ia0_26 : Int32) (hia0_26l : 0 ≤ ia0_26.toInt) (hia0_26h : ia0_26.toInt ≤ 300) (ia0_27 : Int32) (hia0_27l : (-9) ≤ ia0_27.toInt) (hia0_27h : ia0_27.toInt ≤ 11) (ia0_28 : Int32) (ia0_30 : Int32) (hia0_30l : 0 ≤ ia0_30.toInt) (hia0_30h : ia0_30.toInt ≤ 60) (ia0_31 : Int32) (ia0_32 : Int32) (hia0_32l : 0 ≤ ia0_32.toInt) (hia0_32h : ia0_32.toInt ≤ 1) (ia0_36 : Int32) (hia0_36l : 0 ≤ ia0_36.toInt) (hia0_36h : ia0_36.toInt ≤ 12) (ia0_37 : Int32) (p1 : Int32) (hp1l : 0 ≤ p1.toInt) (hp1h : p1.toInt ≤ 4) (p2 : Int32) (hp2l : 0 ≤ p2.toInt) (hp2h : p2.toInt ≤ 11) : Met l yX12_comesWith vsX12_comesWith ({ frames := 3, cells := 0, slots := 0, locals := 71 }) (va_Pc [.ref ha0, .int p1, .int p2] (zRB dC dI cI cQ [(ha0_1, .inl (cI, 5, .inl fa0_1)), (ha0_2, .inl (cI, 5, .inl fa0_2)), (ha0_4, .inl (cI, 12, .inl fa0_4)), (ha0_5, .inl (cI, 12, .inl fa0_5)), (ha0_6, .inl (cI, 12, .inl fa0_6)), (ha0_8, .inl (cI, 60, .inl fa0_8)), (ha0, .inr (12, [.ref ha0_0, .ref ha0_1, .ref ha0_2, .ref ha0_3, .ref ha0_4, .ref ha0_5, .ref ha0_6, .ref ha0_7, .ref ha0_8, .int ia0_9, .int ia0_10, .int ia0_11, .int ia0_12, .int ia0_13, .int ia0_14, .int ia0_15, .ref ha0_16, .ref ha0_17, .ref ha0_18, .ref ha0_19, .int ia0_20, .int ia0_21, .int ia0_22, .ref ha0_23, .int ia0_24, .int ia0_25, .int ia0_26, .int ia0_27, .int ia0_28, .ref ha0_29, .int ia0_30, .int ia0_31, .int ia0_32, .ref ha0_33, .ref ha0_34, .ref ha0_35, .int ia0_36, .int ia0_37]))])) (vp_Si (fun r => (-9) ≤ r.toInt ∧ r.toInt ≤ 2147483647)) 0 0 (fun _ => False) := by
  refine Met.ofW (cc := cX12_comesWith) (maxL := 7) (ret := (some .int)) (by decide) rfl ?_
  intro p e s m args below meth c s₁ B hml hv
  obtain ⟨rfl, hP, hZ⟩ := hv
  obtain ⟨hK, hAO, hN⟩ := id hZ
  have hx := B.exec
  have hb := B.bytes
  have hr := B.returns
  have hts := atoms_spec (ws := vsX12_comesWith) B.pre
  have hown : s.vm.findClass RX12 = some m.cls := findClass_of_methodNamed B.named
  have hlocks := B.notSynchronized
  have hl := lv_entry ([.ref ha0, .int p1, .int p2]) (n := 7) (Nat.le_of_ble_eq_true rfl)
  rw [lg_entry_eq]
  generalize (lg_sl ([.ref ha0, .int p1, .int p2]) ++ List.replicate (7 - (lg_sl ([.ref ha0, .int p1, .int p2])).length) Slot.unset).toArray = ls at hl ⊢
  have hl : lv_has ls 7 [(0, .ref ha0), (1, .int p1), (2, .int p2)] := hl
  refine lv_aload_n hx hb dX12_comesWith_0 rfl (lv_at hl 0 rfl) ?_
  refine va_get (D := (dC, dI)) (ci := 12) (v := .ref ha0_1) (C := RX12) (T := TX12) (N := 38) hx hb hts in_X12_comesWith_X12 hown hK hP 6 rfl rfl 1 (by decide) (hts (.fieldLink RX12 13 "EachOnHisCueModel" "kind" "[I") (by decide +kernel)) (fun _ h9 => h9) rfl dX12_comesWith_1 ?_
  refine lv_iload_n hx hb dX12_comesWith_4 rfl (lv_at hl 1 rfl) ?_
  refine va_iald hx hb hK hP 0 0 rfl rfl (z_in (by omega) (by omega)) dX12_comesWith_5 ?_
  refine lv_topi (fun y1 ey1 => ?_)
  have gy1 : y1.toInt = (fa0_1 (p1 : Int32).toNatClampNeg).toInt := by rw [ey1]
  refine lv_iconst (v := 4) hx hb dX12_comesWith_6 (by decide) ?_
  refine lv_icmp_eq (tgt := 22) hx hb dX12_comesWith_7 (by decide) (fun hc => ?_) (fun hc => ?_)
  · have q2 : y1.toInt = 4 := z_eq rfl (by decide) hc
    refine lv_bipush (v := (-9)) hx hb dX12_comesWith_22 (by decide) ?_
    exact W.iret (v := (-9)) hx hb hr (fun t ht hW => ⟨(-9), rfl, ⟨by first | omega | decide | exact z_lo _, by first | omega | decide | exact z_hi _⟩, ht⟩) (fun _ h => absurd h List.not_mem_nil) dX12_comesWith_24
  · have q3 : y1.toInt ≠ 4 := z_ne rfl (by decide) hc
    refine lv_aload_n hx hb dX12_comesWith_10 rfl (lv_at hl 0 rfl) ?_
    refine va_get (D := (dC, dI)) (ci := 12) (v := .int ia0_13) (C := RX12) (T := TX12) (N := 38) hx hb hts in_X12_comesWith_X12 hown hK hP 6 rfl rfl 13 (by decide) (hts (.fieldLink RX12 154 "EachOnHisCueModel" "dead" "I") (by decide +kernel)) (fun _ h9 => h9) rfl dX12_comesWith_11 ?_
    refine lv_iload_n hx hb dX12_comesWith_14 rfl (lv_at hl 1 rfl) ?_
    refine lv_ishr hx hb dX12_comesWith_15 ?_
    refine lv_topi (fun y4 ey4 => ?_)
    refine lv_iconst (v := 1) hx hb dX12_comesWith_16 (by decide) ?_
    refine lv_iand hx hb dX12_comesWith_17 ?_
    refine lv_topi (fun y5 ey5 => ?_)
    have hy5 : 0 ≤ y5.toInt ∧ y5.toInt ≤ 1 := by rw [ey5]; exact z_and1 _
    obtain ⟨hy5, hy5_⟩ := hy5
    refine lv_iconst (v := 1) hx hb dX12_comesWith_18 (by decide) ?_
    refine lv_icmp_ne (tgt := 25) hx hb dX12_comesWith_19 (by decide) (fun hc => ?_) (fun hc => ?_)
    · have q6 : y5.toInt ≠ 1 := z_ne rfl (by decide) hc
      refine lv_aload_n hx hb dX12_comesWith_25 rfl (lv_at hl 0 rfl) ?_
      refine va_get (D := (dC, dI)) (ci := 12) (v := .ref ha0_1) (C := RX12) (T := TX12) (N := 38) hx hb hts in_X12_comesWith_X12 hown hK hP 6 rfl rfl 1 (by decide) (hts (.fieldLink RX12 13 "EachOnHisCueModel" "kind" "[I") (by decide +kernel)) (fun _ h9 => h9) rfl dX12_comesWith_26 ?_
      refine lv_iload_n hx hb dX12_comesWith_29 rfl (lv_at hl 1 rfl) ?_
      refine va_iald hx hb hK hP 0 0 rfl rfl (z_in (by omega) (by omega)) dX12_comesWith_30 ?_
      refine lv_topi (fun y7 ey7 => ?_)
      obtain rfl : y1 = y7 := ey1.trans ey7.symm
      refine lv_iconst (v := 1) hx hb dX12_comesWith_31 (by decide) ?_
      refine lv_icmp_eq (tgt := 45) hx hb dX12_comesWith_32 (by decide) (fun hc => ?_) (fun hc => ?_)
      · have q8 : y1.toInt = 1 := z_eq rfl (by decide) hc
        refine lv_iconst (v := 1) hx hb dX12_comesWith_45 (by decide) ?_
        refine lv_goto (tgt := 50) hx hb dX12_comesWith_46 (by decide) ?_
        refine lv_istore_n (lv' := [(3, .int 1), (0, .ref ha0), (1, .int p1), (2, .int p2)]) hx hb dX12_comesWith_50 rfl hl (by decide) rfl (fun ls hl => ?_)
        refine lv_bipush (v := (-9)) hx hb dX12_comesWith_51 (by decide) ?_
        refine lv_istore (lv' := [(4, .int (-9)), (3, .int 1), (0, .ref ha0), (1, .int p1), (2, .int p2)]) hx hb dX12_comesWith_53 hl (by decide) rfl (fun ls hl => ?_)
        refine lv_iconst (v := 0) hx hb dX12_comesWith_55 (by decide) ?_
        refine lv_istore (lv' := [(5, .int 0), (4, .int (-9)), (3, .int 1), (0, .ref ha0), (1, .int p1), (2, .int p2)]) hx hb dX12_comesWith_56 hl (by decide) rfl (fun ls hl => ?_)
        have hL109 : ∀ (n : Nat) (v9 : Int32) (v10 : Int32) (ls : Array Slot), 0 ≤ v9.toInt → v9.toInt ≤ 12 → (-9) ≤ v10.toInt → (12 - v9.toInt).toNat < n → lv_has ls 7 [(5, .int v9), (4, .int v10), (3, .int 1), (0, .ref ha0), (1, .int p1), (2, .int p2)] → W p l e (headSpec vsX12_comesWith ({ frames := 3, cells := 0, slots := 0, locals := 71 })).room s m ([.ref ha0, .int p1, .int p2] : List Value).toArray below meth c s.heap [] 0 0 (MQ below (vp_Si (fun r => (-9) ≤ r.toInt ∧ r.toInt ≤ 2147483647)) ([.ref ha0, .int p1, .int p2] : List Value).toArray s 0 0 (fun _ => False)) (F0 m 58 ls []) := by
          intro n
          induction n with
          | zero =>
            intro v9 v10 ls hi110_0 hi110_1 hi110_2 hi110_m hl
            exact absurd hi110_m (Nat.not_lt_zero _)
          | succ n ih =>
            intro v9 v10 ls hi110_0 hi110_1 hi110_2 hi110_m hl
            have ih111 := ih
            refine lv_iload hx hb dX12_comesWith_58 (lv_at hl 0 rfl) ?_
            refine lv_aload_n hx hb dX12_comesWith_60 rfl (lv_at hl 3 rfl) ?_
            refine va_get (D := (dC, dI)) (ci := 12) (v := .int ia0_10) (C := RX12) (T := TX12) (N := 38) hx hb hts in_X12_comesWith_X12 hown hK hP 6 rfl rfl 10 (by decide) (hts (.fieldLink RX12 79 "EachOnHisCueModel" "lines" "I") (by decide +kernel)) (fun _ h9 => h9) rfl dX12_comesWith_61 ?_
            refine lv_icmp_ge (tgt := 154) hx hb dX12_comesWith_64 (by decide) (fun hc => ?_) (fun hc => ?_)
            · have q112 : ia0_10.toInt ≤ v9.toInt := z_le rfl rfl hc
              refine lv_iload hx hb dX12_comesWith_154 (lv_at hl 1 rfl) ?_
              exact W.iret (v := v10) hx hb hr (fun t ht hW => ⟨v10, rfl, ⟨by first | omega | decide | exact z_lo _, by first | omega | decide | exact z_hi _⟩, ht⟩) (fun _ h => absurd h List.not_mem_nil) dX12_comesWith_156
            · have q113 : v9.toInt < ia0_10.toInt := z_nle rfl rfl hc
              refine lv_aload_n hx hb dX12_comesWith_67 rfl (lv_at hl 3 rfl) ?_
              refine va_get (D := (dC, dI)) (ci := 12) (v := .ref ha0_4) (C := RX12) (T := TX12) (N := 38) hx hb hts in_X12_comesWith_X12 hown hK hP 6 rfl rfl 4 (by decide) (hts (.fieldLink RX12 22 "EachOnHisCueModel" "whose" "[I") (by decide +kernel)) (fun _ h9 => h9) rfl dX12_comesWith_68 ?_
              refine lv_iload hx hb dX12_comesWith_71 (lv_at hl 0 rfl) ?_
              refine va_iald hx hb hK hP 2 0 rfl rfl (z_in (by omega) (by omega)) dX12_comesWith_73 ?_
              refine lv_topi (fun y114 ey114 => ?_)
              have gy114 : y114.toInt = (fa0_4 (v9 : Int32).toNatClampNeg).toInt := by rw [ey114]
              have hy114 : 0 ≤ y114.toInt ∧ y114.toInt ≤ 4 := by rw [ey114]; exact hBfa0_4 _
              obtain ⟨hy114, hy114_⟩ := hy114
              refine lv_iload_n hx hb dX12_comesWith_74 rfl (lv_at hl 4 rfl) ?_
              refine lv_icmp_ne (tgt := 148) hx hb dX12_comesWith_75 (by decide) (fun hc => ?_) (fun hc => ?_)
              · have q115 : y114.toInt ≠ p1.toInt := z_ne rfl rfl hc
                obtain ⟨y116, ey116⟩ : ∃ y : Int32, y = v9 + 1 := ⟨_, rfl⟩
                refine lv_iinc (v := y116) (lv' := [(5, .int y116), (4, .int v10), (3, .int 1), (0, .ref ha0), (1, .int p1), (2, .int p2)]) hx hb dX12_comesWith_148 hl (k := 0) rfl (by rw [ey116]; rfl) (by decide) rfl (fun ls hl => ?_)
                have hy116 : y116.toInt = v9.toInt + 1 := by rw [ey116]; exact z_add rfl (by decide) (by omega) (by omega)
                refine lv_goto (tgt := 58) hx hb dX12_comesWith_151 (by decide) ?_
                exact ih111 y116 v10 ls (by first | omega | decide | exact z_lo _ | exact z_hi _) (by first | omega | decide | exact z_lo _ | exact z_hi _) (by first | omega | decide | exact z_lo _ | exact z_hi _) (by omega) (lv_sub hl [0, 1, 2, 3, 4, 5] rfl)
              · have q117 : y114.toInt = p1.toInt := z_eq rfl rfl hc
                refine lv_iload_n hx hb dX12_comesWith_78 rfl (lv_at hl 2 rfl) ?_
                refine lv_if_ne (tgt := 98) hx hb dX12_comesWith_79 (by decide) (fun hc => ?_) (fun hc => ?_)
                · skip
                  refine lv_aload_n hx hb dX12_comesWith_98 rfl (lv_at hl 3 rfl) ?_
                  refine lv_iload hx hb dX12_comesWith_99 (lv_at hl 0 rfl) ?_
                  refine lv_iload_n hx hb dX12_comesWith_101 rfl (lv_at hl 5 rfl) ?_
                  refine z_rdi (va_runV (As := [.int v9, .int p2]) (rest := []) ⟨hx, hb, hml, hown, hts⟩ (rX12_isCued l dC dI cI cQ ha0 ha0_1 ha0_2 ha0_4 ha0_5 ha0_6 ha0_8 ha0_0 ha0_3 ha0_7 ha0_16 ha0_17 ha0_18 ha0_19 ha0_23 ha0_29 ha0_33 ha0_34 ha0_35 fa0_1 fa0_2 fa0_4 hBfa0_4 fa0_5 hBfa0_5 fa0_6 hBfa0_6 fa0_8 ia0_9 (by first | omega | decide | exact z_lo _ | exact z_hi _) (by first | omega | decide | exact z_lo _ | exact z_hi _) ia0_10 (by first | omega | decide | exact z_lo _ | exact z_hi _) (by first | omega | decide | exact z_lo _ | exact z_hi _) ia0_11 ia0_12 ia0_13 ia0_14 (by first | omega | decide | exact z_lo _ | exact z_hi _) (by first | omega | decide | exact z_lo _ | exact z_hi _) ia0_15 ia0_20 (by first | omega | decide | exact z_lo _ | exact z_hi _) (by first | omega | decide | exact z_lo _ | exact z_hi _) ia0_21 (by first | omega | decide | exact z_lo _ | exact z_hi _) (by first | omega | decide | exact z_lo _ | exact z_hi _) ia0_22 (by first | omega | decide | exact z_lo _ | exact z_hi _) (by first | omega | decide | exact z_lo _ | exact z_hi _) ia0_24 (by first | omega | decide | exact z_lo _ | exact z_hi _) (by first | omega | decide | exact z_lo _ | exact z_hi _) ia0_25 (by first | omega | decide | exact z_lo _ | exact z_hi _) (by first | omega | decide | exact z_lo _ | exact z_hi _) ia0_26 (by first | omega | decide | exact z_lo _ | exact z_hi _) (by first | omega | decide | exact z_lo _ | exact z_hi _) ia0_27 (by first | omega | decide | exact z_lo _ | exact z_hi _) (by first | omega | decide | exact z_lo _ | exact z_hi _) ia0_28 ia0_30 (by first | omega | decide | exact z_lo _ | exact z_hi _) (by first | omega | decide | exact z_lo _ | exact z_hi _) ia0_31 ia0_32 (by first | omega | decide | exact z_lo _ | exact z_hi _) (by first | omega | decide | exact z_lo _ | exact z_hi _) ia0_36 (by first | omega | decide | exact z_lo _ | exact z_hi _) (by first | omega | decide | exact z_lo _ | exact z_hi _) ia0_37 v9 (by first | omega | decide | exact z_lo _ | exact z_hi _) (by first | omega | decide | exact z_lo _ | exact z_hi _) p2 (by first | omega | decide | exact z_lo _ | exact z_hi _) (by first | omega | decide | exact z_lo _ | exact z_hi _)) (cwV 2 hts gv_X12_comesWith_X12_isCued_188 rfl rfl rfl (by decide +kernel) ⟨Nat.le_of_ble_eq_true rfl, Nat.le_of_ble_eq_true rfl⟩) ⟨z_blindR, va_recv hK hP (ci := 12) (q0 := 6) rfl rfl, z_preR hZ hP [0, 1, 2, 3, 4, 5, 6] rfl⟩ rfl rfl hl.1 rfl (lv_room (Nat.le_of_ble_eq_true rfl)) dX12_comesWith_102 ⟨Nat.le_of_ble_eq_true rfl, Nat.le_of_ble_eq_true rfl⟩) (fun y118 hy118 => ?_)
                  obtain ⟨hy118_0, hy118_1⟩ := hy118
                  refine lv_istore (lv' := [(6, .int y118), (5, .int v9), (4, .int v10), (3, .int 1), (0, .ref ha0), (1, .int p1), (2, .int p2)]) hx hb dX12_comesWith_105 hl (by decide) rfl (fun ls hl => ?_)
                  refine lv_iload_n hx hb dX12_comesWith_107 rfl (lv_at hl 3 rfl) ?_
                  refine lv_if_ne (tgt := 124) hx hb dX12_comesWith_108 (by decide) (fun hc => ?_) (fun hc => ?_)
                  · skip
                    refine lv_iload hx hb dX12_comesWith_124 (lv_at hl 0 rfl) ?_
                    refine lv_if_eq (tgt := 148) hx hb dX12_comesWith_126 (by decide) (fun hc => ?_) (fun hc => ?_)
                    · have q119 : y118.toInt = 0 := z_eq rfl (by decide) hc
                      obtain ⟨y120, ey120⟩ : ∃ y : Int32, y = v9 + 1 := ⟨_, rfl⟩
                      refine lv_iinc (v := y120) (lv' := [(5, .int y120), (6, .int y118), (4, .int v10), (3, .int 1), (0, .ref ha0), (1, .int p1), (2, .int p2)]) hx hb dX12_comesWith_148 hl (k := 1) rfl (by rw [ey120]; rfl) (by decide) rfl (fun ls hl => ?_)
                      have hy120 : y120.toInt = v9.toInt + 1 := by rw [ey120]; exact z_add rfl (by decide) (by omega) (by omega)
                      refine lv_goto (tgt := 58) hx hb dX12_comesWith_151 (by decide) ?_
                      exact ih111 y120 v10 ls (by first | omega | decide | exact z_lo _ | exact z_hi _) (by first | omega | decide | exact z_lo _ | exact z_hi _) (by first | omega | decide | exact z_lo _ | exact z_hi _) (by omega) (lv_sub hl [0, 2, 3, 4, 5, 6] rfl)
                    · have q121 : y118.toInt ≠ 0 := z_ne rfl (by decide) hc
                      refine lv_iload hx hb dX12_comesWith_129 (lv_at hl 2 rfl) ?_
                      refine lv_if_lt (tgt := 144) hx hb dX12_comesWith_131 (by decide) (fun hc => ?_) (fun hc => ?_)
                      · have q122 : v10.toInt < 0 := z_lt rfl (by decide) hc
                        refine lv_iload hx hb dX12_comesWith_144 (lv_at hl 1 rfl) ?_
                        refine lv_istore (lv' := [(4, .int v9), (6, .int y118), (5, .int v9), (3, .int 1), (0, .ref ha0), (1, .int p1), (2, .int p2)]) hx hb dX12_comesWith_146 hl (by decide) rfl (fun ls hl => ?_)
                        obtain ⟨y123, ey123⟩ : ∃ y : Int32, y = v9 + 1 := ⟨_, rfl⟩
                        refine lv_iinc (v := y123) (lv' := [(5, .int y123), (4, .int v9), (6, .int y118), (3, .int 1), (0, .ref ha0), (1, .int p1), (2, .int p2)]) hx hb dX12_comesWith_148 hl (k := 2) rfl (by rw [ey123]; rfl) (by decide) rfl (fun ls hl => ?_)
                        have hy123 : y123.toInt = v9.toInt + 1 := by rw [ey123]; exact z_add rfl (by decide) (by omega) (by omega)
                        refine lv_goto (tgt := 58) hx hb dX12_comesWith_151 (by decide) ?_
                        exact ih111 y123 v9 ls (by first | omega | decide | exact z_lo _ | exact z_hi _) (by first | omega | decide | exact z_lo _ | exact z_hi _) (by first | omega | decide | exact z_lo _ | exact z_hi _) (by omega) (lv_sub hl [0, 1, 3, 4, 5, 6] rfl)
                      · have q124 : 0 ≤ v10.toInt := z_nlt rfl (by decide) hc
                        refine lv_aload_n hx hb dX12_comesWith_134 rfl (lv_at hl 4 rfl) ?_
                        refine va_get (D := (dC, dI)) (ci := 12) (v := .ref ha0_1) (C := RX12) (T := TX12) (N := 38) hx hb hts in_X12_comesWith_X12 hown hK hP 6 rfl rfl 1 (by decide) (hts (.fieldLink RX12 13 "EachOnHisCueModel" "kind" "[I") (by decide +kernel)) (fun _ h9 => h9) rfl dX12_comesWith_135 ?_
                        refine lv_iload_n hx hb dX12_comesWith_138 rfl (lv_at hl 5 rfl) ?_
                        refine va_iald hx hb hK hP 0 0 rfl rfl (z_in (by omega) (by omega)) dX12_comesWith_139 ?_
                        refine lv_topi (fun y125 ey125 => ?_)
                        obtain rfl : y1 = y125 := ey1.trans ey125.symm
                        refine lv_iconst (v := 5) hx hb dX12_comesWith_140 (by decide) ?_
                        refine lv_icmp_ne (tgt := 148) hx hb dX12_comesWith_141 (by decide) (fun hc => ?_) (fun hc => ?_)
                        · have q126 : y1.toInt ≠ 5 := z_ne rfl (by decide) hc
                          obtain ⟨y127, ey127⟩ : ∃ y : Int32, y = v9 + 1 := ⟨_, rfl⟩
                          refine lv_iinc (v := y127) (lv' := [(5, .int y127), (6, .int y118), (4, .int v10), (3, .int 1), (0, .ref ha0), (1, .int p1), (2, .int p2)]) hx hb dX12_comesWith_148 hl (k := 1) rfl (by rw [ey127]; rfl) (by decide) rfl (fun ls hl => ?_)
                          have hy127 : y127.toInt = v9.toInt + 1 := by rw [ey127]; exact z_add rfl (by decide) (by omega) (by omega)
                          refine lv_goto (tgt := 58) hx hb dX12_comesWith_151 (by decide) ?_
                          exact ih111 y127 v10 ls (by first | omega | decide | exact z_lo _ | exact z_hi _) (by first | omega | decide | exact z_lo _ | exact z_hi _) (by first | omega | decide | exact z_lo _ | exact z_hi _) (by omega) (lv_sub hl [0, 2, 3, 4, 5, 6] rfl)
                        · have q128 : y1.toInt = 5 := z_eq rfl (by decide) hc
                          exfalso; omega
                  · exact absurd hc (by decide)
                · exact absurd hc (by decide)
        exact hL109 ((12 - (0 : Int32).toInt).toNat + 1) 0 (-9) ls (by first | omega | decide | exact z_lo _ | exact z_hi _) (by first | omega | decide | exact z_lo _ | exact z_hi _) (by first | omega | decide | exact z_lo _ | exact z_hi _) (by omega) hl
      · have q129 : y1.toInt ≠ 1 := z_ne rfl (by decide) hc
        refine lv_aload_n hx hb dX12_comesWith_35 rfl (lv_at hl 0 rfl) ?_
        refine va_get (D := (dC, dI)) (ci := 12) (v := .ref ha0_1) (C := RX12) (T := TX12) (N := 38) hx hb hts in_X12_comesWith_X12 hown hK hP 6 rfl rfl 1 (by decide) (hts (.fieldLink RX12 13 "EachOnHisCueModel" "kind" "[I") (by decide +kernel)) (fun _ h9 => h9) rfl dX12_comesWith_36 ?_
        refine lv_iload_n hx hb dX12_comesWith_39 rfl (lv_at hl 1 rfl) ?_
        refine va_iald hx hb hK hP 0 0 rfl rfl (z_in (by omega) (by omega)) dX12_comesWith_40 ?_
        refine lv_topi (fun y130 ey130 => ?_)
        obtain rfl : y1 = y130 := ey1.trans ey130.symm
        refine lv_iconst (v := 5) hx hb dX12_comesWith_41 (by decide) ?_
        refine lv_icmp_ne (tgt := 49) hx hb dX12_comesWith_42 (by decide) (fun hc => ?_) (fun hc => ?_)
        · have q131 : y1.toInt ≠ 5 := z_ne rfl (by decide) hc
          refine lv_iconst (v := 0) hx hb dX12_comesWith_49 (by decide) ?_
          refine lv_istore_n (lv' := [(3, .int 0), (0, .ref ha0), (1, .int p1), (2, .int p2)]) hx hb dX12_comesWith_50 rfl hl (by decide) rfl (fun ls hl => ?_)
          refine lv_bipush (v := (-9)) hx hb dX12_comesWith_51 (by decide) ?_
          refine lv_istore (lv' := [(4, .int (-9)), (3, .int 0), (0, .ref ha0), (1, .int p1), (2, .int p2)]) hx hb dX12_comesWith_53 hl (by decide) rfl (fun ls hl => ?_)
          refine lv_iconst (v := 0) hx hb dX12_comesWith_55 (by decide) ?_
          refine lv_istore (lv' := [(5, .int 0), (4, .int (-9)), (3, .int 0), (0, .ref ha0), (1, .int p1), (2, .int p2)]) hx hb dX12_comesWith_56 hl (by decide) rfl (fun ls hl => ?_)
          have hL218 : ∀ (n : Nat) (v132 : Int32) (v133 : Int32) (ls : Array Slot), 0 ≤ v132.toInt → v132.toInt ≤ 12 → (-9) ≤ v133.toInt → v133.toInt ≤ (-9) → (12 - v132.toInt).toNat < n → lv_has ls 7 [(5, .int v132), (4, .int v133), (3, .int 0), (0, .ref ha0), (1, .int p1), (2, .int p2)] → W p l e (headSpec vsX12_comesWith ({ frames := 3, cells := 0, slots := 0, locals := 71 })).room s m ([.ref ha0, .int p1, .int p2] : List Value).toArray below meth c s.heap [] 0 0 (MQ below (vp_Si (fun r => (-9) ≤ r.toInt ∧ r.toInt ≤ 2147483647)) ([.ref ha0, .int p1, .int p2] : List Value).toArray s 0 0 (fun _ => False)) (F0 m 58 ls []) := by
            intro n
            induction n with
            | zero =>
              intro v132 v133 ls hi219_0 hi219_1 hi219_2 hi219_3 hi219_m hl
              exact absurd hi219_m (Nat.not_lt_zero _)
            | succ n ih =>
              intro v132 v133 ls hi219_0 hi219_1 hi219_2 hi219_3 hi219_m hl
              have ih220 := ih
              refine lv_iload hx hb dX12_comesWith_58 (lv_at hl 0 rfl) ?_
              refine lv_aload_n hx hb dX12_comesWith_60 rfl (lv_at hl 3 rfl) ?_
              refine va_get (D := (dC, dI)) (ci := 12) (v := .int ia0_10) (C := RX12) (T := TX12) (N := 38) hx hb hts in_X12_comesWith_X12 hown hK hP 6 rfl rfl 10 (by decide) (hts (.fieldLink RX12 79 "EachOnHisCueModel" "lines" "I") (by decide +kernel)) (fun _ h9 => h9) rfl dX12_comesWith_61 ?_
              refine lv_icmp_ge (tgt := 154) hx hb dX12_comesWith_64 (by decide) (fun hc => ?_) (fun hc => ?_)
              · have q221 : ia0_10.toInt ≤ v132.toInt := z_le rfl rfl hc
                refine lv_iload hx hb dX12_comesWith_154 (lv_at hl 1 rfl) ?_
                exact W.iret (v := v133) hx hb hr (fun t ht hW => ⟨v133, rfl, ⟨by first | omega | decide | exact z_lo _, by first | omega | decide | exact z_hi _⟩, ht⟩) (fun _ h => absurd h List.not_mem_nil) dX12_comesWith_156
              · have q222 : v132.toInt < ia0_10.toInt := z_nle rfl rfl hc
                refine lv_aload_n hx hb dX12_comesWith_67 rfl (lv_at hl 3 rfl) ?_
                refine va_get (D := (dC, dI)) (ci := 12) (v := .ref ha0_4) (C := RX12) (T := TX12) (N := 38) hx hb hts in_X12_comesWith_X12 hown hK hP 6 rfl rfl 4 (by decide) (hts (.fieldLink RX12 22 "EachOnHisCueModel" "whose" "[I") (by decide +kernel)) (fun _ h9 => h9) rfl dX12_comesWith_68 ?_
                refine lv_iload hx hb dX12_comesWith_71 (lv_at hl 0 rfl) ?_
                refine va_iald hx hb hK hP 2 0 rfl rfl (z_in (by omega) (by omega)) dX12_comesWith_73 ?_
                refine lv_topi (fun y223 ey223 => ?_)
                have gy223 : y223.toInt = (fa0_4 (v132 : Int32).toNatClampNeg).toInt := by rw [ey223]
                have hy223 : 0 ≤ y223.toInt ∧ y223.toInt ≤ 4 := by rw [ey223]; exact hBfa0_4 _
                obtain ⟨hy223, hy223_⟩ := hy223
                refine lv_iload_n hx hb dX12_comesWith_74 rfl (lv_at hl 4 rfl) ?_
                refine lv_icmp_ne (tgt := 148) hx hb dX12_comesWith_75 (by decide) (fun hc => ?_) (fun hc => ?_)
                · have q224 : y223.toInt ≠ p1.toInt := z_ne rfl rfl hc
                  obtain ⟨y225, ey225⟩ : ∃ y : Int32, y = v132 + 1 := ⟨_, rfl⟩
                  refine lv_iinc (v := y225) (lv' := [(5, .int y225), (4, .int v133), (3, .int 0), (0, .ref ha0), (1, .int p1), (2, .int p2)]) hx hb dX12_comesWith_148 hl (k := 0) rfl (by rw [ey225]; rfl) (by decide) rfl (fun ls hl => ?_)
                  have hy225 : y225.toInt = v132.toInt + 1 := by rw [ey225]; exact z_add rfl (by decide) (by omega) (by omega)
                  refine lv_goto (tgt := 58) hx hb dX12_comesWith_151 (by decide) ?_
                  exact ih220 y225 v133 ls (by first | omega | decide | exact z_lo _ | exact z_hi _) (by first | omega | decide | exact z_lo _ | exact z_hi _) (by first | omega | decide | exact z_lo _ | exact z_hi _) (by first | omega | decide | exact z_lo _ | exact z_hi _) (by omega) (lv_sub hl [0, 1, 2, 3, 4, 5] rfl)
                · have q226 : y223.toInt = p1.toInt := z_eq rfl rfl hc
                  refine lv_iload_n hx hb dX12_comesWith_78 rfl (lv_at hl 2 rfl) ?_
                  refine lv_if_ne (tgt := 98) hx hb dX12_comesWith_79 (by decide) (fun hc => ?_) (fun hc => ?_)
                  · exact absurd hc (by decide)
                  · skip
                    refine lv_aload_n hx hb dX12_comesWith_82 rfl (lv_at hl 3 rfl) ?_
                    refine va_get (D := (dC, dI)) (ci := 12) (v := .int ia0_12) (C := RX12) (T := TX12) (N := 38) hx hb hts in_X12_comesWith_X12 hown hK hP 6 rfl rfl 12 (by decide) (hts (.fieldLink RX12 151 "EachOnHisCueModel" "said" "I") (by decide +kernel)) (fun _ h9 => h9) rfl dX12_comesWith_83 ?_
                    refine lv_iload hx hb dX12_comesWith_86 (lv_at hl 0 rfl) ?_
                    refine lv_ishr hx hb dX12_comesWith_88 ?_
                    refine lv_topi (fun y227 ey227 => ?_)
                    refine lv_iconst (v := 1) hx hb dX12_comesWith_89 (by decide) ?_
                    refine lv_iand hx hb dX12_comesWith_90 ?_
                    refine lv_topi (fun y228 ey228 => ?_)
                    have hy228 : 0 ≤ y228.toInt ∧ y228.toInt ≤ 1 := by rw [ey228]; exact z_and1 _
                    obtain ⟨hy228, hy228_⟩ := hy228
                    refine lv_iconst (v := 1) hx hb dX12_comesWith_91 (by decide) ?_
                    refine lv_icmp_ne (tgt := 98) hx hb dX12_comesWith_92 (by decide) (fun hc => ?_) (fun hc => ?_)
                    · have q229 : y228.toInt ≠ 1 := z_ne rfl (by decide) hc
                      refine lv_aload_n hx hb dX12_comesWith_98 rfl (lv_at hl 3 rfl) ?_
                      refine lv_iload hx hb dX12_comesWith_99 (lv_at hl 0 rfl) ?_
                      refine lv_iload_n hx hb dX12_comesWith_101 rfl (lv_at hl 5 rfl) ?_
                      refine z_rdi (va_runV (As := [.int v132, .int p2]) (rest := []) ⟨hx, hb, hml, hown, hts⟩ (rX12_isCued l dC dI cI cQ ha0 ha0_1 ha0_2 ha0_4 ha0_5 ha0_6 ha0_8 ha0_0 ha0_3 ha0_7 ha0_16 ha0_17 ha0_18 ha0_19 ha0_23 ha0_29 ha0_33 ha0_34 ha0_35 fa0_1 fa0_2 fa0_4 hBfa0_4 fa0_5 hBfa0_5 fa0_6 hBfa0_6 fa0_8 ia0_9 (by first | omega | decide | exact z_lo _ | exact z_hi _) (by first | omega | decide | exact z_lo _ | exact z_hi _) ia0_10 (by first | omega | decide | exact z_lo _ | exact z_hi _) (by first | omega | decide | exact z_lo _ | exact z_hi _) ia0_11 ia0_12 ia0_13 ia0_14 (by first | omega | decide | exact z_lo _ | exact z_hi _) (by first | omega | decide | exact z_lo _ | exact z_hi _) ia0_15 ia0_20 (by first | omega | decide | exact z_lo _ | exact z_hi _) (by first | omega | decide | exact z_lo _ | exact z_hi _) ia0_21 (by first | omega | decide | exact z_lo _ | exact z_hi _) (by first | omega | decide | exact z_lo _ | exact z_hi _) ia0_22 (by first | omega | decide | exact z_lo _ | exact z_hi _) (by first | omega | decide | exact z_lo _ | exact z_hi _) ia0_24 (by first | omega | decide | exact z_lo _ | exact z_hi _) (by first | omega | decide | exact z_lo _ | exact z_hi _) ia0_25 (by first | omega | decide | exact z_lo _ | exact z_hi _) (by first | omega | decide | exact z_lo _ | exact z_hi _) ia0_26 (by first | omega | decide | exact z_lo _ | exact z_hi _) (by first | omega | decide | exact z_lo _ | exact z_hi _) ia0_27 (by first | omega | decide | exact z_lo _ | exact z_hi _) (by first | omega | decide | exact z_lo _ | exact z_hi _) ia0_28 ia0_30 (by first | omega | decide | exact z_lo _ | exact z_hi _) (by first | omega | decide | exact z_lo _ | exact z_hi _) ia0_31 ia0_32 (by first | omega | decide | exact z_lo _ | exact z_hi _) (by first | omega | decide | exact z_lo _ | exact z_hi _) ia0_36 (by first | omega | decide | exact z_lo _ | exact z_hi _) (by first | omega | decide | exact z_lo _ | exact z_hi _) ia0_37 v132 (by first | omega | decide | exact z_lo _ | exact z_hi _) (by first | omega | decide | exact z_lo _ | exact z_hi _) p2 (by first | omega | decide | exact z_lo _ | exact z_hi _) (by first | omega | decide | exact z_lo _ | exact z_hi _)) (cwV 2 hts gv_X12_comesWith_X12_isCued_188 rfl rfl rfl (by decide +kernel) ⟨Nat.le_of_ble_eq_true rfl, Nat.le_of_ble_eq_true rfl⟩) ⟨z_blindR, va_recv hK hP (ci := 12) (q0 := 6) rfl rfl, z_preR hZ hP [0, 1, 2, 3, 4, 5, 6] rfl⟩ rfl rfl hl.1 rfl (lv_room (Nat.le_of_ble_eq_true rfl)) dX12_comesWith_102 ⟨Nat.le_of_ble_eq_true rfl, Nat.le_of_ble_eq_true rfl⟩) (fun y230 hy230 => ?_)
                      obtain ⟨hy230_0, hy230_1⟩ := hy230
                      refine lv_istore (lv' := [(6, .int y230), (5, .int v132), (4, .int v133), (3, .int 0), (0, .ref ha0), (1, .int p1), (2, .int p2)]) hx hb dX12_comesWith_105 hl (by decide) rfl (fun ls hl => ?_)
                      refine lv_iload_n hx hb dX12_comesWith_107 rfl (lv_at hl 3 rfl) ?_
                      refine lv_if_ne (tgt := 124) hx hb dX12_comesWith_108 (by decide) (fun hc => ?_) (fun hc => ?_)
                      · exact absurd hc (by decide)
                      · skip
                        refine lv_iload hx hb dX12_comesWith_111 (lv_at hl 0 rfl) ?_
                        refine lv_if_eq (tgt := 121) hx hb dX12_comesWith_113 (by decide) (fun hc => ?_) (fun hc => ?_)
                        · have q231 : y230.toInt = 0 := z_eq rfl (by decide) hc
                          refine lv_bipush (v := (-9)) hx hb dX12_comesWith_121 (by decide) ?_
                          exact W.iret (v := (-9)) hx hb hr (fun t ht hW => ⟨(-9), rfl, ⟨by first | omega | decide | exact z_lo _, by first | omega | decide | exact z_hi _⟩, ht⟩) (fun _ h => absurd h List.not_mem_nil) dX12_comesWith_123
                        · have q232 : y230.toInt ≠ 0 := z_ne rfl (by decide) hc
                          refine lv_iload hx hb dX12_comesWith_116 (lv_at hl 1 rfl) ?_
                          refine lv_goto (tgt := 123) hx hb dX12_comesWith_118 (by decide) ?_
                          exact W.iret (v := v132) hx hb hr (fun t ht hW => ⟨v132, rfl, ⟨by first | omega | decide | exact z_lo _, by first | omega | decide | exact z_hi _⟩, ht⟩) (fun _ h => absurd h List.not_mem_nil) dX12_comesWith_123
                    · have q233 : y228.toInt = 1 := z_eq rfl (by decide) hc
                      refine lv_goto (tgt := 148) hx hb dX12_comesWith_95 (by decide) ?_
                      obtain ⟨y234, ey234⟩ : ∃ y : Int32, y = v132 + 1 := ⟨_, rfl⟩
                      refine lv_iinc (v := y234) (lv' := [(5, .int y234), (4, .int v133), (3, .int 0), (0, .ref ha0), (1, .int p1), (2, .int p2)]) hx hb dX12_comesWith_148 hl (k := 0) rfl (by rw [ey234]; rfl) (by decide) rfl (fun ls hl => ?_)
                      have hy234 : y234.toInt = v132.toInt + 1 := by rw [ey234]; exact z_add rfl (by decide) (by omega) (by omega)
                      refine lv_goto (tgt := 58) hx hb dX12_comesWith_151 (by decide) ?_
                      exact ih220 y234 v133 ls (by first | omega | decide | exact z_lo _ | exact z_hi _) (by first | omega | decide | exact z_lo _ | exact z_hi _) (by first | omega | decide | exact z_lo _ | exact z_hi _) (by first | omega | decide | exact z_lo _ | exact z_hi _) (by omega) (lv_sub hl [0, 1, 2, 3, 4, 5] rfl)
          exact hL218 ((12 - (0 : Int32).toInt).toNat + 1) 0 (-9) ls (by first | omega | decide | exact z_lo _ | exact z_hi _) (by first | omega | decide | exact z_lo _ | exact z_hi _) (by first | omega | decide | exact z_lo _ | exact z_hi _) (by first | omega | decide | exact z_lo _ | exact z_hi _) (by omega) hl
        · have q235 : y1.toInt = 5 := z_eq rfl (by decide) hc
          refine lv_iconst (v := 1) hx hb dX12_comesWith_45 (by decide) ?_
          refine lv_goto (tgt := 50) hx hb dX12_comesWith_46 (by decide) ?_
          refine lv_istore_n (lv' := [(3, .int 1), (0, .ref ha0), (1, .int p1), (2, .int p2)]) hx hb dX12_comesWith_50 rfl hl (by decide) rfl (fun ls hl => ?_)
          refine lv_bipush (v := (-9)) hx hb dX12_comesWith_51 (by decide) ?_
          refine lv_istore (lv' := [(4, .int (-9)), (3, .int 1), (0, .ref ha0), (1, .int p1), (2, .int p2)]) hx hb dX12_comesWith_53 hl (by decide) rfl (fun ls hl => ?_)
          refine lv_iconst (v := 0) hx hb dX12_comesWith_55 (by decide) ?_
          refine lv_istore (lv' := [(5, .int 0), (4, .int (-9)), (3, .int 1), (0, .ref ha0), (1, .int p1), (2, .int p2)]) hx hb dX12_comesWith_56 hl (by decide) rfl (fun ls hl => ?_)
          have hL336 : ∀ (n : Nat) (v236 : Int32) (v237 : Int32) (ls : Array Slot), 0 ≤ v236.toInt → v236.toInt ≤ 12 → (-9) ≤ v237.toInt → (12 - v236.toInt).toNat < n → lv_has ls 7 [(5, .int v236), (4, .int v237), (3, .int 1), (0, .ref ha0), (1, .int p1), (2, .int p2)] → W p l e (headSpec vsX12_comesWith ({ frames := 3, cells := 0, slots := 0, locals := 71 })).room s m ([.ref ha0, .int p1, .int p2] : List Value).toArray below meth c s.heap [] 0 0 (MQ below (vp_Si (fun r => (-9) ≤ r.toInt ∧ r.toInt ≤ 2147483647)) ([.ref ha0, .int p1, .int p2] : List Value).toArray s 0 0 (fun _ => False)) (F0 m 58 ls []) := by
            intro n
            induction n with
            | zero =>
              intro v236 v237 ls hi337_0 hi337_1 hi337_2 hi337_m hl
              exact absurd hi337_m (Nat.not_lt_zero _)
            | succ n ih =>
              intro v236 v237 ls hi337_0 hi337_1 hi337_2 hi337_m hl
              have ih338 := ih
              refine lv_iload hx hb dX12_comesWith_58 (lv_at hl 0 rfl) ?_
              refine lv_aload_n hx hb dX12_comesWith_60 rfl (lv_at hl 3 rfl) ?_
              refine va_get (D := (dC, dI)) (ci := 12) (v := .int ia0_10) (C := RX12) (T := TX12) (N := 38) hx hb hts in_X12_comesWith_X12 hown hK hP 6 rfl rfl 10 (by decide) (hts (.fieldLink RX12 79 "EachOnHisCueModel" "lines" "I") (by decide +kernel)) (fun _ h9 => h9) rfl dX12_comesWith_61 ?_
              refine lv_icmp_ge (tgt := 154) hx hb dX12_comesWith_64 (by decide) (fun hc => ?_) (fun hc => ?_)
              · have q339 : ia0_10.toInt ≤ v236.toInt := z_le rfl rfl hc
                refine lv_iload hx hb dX12_comesWith_154 (lv_at hl 1 rfl) ?_
                exact W.iret (v := v237) hx hb hr (fun t ht hW => ⟨v237, rfl, ⟨by first | omega | decide | exact z_lo _, by first | omega | decide | exact z_hi _⟩, ht⟩) (fun _ h => absurd h List.not_mem_nil) dX12_comesWith_156
              · have q340 : v236.toInt < ia0_10.toInt := z_nle rfl rfl hc
                refine lv_aload_n hx hb dX12_comesWith_67 rfl (lv_at hl 3 rfl) ?_
                refine va_get (D := (dC, dI)) (ci := 12) (v := .ref ha0_4) (C := RX12) (T := TX12) (N := 38) hx hb hts in_X12_comesWith_X12 hown hK hP 6 rfl rfl 4 (by decide) (hts (.fieldLink RX12 22 "EachOnHisCueModel" "whose" "[I") (by decide +kernel)) (fun _ h9 => h9) rfl dX12_comesWith_68 ?_
                refine lv_iload hx hb dX12_comesWith_71 (lv_at hl 0 rfl) ?_
                refine va_iald hx hb hK hP 2 0 rfl rfl (z_in (by omega) (by omega)) dX12_comesWith_73 ?_
                refine lv_topi (fun y341 ey341 => ?_)
                have gy341 : y341.toInt = (fa0_4 (v236 : Int32).toNatClampNeg).toInt := by rw [ey341]
                have hy341 : 0 ≤ y341.toInt ∧ y341.toInt ≤ 4 := by rw [ey341]; exact hBfa0_4 _
                obtain ⟨hy341, hy341_⟩ := hy341
                refine lv_iload_n hx hb dX12_comesWith_74 rfl (lv_at hl 4 rfl) ?_
                refine lv_icmp_ne (tgt := 148) hx hb dX12_comesWith_75 (by decide) (fun hc => ?_) (fun hc => ?_)
                · have q342 : y341.toInt ≠ p1.toInt := z_ne rfl rfl hc
                  obtain ⟨y343, ey343⟩ : ∃ y : Int32, y = v236 + 1 := ⟨_, rfl⟩
                  refine lv_iinc (v := y343) (lv' := [(5, .int y343), (4, .int v237), (3, .int 1), (0, .ref ha0), (1, .int p1), (2, .int p2)]) hx hb dX12_comesWith_148 hl (k := 0) rfl (by rw [ey343]; rfl) (by decide) rfl (fun ls hl => ?_)
                  have hy343 : y343.toInt = v236.toInt + 1 := by rw [ey343]; exact z_add rfl (by decide) (by omega) (by omega)
                  refine lv_goto (tgt := 58) hx hb dX12_comesWith_151 (by decide) ?_
                  exact ih338 y343 v237 ls (by first | omega | decide | exact z_lo _ | exact z_hi _) (by first | omega | decide | exact z_lo _ | exact z_hi _) (by first | omega | decide | exact z_lo _ | exact z_hi _) (by omega) (lv_sub hl [0, 1, 2, 3, 4, 5] rfl)
                · have q344 : y341.toInt = p1.toInt := z_eq rfl rfl hc
                  refine lv_iload_n hx hb dX12_comesWith_78 rfl (lv_at hl 2 rfl) ?_
                  refine lv_if_ne (tgt := 98) hx hb dX12_comesWith_79 (by decide) (fun hc => ?_) (fun hc => ?_)
                  · skip
                    refine lv_aload_n hx hb dX12_comesWith_98 rfl (lv_at hl 3 rfl) ?_
                    refine lv_iload hx hb dX12_comesWith_99 (lv_at hl 0 rfl) ?_
                    refine lv_iload_n hx hb dX12_comesWith_101 rfl (lv_at hl 5 rfl) ?_
                    refine z_rdi (va_runV (As := [.int v236, .int p2]) (rest := []) ⟨hx, hb, hml, hown, hts⟩ (rX12_isCued l dC dI cI cQ ha0 ha0_1 ha0_2 ha0_4 ha0_5 ha0_6 ha0_8 ha0_0 ha0_3 ha0_7 ha0_16 ha0_17 ha0_18 ha0_19 ha0_23 ha0_29 ha0_33 ha0_34 ha0_35 fa0_1 fa0_2 fa0_4 hBfa0_4 fa0_5 hBfa0_5 fa0_6 hBfa0_6 fa0_8 ia0_9 (by first | omega | decide | exact z_lo _ | exact z_hi _) (by first | omega | decide | exact z_lo _ | exact z_hi _) ia0_10 (by first | omega | decide | exact z_lo _ | exact z_hi _) (by first | omega | decide | exact z_lo _ | exact z_hi _) ia0_11 ia0_12 ia0_13 ia0_14 (by first | omega | decide | exact z_lo _ | exact z_hi _) (by first | omega | decide | exact z_lo _ | exact z_hi _) ia0_15 ia0_20 (by first | omega | decide | exact z_lo _ | exact z_hi _) (by first | omega | decide | exact z_lo _ | exact z_hi _) ia0_21 (by first | omega | decide | exact z_lo _ | exact z_hi _) (by first | omega | decide | exact z_lo _ | exact z_hi _) ia0_22 (by first | omega | decide | exact z_lo _ | exact z_hi _) (by first | omega | decide | exact z_lo _ | exact z_hi _) ia0_24 (by first | omega | decide | exact z_lo _ | exact z_hi _) (by first | omega | decide | exact z_lo _ | exact z_hi _) ia0_25 (by first | omega | decide | exact z_lo _ | exact z_hi _) (by first | omega | decide | exact z_lo _ | exact z_hi _) ia0_26 (by first | omega | decide | exact z_lo _ | exact z_hi _) (by first | omega | decide | exact z_lo _ | exact z_hi _) ia0_27 (by first | omega | decide | exact z_lo _ | exact z_hi _) (by first | omega | decide | exact z_lo _ | exact z_hi _) ia0_28 ia0_30 (by first | omega | decide | exact z_lo _ | exact z_hi _) (by first | omega | decide | exact z_lo _ | exact z_hi _) ia0_31 ia0_32 (by first | omega | decide | exact z_lo _ | exact z_hi _) (by first | omega | decide | exact z_lo _ | exact z_hi _) ia0_36 (by first | omega | decide | exact z_lo _ | exact z_hi _) (by first | omega | decide | exact z_lo _ | exact z_hi _) ia0_37 v236 (by first | omega | decide | exact z_lo _ | exact z_hi _) (by first | omega | decide | exact z_lo _ | exact z_hi _) p2 (by first | omega | decide | exact z_lo _ | exact z_hi _) (by first | omega | decide | exact z_lo _ | exact z_hi _)) (cwV 2 hts gv_X12_comesWith_X12_isCued_188 rfl rfl rfl (by decide +kernel) ⟨Nat.le_of_ble_eq_true rfl, Nat.le_of_ble_eq_true rfl⟩) ⟨z_blindR, va_recv hK hP (ci := 12) (q0 := 6) rfl rfl, z_preR hZ hP [0, 1, 2, 3, 4, 5, 6] rfl⟩ rfl rfl hl.1 rfl (lv_room (Nat.le_of_ble_eq_true rfl)) dX12_comesWith_102 ⟨Nat.le_of_ble_eq_true rfl, Nat.le_of_ble_eq_true rfl⟩) (fun y345 hy345 => ?_)
                    obtain ⟨hy345_0, hy345_1⟩ := hy345
                    refine lv_istore (lv' := [(6, .int y345), (5, .int v236), (4, .int v237), (3, .int 1), (0, .ref ha0), (1, .int p1), (2, .int p2)]) hx hb dX12_comesWith_105 hl (by decide) rfl (fun ls hl => ?_)
                    refine lv_iload_n hx hb dX12_comesWith_107 rfl (lv_at hl 3 rfl) ?_
                    refine lv_if_ne (tgt := 124) hx hb dX12_comesWith_108 (by decide) (fun hc => ?_) (fun hc => ?_)
                    · skip
                      refine lv_iload hx hb dX12_comesWith_124 (lv_at hl 0 rfl) ?_
                      refine lv_if_eq (tgt := 148) hx hb dX12_comesWith_126 (by decide) (fun hc => ?_) (fun hc => ?_)
                      · have q346 : y345.toInt = 0 := z_eq rfl (by decide) hc
                        obtain ⟨y347, ey347⟩ : ∃ y : Int32, y = v236 + 1 := ⟨_, rfl⟩
                        refine lv_iinc (v := y347) (lv' := [(5, .int y347), (6, .int y345), (4, .int v237), (3, .int 1), (0, .ref ha0), (1, .int p1), (2, .int p2)]) hx hb dX12_comesWith_148 hl (k := 1) rfl (by rw [ey347]; rfl) (by decide) rfl (fun ls hl => ?_)
                        have hy347 : y347.toInt = v236.toInt + 1 := by rw [ey347]; exact z_add rfl (by decide) (by omega) (by omega)
                        refine lv_goto (tgt := 58) hx hb dX12_comesWith_151 (by decide) ?_
                        exact ih338 y347 v237 ls (by first | omega | decide | exact z_lo _ | exact z_hi _) (by first | omega | decide | exact z_lo _ | exact z_hi _) (by first | omega | decide | exact z_lo _ | exact z_hi _) (by omega) (lv_sub hl [0, 2, 3, 4, 5, 6] rfl)
                      · have q348 : y345.toInt ≠ 0 := z_ne rfl (by decide) hc
                        refine lv_iload hx hb dX12_comesWith_129 (lv_at hl 2 rfl) ?_
                        refine lv_if_lt (tgt := 144) hx hb dX12_comesWith_131 (by decide) (fun hc => ?_) (fun hc => ?_)
                        · have q349 : v237.toInt < 0 := z_lt rfl (by decide) hc
                          refine lv_iload hx hb dX12_comesWith_144 (lv_at hl 1 rfl) ?_
                          refine lv_istore (lv' := [(4, .int v236), (6, .int y345), (5, .int v236), (3, .int 1), (0, .ref ha0), (1, .int p1), (2, .int p2)]) hx hb dX12_comesWith_146 hl (by decide) rfl (fun ls hl => ?_)
                          obtain ⟨y350, ey350⟩ : ∃ y : Int32, y = v236 + 1 := ⟨_, rfl⟩
                          refine lv_iinc (v := y350) (lv' := [(5, .int y350), (4, .int v236), (6, .int y345), (3, .int 1), (0, .ref ha0), (1, .int p1), (2, .int p2)]) hx hb dX12_comesWith_148 hl (k := 2) rfl (by rw [ey350]; rfl) (by decide) rfl (fun ls hl => ?_)
                          have hy350 : y350.toInt = v236.toInt + 1 := by rw [ey350]; exact z_add rfl (by decide) (by omega) (by omega)
                          refine lv_goto (tgt := 58) hx hb dX12_comesWith_151 (by decide) ?_
                          exact ih338 y350 v236 ls (by first | omega | decide | exact z_lo _ | exact z_hi _) (by first | omega | decide | exact z_lo _ | exact z_hi _) (by first | omega | decide | exact z_lo _ | exact z_hi _) (by omega) (lv_sub hl [0, 1, 3, 4, 5, 6] rfl)
                        · have q351 : 0 ≤ v237.toInt := z_nlt rfl (by decide) hc
                          refine lv_aload_n hx hb dX12_comesWith_134 rfl (lv_at hl 4 rfl) ?_
                          refine va_get (D := (dC, dI)) (ci := 12) (v := .ref ha0_1) (C := RX12) (T := TX12) (N := 38) hx hb hts in_X12_comesWith_X12 hown hK hP 6 rfl rfl 1 (by decide) (hts (.fieldLink RX12 13 "EachOnHisCueModel" "kind" "[I") (by decide +kernel)) (fun _ h9 => h9) rfl dX12_comesWith_135 ?_
                          refine lv_iload_n hx hb dX12_comesWith_138 rfl (lv_at hl 5 rfl) ?_
                          refine va_iald hx hb hK hP 0 0 rfl rfl (z_in (by omega) (by omega)) dX12_comesWith_139 ?_
                          refine lv_topi (fun y352 ey352 => ?_)
                          obtain rfl : y1 = y352 := ey1.trans ey352.symm
                          refine lv_iconst (v := 5) hx hb dX12_comesWith_140 (by decide) ?_
                          refine lv_icmp_ne (tgt := 148) hx hb dX12_comesWith_141 (by decide) (fun hc => ?_) (fun hc => ?_)
                          · have q353 : y1.toInt ≠ 5 := z_ne rfl (by decide) hc
                            exfalso; omega
                          · have q354 : y1.toInt = 5 := z_eq rfl (by decide) hc
                            refine lv_iload hx hb dX12_comesWith_144 (lv_at hl 1 rfl) ?_
                            refine lv_istore (lv' := [(4, .int v236), (6, .int y345), (5, .int v236), (3, .int 1), (0, .ref ha0), (1, .int p1), (2, .int p2)]) hx hb dX12_comesWith_146 hl (by decide) rfl (fun ls hl => ?_)
                            obtain ⟨y355, ey355⟩ : ∃ y : Int32, y = v236 + 1 := ⟨_, rfl⟩
                            refine lv_iinc (v := y355) (lv' := [(5, .int y355), (4, .int v236), (6, .int y345), (3, .int 1), (0, .ref ha0), (1, .int p1), (2, .int p2)]) hx hb dX12_comesWith_148 hl (k := 2) rfl (by rw [ey355]; rfl) (by decide) rfl (fun ls hl => ?_)
                            have hy355 : y355.toInt = v236.toInt + 1 := by rw [ey355]; exact z_add rfl (by decide) (by omega) (by omega)
                            refine lv_goto (tgt := 58) hx hb dX12_comesWith_151 (by decide) ?_
                            exact ih338 y355 v236 ls (by first | omega | decide | exact z_lo _ | exact z_hi _) (by first | omega | decide | exact z_lo _ | exact z_hi _) (by first | omega | decide | exact z_lo _ | exact z_hi _) (by omega) (lv_sub hl [0, 1, 3, 4, 5, 6] rfl)
                    · exact absurd hc (by decide)
                  · exact absurd hc (by decide)
          exact hL336 ((12 - (0 : Int32).toInt).toNat + 1) 0 (-9) ls (by first | omega | decide | exact z_lo _ | exact z_hi _) (by first | omega | decide | exact z_lo _ | exact z_hi _) (by first | omega | decide | exact z_lo _ | exact z_hi _) (by omega) hl
    · have q356 : y5.toInt = 1 := z_eq rfl (by decide) hc
      refine lv_bipush (v := (-9)) hx hb dX12_comesWith_22 (by decide) ?_
      exact W.iret (v := (-9)) hx hb hr (fun t ht hW => ⟨(-9), rfl, ⟨by first | omega | decide | exact z_lo _, by first | omega | decide | exact z_hi _⟩, ht⟩) (fun _ h => absurd h List.not_mem_nil) dX12_comesWith_24
theorem dX12_isWritten_0 : decode cX12_isWritten 0 = .ok (.iconst 0, 1) := by decide +kernel
theorem dX12_isWritten_1 : decode cX12_isWritten 1 = .ok (.istore_n 1, 1) := by decide +kernel
theorem dX12_isWritten_2 : decode cX12_isWritten 2 = .ok (.iload_n 1, 1) := by decide +kernel
theorem dX12_isWritten_3 : decode cX12_isWritten 3 = .ok (.aload_n 0, 1) := by decide +kernel
theorem dX12_isWritten_4 : decode cX12_isWritten 4 = .ok (.getfield 202, 3) := by decide +kernel
theorem dX12_isWritten_7 : decode cX12_isWritten 7 = .ok (.if_icmp .ge 21, 3) := by decide +kernel
theorem dX12_isWritten_10 : decode cX12_isWritten 10 = .ok (.aload_n 0, 1) := by decide +kernel
theorem dX12_isWritten_11 : decode cX12_isWritten 11 = .ok (.getfield 62, 3) := by decide +kernel
theorem dX12_isWritten_14 : decode cX12_isWritten 14 = .ok (.iload_n 1, 1) := by decide +kernel
theorem dX12_isWritten_15 : decode cX12_isWritten 15 = .ok (.iaload, 1) := by decide +kernel
theorem dX12_isWritten_16 : decode cX12_isWritten 16 = .ok (.iload_n 1, 1) := by decide +kernel
theorem dX12_isWritten_17 : decode cX12_isWritten 17 = .ok (.if_icmp .eq 5, 3) := by decide +kernel
theorem dX12_isWritten_20 : decode cX12_isWritten 20 = .ok (.iconst 0, 1) := by decide +kernel
theorem dX12_isWritten_21 : decode cX12_isWritten 21 = .ok (.ireturn, 1) := by decide +kernel
theorem dX12_isWritten_22 : decode cX12_isWritten 22 = .ok (.iinc 1 1, 3) := by decide +kernel
theorem dX12_isWritten_25 : decode cX12_isWritten 25 = .ok (.goto (-23), 3) := by decide +kernel
theorem dX12_isWritten_28 : decode cX12_isWritten 28 = .ok (.aload_n 0, 1) := by decide +kernel
theorem dX12_isWritten_29 : decode cX12_isWritten 29 = .ok (.getfield 202, 3) := by decide +kernel
theorem dX12_isWritten_32 : decode cX12_isWritten 32 = .ok (.aload_n 0, 1) := by decide +kernel
theorem dX12_isWritten_33 : decode cX12_isWritten 33 = .ok (.getfield 79, 3) := by decide +kernel
theorem dX12_isWritten_36 : decode cX12_isWritten 36 = .ok (.if_icmp .ne 14, 3) := by decide +kernel
theorem dX12_isWritten_39 : decode cX12_isWritten 39 = .ok (.aload_n 0, 1) := by decide +kernel
theorem dX12_isWritten_40 : decode cX12_isWritten 40 = .ok (.getfield 205, 3) := by decide +kernel
theorem dX12_isWritten_43 : decode cX12_isWritten 43 = .ok (.ifCond .eq 7, 3) := by decide +kernel
theorem dX12_isWritten_46 : decode cX12_isWritten 46 = .ok (.iconst 1, 1) := by decide +kernel
theorem dX12_isWritten_47 : decode cX12_isWritten 47 = .ok (.goto 4, 3) := by decide +kernel
theorem dX12_isWritten_50 : decode cX12_isWritten 50 = .ok (.iconst 0, 1) := by decide +kernel
theorem dX12_isWritten_51 : decode cX12_isWritten 51 = .ok (.ireturn, 1) := by decide +kernel
noncomputable def vsX12_isWritten : List Cond := .code yX12_isWritten cX12_isWritten 2 (some .boolean) :: (([.fieldLink RX12 202 "EachOnHisCueModel" "nightMany" "I", .fieldLink RX12 79 "EachOnHisCueModel" "lines" "I", .fieldLink RX12 205 "EachOnHisCueModel" "doesEndThen" "Z", .fieldLink RX12 62 "EachOnHisCueModel" "night" "[I"] : List Cond) ++ wsX120)
theorem in_X12_isWritten_X12 : ∀ w ∈ wsX120, w ∈ vsX12_isWritten := fun _ h => List.mem_cons_of_mem _ (List.mem_append_right _ h)
set_option maxHeartbeats 4000000 in
set_option maxRecDepth 100000 in
theorem rX12_isWritten (l : Launch) (dC : Nat → ClassId) (dI : Nat → Nat → Nat) (cI cQ : ClassId) (ha0 ha0_29 ha0_0 ha0_1 ha0_2 ha0_3 ha0_4 ha0_5 ha0_6 ha0_7 ha0_8 ha0_16 ha0_17 ha0_18 ha0_19 ha0_23 ha0_33 ha0_34 ha0_35 : Nat) (fa0_29 : Nat → Int32) (ia0_9 : Int32) (hia0_9l : 0 ≤ ia0_9.toInt) (hia0_9h : ia0_9.toInt ≤ 5) (ia0_10 : Int32) (hia0_10l : 0 ≤ ia0_10.toInt) (hia0_10h : ia0_10.toInt ≤ 12) (ia0_11 : Int32) (ia0_12 : Int32) (ia0_13 : Int32) (ia0_14 : Int32) (hia0_14l : (-9) ≤ ia0_14.toInt) (hia0_14h : ia0_14.toInt ≤ 11) (ia0_15 : Int32) (ia0_20 : Int32) (hia0_20l : 0 ≤ ia0_20.toInt) (hia0_20h : ia0_20.toInt ≤ 80) (ia0_21 : Int32) (hia0_21l : 0 ≤ ia0_21.toInt) (hia0_21h : ia0_21.toInt ≤ 80) (ia0_22 : Int32) (hia0_22l : 0 ≤ ia0_22.toInt) (hia0_22h : ia0_22.toInt ≤ 40) (ia0_24 : Int32) (hia0_24l : 0 ≤ ia0_24.toInt) (hia0_24h : ia0_24.toInt ≤ 1) (ia0_25 : Int32) (hia0_25l : 0 ≤ ia0_25.toInt) (hia0_25h : ia0_25.toInt ≤ 1) (ia0_26 : Int32) (hia0_26l : 0 ≤ ia0_26.toInt) (hia0_26h : ia0_26.toInt ≤ 300) (ia0_27 : Int32) (hia0_27l : (-9) ≤ ia0_27.toInt) (hia0_27h : ia0_27.toInt ≤ 11) (ia0_28 : Int32) (ia0_30 : Int32) (hia0_30l : 0 ≤ ia0_30.toInt) (hia0_30h : ia0_30.toInt ≤ 60) (ia0_31 : Int32) (ia0_32 : Int32) (hia0_32l : 0 ≤ ia0_32.toInt) (hia0_32h : ia0_32.toInt ≤ 1) (ia0_36 : Int32) (hia0_36l : 0 ≤ ia0_36.toInt) (hia0_36h : ia0_36.toInt ≤ 12) (ia0_37 : Int32) : Met l yX12_isWritten vsX12_isWritten ({ frames := 0, cells := 0, slots := 0, locals := 0 }) (va_Pc [.ref ha0] (zRB dC dI cI cQ [(ha0_29, .inl (cI, 60, .inl fa0_29)), (ha0, .inr (12, [.ref ha0_0, .ref ha0_1, .ref ha0_2, .ref ha0_3, .ref ha0_4, .ref ha0_5, .ref ha0_6, .ref ha0_7, .ref ha0_8, .int ia0_9, .int ia0_10, .int ia0_11, .int ia0_12, .int ia0_13, .int ia0_14, .int ia0_15, .ref ha0_16, .ref ha0_17, .ref ha0_18, .ref ha0_19, .int ia0_20, .int ia0_21, .int ia0_22, .ref ha0_23, .int ia0_24, .int ia0_25, .int ia0_26, .int ia0_27, .int ia0_28, .ref ha0_29, .int ia0_30, .int ia0_31, .int ia0_32, .ref ha0_33, .ref ha0_34, .ref ha0_35, .int ia0_36, .int ia0_37]))])) (vp_Si (fun r => 0 ≤ r.toInt ∧ r.toInt ≤ 1)) 0 0 (fun _ => False) := by
  refine Met.ofW (cc := cX12_isWritten) (maxL := 2) (ret := (some .boolean)) (by decide) rfl ?_
  intro p e s m args below meth c s₁ B hml hv
  obtain ⟨rfl, hP, hZ⟩ := hv
  obtain ⟨hK, hAO, hN⟩ := id hZ
  have hx := B.exec
  have hb := B.bytes
  have hr := B.returns
  have hts := atoms_spec (ws := vsX12_isWritten) B.pre
  have hown : s.vm.findClass RX12 = some m.cls := findClass_of_methodNamed B.named
  have hlocks := B.notSynchronized
  have hl := lv_entry ([.ref ha0]) (n := 2) (Nat.le_of_ble_eq_true rfl)
  rw [lg_entry_eq]
  generalize (lg_sl ([.ref ha0]) ++ List.replicate (2 - (lg_sl ([.ref ha0])).length) Slot.unset).toArray = ls at hl ⊢
  have hl : lv_has ls 2 [(0, .ref ha0)] := hl
  refine lv_iconst (v := 0) hx hb dX12_isWritten_0 (by decide) ?_
  refine lv_istore_n (lv' := [(1, .int 0), (0, .ref ha0)]) hx hb dX12_isWritten_1 rfl hl (by decide) rfl (fun ls hl => ?_)
  have hL62 : ∀ (n : Nat) (v1 : Int32) (ls : Array Slot), 0 ≤ v1.toInt → v1.toInt ≤ 60 → (60 - v1.toInt).toNat < n → lv_has ls 2 [(1, .int v1), (0, .ref ha0)] → W p l e (headSpec vsX12_isWritten ({ frames := 0, cells := 0, slots := 0, locals := 0 })).room s m ([.ref ha0] : List Value).toArray below meth c s.heap [] 0 0 (MQ below (vp_Si (fun r => 0 ≤ r.toInt ∧ r.toInt ≤ 1)) ([.ref ha0] : List Value).toArray s 0 0 (fun _ => False)) (F0 m 2 ls []) := by
    intro n
    induction n with
    | zero =>
      intro v1 ls hi63_0 hi63_1 hi63_m hl
      exact absurd hi63_m (Nat.not_lt_zero _)
    | succ n ih =>
      intro v1 ls hi63_0 hi63_1 hi63_m hl
      have ih64 := ih
      refine lv_iload_n hx hb dX12_isWritten_2 rfl (lv_at hl 0 rfl) ?_
      refine lv_aload_n hx hb dX12_isWritten_3 rfl (lv_at hl 1 rfl) ?_
      refine va_get (D := (dC, dI)) (ci := 12) (v := .int ia0_30) (C := RX12) (T := TX12) (N := 38) hx hb hts in_X12_isWritten_X12 hown hK hP 1 rfl rfl 30 (by decide) (hts (.fieldLink RX12 202 "EachOnHisCueModel" "nightMany" "I") (by decide +kernel)) (fun _ h9 => h9) rfl dX12_isWritten_4 ?_
      refine lv_icmp_ge (tgt := 28) hx hb dX12_isWritten_7 (by decide) (fun hc => ?_) (fun hc => ?_)
      · have q65 : ia0_30.toInt ≤ v1.toInt := z_le rfl rfl hc
        refine lv_aload_n hx hb dX12_isWritten_28 rfl (lv_at hl 1 rfl) ?_
        refine va_get (D := (dC, dI)) (ci := 12) (v := .int ia0_30) (C := RX12) (T := TX12) (N := 38) hx hb hts in_X12_isWritten_X12 hown hK hP 1 rfl rfl 30 (by decide) (hts (.fieldLink RX12 202 "EachOnHisCueModel" "nightMany" "I") (by decide +kernel)) (fun _ h9 => h9) rfl dX12_isWritten_29 ?_
        refine lv_aload_n hx hb dX12_isWritten_32 rfl (lv_at hl 1 rfl) ?_
        refine va_get (D := (dC, dI)) (ci := 12) (v := .int ia0_10) (C := RX12) (T := TX12) (N := 38) hx hb hts in_X12_isWritten_X12 hown hK hP 1 rfl rfl 10 (by decide) (hts (.fieldLink RX12 79 "EachOnHisCueModel" "lines" "I") (by decide +kernel)) (fun _ h9 => h9) rfl dX12_isWritten_33 ?_
        refine lv_icmp_ne (tgt := 50) hx hb dX12_isWritten_36 (by decide) (fun hc => ?_) (fun hc => ?_)
        · have q66 : ia0_30.toInt ≠ ia0_10.toInt := z_ne rfl rfl hc
          refine lv_iconst (v := 0) hx hb dX12_isWritten_50 (by decide) ?_
          exact W.zret (v := 0) hx hb hr (rfl) (fun t ht hW => ⟨0, rfl, ⟨by first | omega | decide | exact z_lo _, by first | omega | decide | exact z_hi _⟩, ht⟩) (fun _ h => absurd h List.not_mem_nil) dX12_isWritten_51
        · have q67 : ia0_30.toInt = ia0_10.toInt := z_eq rfl rfl hc
          refine lv_aload_n hx hb dX12_isWritten_39 rfl (lv_at hl 1 rfl) ?_
          refine va_get (D := (dC, dI)) (ci := 12) (v := .int ia0_32) (C := RX12) (T := TX12) (N := 38) hx hb hts in_X12_isWritten_X12 hown hK hP 1 rfl rfl 32 (by decide) (hts (.fieldLink RX12 205 "EachOnHisCueModel" "doesEndThen" "Z") (by decide +kernel)) (fun _ h9 => h9) rfl dX12_isWritten_40 ?_
          refine lv_if_eq (tgt := 50) hx hb dX12_isWritten_43 (by decide) (fun hc => ?_) (fun hc => ?_)
          · have q68 : ia0_32.toInt = 0 := z_eq rfl (by decide) hc
            refine lv_iconst (v := 0) hx hb dX12_isWritten_50 (by decide) ?_
            exact W.zret (v := 0) hx hb hr (rfl) (fun t ht hW => ⟨0, rfl, ⟨by first | omega | decide | exact z_lo _, by first | omega | decide | exact z_hi _⟩, ht⟩) (fun _ h => absurd h List.not_mem_nil) dX12_isWritten_51
          · have q69 : ia0_32.toInt ≠ 0 := z_ne rfl (by decide) hc
            refine lv_iconst (v := 1) hx hb dX12_isWritten_46 (by decide) ?_
            refine lv_goto (tgt := 51) hx hb dX12_isWritten_47 (by decide) ?_
            exact W.zret (v := 1) hx hb hr (rfl) (fun t ht hW => ⟨1, rfl, ⟨by first | omega | decide | exact z_lo _, by first | omega | decide | exact z_hi _⟩, ht⟩) (fun _ h => absurd h List.not_mem_nil) dX12_isWritten_51
      · have q70 : v1.toInt < ia0_30.toInt := z_nle rfl rfl hc
        refine lv_aload_n hx hb dX12_isWritten_10 rfl (lv_at hl 1 rfl) ?_
        refine va_get (D := (dC, dI)) (ci := 12) (v := .ref ha0_29) (C := RX12) (T := TX12) (N := 38) hx hb hts in_X12_isWritten_X12 hown hK hP 1 rfl rfl 29 (by decide) (hts (.fieldLink RX12 62 "EachOnHisCueModel" "night" "[I") (by decide +kernel)) (fun _ h9 => h9) rfl dX12_isWritten_11 ?_
        refine lv_iload_n hx hb dX12_isWritten_14 rfl (lv_at hl 0 rfl) ?_
        refine va_iald hx hb hK hP 0 0 rfl rfl (z_in (by omega) (by omega)) dX12_isWritten_15 ?_
        refine lv_topi (fun y71 ey71 => ?_)
        have gy71 : y71.toInt = (fa0_29 (v1 : Int32).toNatClampNeg).toInt := by rw [ey71]
        refine lv_iload_n hx hb dX12_isWritten_16 rfl (lv_at hl 0 rfl) ?_
        refine lv_icmp_eq (tgt := 22) hx hb dX12_isWritten_17 (by decide) (fun hc => ?_) (fun hc => ?_)
        · have q72 : y71.toInt = v1.toInt := z_eq rfl rfl hc
          obtain ⟨y73, ey73⟩ : ∃ y : Int32, y = v1 + 1 := ⟨_, rfl⟩
          refine lv_iinc (v := y73) (lv' := [(1, .int y73), (0, .ref ha0)]) hx hb dX12_isWritten_22 hl (k := 0) rfl (by rw [ey73]; rfl) (by decide) rfl (fun ls hl => ?_)
          have hy73 : y73.toInt = v1.toInt + 1 := by rw [ey73]; exact z_add rfl (by decide) (by omega) (by omega)
          refine lv_goto (tgt := 2) hx hb dX12_isWritten_25 (by decide) ?_
          exact ih64 y73 ls (by first | omega | decide | exact z_lo _ | exact z_hi _) (by first | omega | decide | exact z_lo _ | exact z_hi _) (by omega) (lv_sub hl [0, 1] rfl)
        · have q74 : y71.toInt ≠ v1.toInt := z_ne rfl rfl hc
          refine lv_iconst (v := 0) hx hb dX12_isWritten_20 (by decide) ?_
          exact W.zret (v := 0) hx hb hr (rfl) (fun t ht hW => ⟨0, rfl, ⟨by first | omega | decide | exact z_lo _, by first | omega | decide | exact z_hi _⟩, ht⟩) (fun _ h => absurd h List.not_mem_nil) dX12_isWritten_21
  exact hL62 ((60 - (0 : Int32).toInt).toNat + 1) 0 ls (by first | omega | decide | exact z_lo _ | exact z_hi _) (by first | omega | decide | exact z_lo _ | exact z_hi _) (by omega) hl
theorem dX12_leaps_0 : decode cX12_leaps 0 = .ok (.iconst 0, 1) := by decide +kernel
theorem dX12_leaps_1 : decode cX12_leaps 1 = .ok (.istore_n 1, 1) := by decide +kernel
theorem dX12_leaps_2 : decode cX12_leaps 2 = .ok (.iconst 1, 1) := by decide +kernel
theorem dX12_leaps_3 : decode cX12_leaps 3 = .ok (.istore_n 2, 1) := by decide +kernel
theorem dX12_leaps_4 : decode cX12_leaps 4 = .ok (.iload_n 2, 1) := by decide +kernel
theorem dX12_leaps_5 : decode cX12_leaps 5 = .ok (.aload_n 0, 1) := by decide +kernel
theorem dX12_leaps_6 : decode cX12_leaps 6 = .ok (.getfield 202, 3) := by decide +kernel
theorem dX12_leaps_9 : decode cX12_leaps 9 = .ok (.if_icmp .ge 36, 3) := by decide +kernel
theorem dX12_leaps_12 : decode cX12_leaps 12 = .ok (.iload_n 1, 1) := by decide +kernel
theorem dX12_leaps_13 : decode cX12_leaps 13 = .ok (.aload_n 0, 1) := by decide +kernel
theorem dX12_leaps_14 : decode cX12_leaps 14 = .ok (.getfield 62, 3) := by decide +kernel
theorem dX12_leaps_17 : decode cX12_leaps 17 = .ok (.iload_n 2, 1) := by decide +kernel
theorem dX12_leaps_18 : decode cX12_leaps 18 = .ok (.iaload, 1) := by decide +kernel
theorem dX12_leaps_19 : decode cX12_leaps 19 = .ok (.aload_n 0, 1) := by decide +kernel
theorem dX12_leaps_20 : decode cX12_leaps 20 = .ok (.getfield 62, 3) := by decide +kernel
theorem dX12_leaps_23 : decode cX12_leaps 23 = .ok (.iload_n 2, 1) := by decide +kernel
theorem dX12_leaps_24 : decode cX12_leaps 24 = .ok (.iconst 1, 1) := by decide +kernel
theorem dX12_leaps_25 : decode cX12_leaps 25 = .ok (.isub, 1) := by decide +kernel
theorem dX12_leaps_26 : decode cX12_leaps 26 = .ok (.iaload, 1) := by decide +kernel
theorem dX12_leaps_27 : decode cX12_leaps 27 = .ok (.iconst 1, 1) := by decide +kernel
theorem dX12_leaps_28 : decode cX12_leaps 28 = .ok (.iadd, 1) := by decide +kernel
theorem dX12_leaps_29 : decode cX12_leaps 29 = .ok (.if_icmp .ne 7, 3) := by decide +kernel
theorem dX12_leaps_32 : decode cX12_leaps 32 = .ok (.iconst 0, 1) := by decide +kernel
theorem dX12_leaps_33 : decode cX12_leaps 33 = .ok (.goto 4, 3) := by decide +kernel
theorem dX12_leaps_36 : decode cX12_leaps 36 = .ok (.iconst 1, 1) := by decide +kernel
theorem dX12_leaps_37 : decode cX12_leaps 37 = .ok (.iadd, 1) := by decide +kernel
theorem dX12_leaps_38 : decode cX12_leaps 38 = .ok (.istore_n 1, 1) := by decide +kernel
theorem dX12_leaps_39 : decode cX12_leaps 39 = .ok (.iinc 2 1, 3) := by decide +kernel
theorem dX12_leaps_42 : decode cX12_leaps 42 = .ok (.goto (-38), 3) := by decide +kernel
theorem dX12_leaps_45 : decode cX12_leaps 45 = .ok (.iload_n 1, 1) := by decide +kernel
theorem dX12_leaps_46 : decode cX12_leaps 46 = .ok (.ireturn, 1) := by decide +kernel
noncomputable def vsX12_leaps : List Cond := .code yX12_leaps cX12_leaps 3 (some .int) :: (([.fieldLink RX12 202 "EachOnHisCueModel" "nightMany" "I", .fieldLink RX12 62 "EachOnHisCueModel" "night" "[I"] : List Cond) ++ wsX120)
theorem in_X12_leaps_X12 : ∀ w ∈ wsX120, w ∈ vsX12_leaps := fun _ h => List.mem_cons_of_mem _ (List.mem_append_right _ h)
set_option maxHeartbeats 4000000 in
set_option maxRecDepth 100000 in
theorem rX12_leaps (l : Launch) (dC : Nat → ClassId) (dI : Nat → Nat → Nat) (cI cQ : ClassId) (ha0 ha0_29 ha0_0 ha0_1 ha0_2 ha0_3 ha0_4 ha0_5 ha0_6 ha0_7 ha0_8 ha0_16 ha0_17 ha0_18 ha0_19 ha0_23 ha0_33 ha0_34 ha0_35 : Nat) (fa0_29 : Nat → Int32) (ia0_9 : Int32) (hia0_9l : 0 ≤ ia0_9.toInt) (hia0_9h : ia0_9.toInt ≤ 5) (ia0_10 : Int32) (hia0_10l : 0 ≤ ia0_10.toInt) (hia0_10h : ia0_10.toInt ≤ 12) (ia0_11 : Int32) (ia0_12 : Int32) (ia0_13 : Int32) (ia0_14 : Int32) (hia0_14l : (-9) ≤ ia0_14.toInt) (hia0_14h : ia0_14.toInt ≤ 11) (ia0_15 : Int32) (ia0_20 : Int32) (hia0_20l : 0 ≤ ia0_20.toInt) (hia0_20h : ia0_20.toInt ≤ 80) (ia0_21 : Int32) (hia0_21l : 0 ≤ ia0_21.toInt) (hia0_21h : ia0_21.toInt ≤ 80) (ia0_22 : Int32) (hia0_22l : 0 ≤ ia0_22.toInt) (hia0_22h : ia0_22.toInt ≤ 40) (ia0_24 : Int32) (hia0_24l : 0 ≤ ia0_24.toInt) (hia0_24h : ia0_24.toInt ≤ 1) (ia0_25 : Int32) (hia0_25l : 0 ≤ ia0_25.toInt) (hia0_25h : ia0_25.toInt ≤ 1) (ia0_26 : Int32) (hia0_26l : 0 ≤ ia0_26.toInt) (hia0_26h : ia0_26.toInt ≤ 300) (ia0_27 : Int32) (hia0_27l : (-9) ≤ ia0_27.toInt) (hia0_27h : ia0_27.toInt ≤ 11) (ia0_28 : Int32) (ia0_30 : Int32) (hia0_30l : 0 ≤ ia0_30.toInt) (hia0_30h : ia0_30.toInt ≤ 60) (ia0_31 : Int32) (ia0_32 : Int32) (hia0_32l : 0 ≤ ia0_32.toInt) (hia0_32h : ia0_32.toInt ≤ 1) (ia0_36 : Int32) (hia0_36l : 0 ≤ ia0_36.toInt) (hia0_36h : ia0_36.toInt ≤ 12) (ia0_37 : Int32) : Met l yX12_leaps vsX12_leaps ({ frames := 0, cells := 0, slots := 0, locals := 0 }) (va_Pc [.ref ha0] (zRB dC dI cI cQ [(ha0_29, .inl (cI, 60, .inl fa0_29)), (ha0, .inr (12, [.ref ha0_0, .ref ha0_1, .ref ha0_2, .ref ha0_3, .ref ha0_4, .ref ha0_5, .ref ha0_6, .ref ha0_7, .ref ha0_8, .int ia0_9, .int ia0_10, .int ia0_11, .int ia0_12, .int ia0_13, .int ia0_14, .int ia0_15, .ref ha0_16, .ref ha0_17, .ref ha0_18, .ref ha0_19, .int ia0_20, .int ia0_21, .int ia0_22, .ref ha0_23, .int ia0_24, .int ia0_25, .int ia0_26, .int ia0_27, .int ia0_28, .ref ha0_29, .int ia0_30, .int ia0_31, .int ia0_32, .ref ha0_33, .ref ha0_34, .ref ha0_35, .int ia0_36, .int ia0_37]))])) (vp_Si (fun r => (-2147483648) ≤ r.toInt ∧ r.toInt ≤ 2147483647)) 0 0 (fun _ => False) := by
  refine Met.ofW (cc := cX12_leaps) (maxL := 3) (ret := (some .int)) (by decide) rfl ?_
  intro p e s m args below meth c s₁ B hml hv
  obtain ⟨rfl, hP, hZ⟩ := hv
  obtain ⟨hK, hAO, hN⟩ := id hZ
  have hx := B.exec
  have hb := B.bytes
  have hr := B.returns
  have hts := atoms_spec (ws := vsX12_leaps) B.pre
  have hown : s.vm.findClass RX12 = some m.cls := findClass_of_methodNamed B.named
  have hlocks := B.notSynchronized
  have hl := lv_entry ([.ref ha0]) (n := 3) (Nat.le_of_ble_eq_true rfl)
  rw [lg_entry_eq]
  generalize (lg_sl ([.ref ha0]) ++ List.replicate (3 - (lg_sl ([.ref ha0])).length) Slot.unset).toArray = ls at hl ⊢
  have hl : lv_has ls 3 [(0, .ref ha0)] := hl
  refine lv_iconst (v := 0) hx hb dX12_leaps_0 (by decide) ?_
  refine lv_istore_n (lv' := [(1, .int 0), (0, .ref ha0)]) hx hb dX12_leaps_1 rfl hl (by decide) rfl (fun ls hl => ?_)
  refine lv_iconst (v := 1) hx hb dX12_leaps_2 (by decide) ?_
  refine lv_istore_n (lv' := [(2, .int 1), (1, .int 0), (0, .ref ha0)]) hx hb dX12_leaps_3 rfl hl (by decide) rfl (fun ls hl => ?_)
  have hL87 : ∀ (n : Nat) (v1 : Int32) (v2 : Int32) (ls : Array Slot), 1 ≤ v1.toInt → v1.toInt ≤ 60 → (60 - v1.toInt).toNat < n → lv_has ls 3 [(2, .int v1), (1, .int v2), (0, .ref ha0)] → W p l e (headSpec vsX12_leaps ({ frames := 0, cells := 0, slots := 0, locals := 0 })).room s m ([.ref ha0] : List Value).toArray below meth c s.heap [] 0 0 (MQ below (vp_Si (fun r => (-2147483648) ≤ r.toInt ∧ r.toInt ≤ 2147483647)) ([.ref ha0] : List Value).toArray s 0 0 (fun _ => False)) (F0 m 4 ls []) := by
    intro n
    induction n with
    | zero =>
      intro v1 v2 ls hi88_0 hi88_1 hi88_m hl
      exact absurd hi88_m (Nat.not_lt_zero _)
    | succ n ih =>
      intro v1 v2 ls hi88_0 hi88_1 hi88_m hl
      have ih89 := ih
      refine lv_iload_n hx hb dX12_leaps_4 rfl (lv_at hl 0 rfl) ?_
      refine lv_aload_n hx hb dX12_leaps_5 rfl (lv_at hl 2 rfl) ?_
      refine va_get (D := (dC, dI)) (ci := 12) (v := .int ia0_30) (C := RX12) (T := TX12) (N := 38) hx hb hts in_X12_leaps_X12 hown hK hP 1 rfl rfl 30 (by decide) (hts (.fieldLink RX12 202 "EachOnHisCueModel" "nightMany" "I") (by decide +kernel)) (fun _ h9 => h9) rfl dX12_leaps_6 ?_
      refine lv_icmp_ge (tgt := 45) hx hb dX12_leaps_9 (by decide) (fun hc => ?_) (fun hc => ?_)
      · have q90 : ia0_30.toInt ≤ v1.toInt := z_le rfl rfl hc
        refine lv_iload_n hx hb dX12_leaps_45 rfl (lv_at hl 1 rfl) ?_
        exact W.iret (v := v2) hx hb hr (fun t ht hW => ⟨v2, rfl, ⟨by first | omega | decide | exact z_lo _, by first | omega | decide | exact z_hi _⟩, ht⟩) (fun _ h => absurd h List.not_mem_nil) dX12_leaps_46
      · have q91 : v1.toInt < ia0_30.toInt := z_nle rfl rfl hc
        refine lv_iload_n hx hb dX12_leaps_12 rfl (lv_at hl 1 rfl) ?_
        refine lv_aload_n hx hb dX12_leaps_13 rfl (lv_at hl 2 rfl) ?_
        refine va_get (D := (dC, dI)) (ci := 12) (v := .ref ha0_29) (C := RX12) (T := TX12) (N := 38) hx hb hts in_X12_leaps_X12 hown hK hP 1 rfl rfl 29 (by decide) (hts (.fieldLink RX12 62 "EachOnHisCueModel" "night" "[I") (by decide +kernel)) (fun _ h9 => h9) rfl dX12_leaps_14 ?_
        refine lv_iload_n hx hb dX12_leaps_17 rfl (lv_at hl 0 rfl) ?_
        refine va_iald hx hb hK hP 0 0 rfl rfl (z_in (by omega) (by omega)) dX12_leaps_18 ?_
        refine lv_topi (fun y92 ey92 => ?_)
        have gy92 : y92.toInt = (fa0_29 (v1 : Int32).toNatClampNeg).toInt := by rw [ey92]
        refine lv_aload_n hx hb dX12_leaps_19 rfl (lv_at hl 2 rfl) ?_
        refine va_get (D := (dC, dI)) (ci := 12) (v := .ref ha0_29) (C := RX12) (T := TX12) (N := 38) hx hb hts in_X12_leaps_X12 hown hK hP 1 rfl rfl 29 (by decide) (hts (.fieldLink RX12 62 "EachOnHisCueModel" "night" "[I") (by decide +kernel)) (fun _ h9 => h9) rfl dX12_leaps_20 ?_
        refine lv_iload_n hx hb dX12_leaps_23 rfl (lv_at hl 0 rfl) ?_
        refine lv_iconst (v := 1) hx hb dX12_leaps_24 (by decide) ?_
        refine lv_isub hx hb dX12_leaps_25 ?_
        refine lv_topi (fun y93 ey93 => ?_)
        have hy93 : y93.toInt = v1.toInt - 1 := by rw [ey93]; exact z_sub rfl (by decide) (by omega) (by omega)
        refine va_iald hx hb hK hP 0 0 rfl rfl (z_in (by omega) (by omega)) dX12_leaps_26 ?_
        refine lv_topi (fun y94 ey94 => ?_)
        have gy94 : y94.toInt = (fa0_29 (y93 : Int32).toNatClampNeg).toInt := by rw [ey94]
        refine lv_iconst (v := 1) hx hb dX12_leaps_27 (by decide) ?_
        refine lv_iadd hx hb dX12_leaps_28 ?_
        refine lv_topi (fun y95 ey95 => ?_)
        refine lv_icmp_ne (tgt := 36) hx hb dX12_leaps_29 (by decide) (fun hc => ?_) (fun hc => ?_)
        · have q96 : y92.toInt ≠ y95.toInt := z_ne rfl rfl hc
          refine lv_iconst (v := 1) hx hb dX12_leaps_36 (by decide) ?_
          refine lv_iadd hx hb dX12_leaps_37 ?_
          refine lv_topi (fun y97 ey97 => ?_)
          refine lv_istore_n (lv' := [(1, .int y97), (2, .int v1), (0, .ref ha0)]) hx hb dX12_leaps_38 rfl hl (by decide) rfl (fun ls hl => ?_)
          obtain ⟨y98, ey98⟩ : ∃ y : Int32, y = v1 + 1 := ⟨_, rfl⟩
          refine lv_iinc (v := y98) (lv' := [(2, .int y98), (1, .int y97), (0, .ref ha0)]) hx hb dX12_leaps_39 hl (k := 1) rfl (by rw [ey98]; rfl) (by decide) rfl (fun ls hl => ?_)
          have hy98 : y98.toInt = v1.toInt + 1 := by rw [ey98]; exact z_add rfl (by decide) (by omega) (by omega)
          refine lv_goto (tgt := 4) hx hb dX12_leaps_42 (by decide) ?_
          exact ih89 y98 y97 ls (by first | omega | decide | exact z_lo _ | exact z_hi _) (by first | omega | decide | exact z_lo _ | exact z_hi _) (by omega) (lv_sub hl [0, 1, 2] rfl)
        · have q99 : y92.toInt = y95.toInt := z_eq rfl rfl hc
          refine lv_iconst (v := 0) hx hb dX12_leaps_32 (by decide) ?_
          refine lv_goto (tgt := 37) hx hb dX12_leaps_33 (by decide) ?_
          refine lv_iadd hx hb dX12_leaps_37 ?_
          refine lv_topi (fun y100 ey100 => ?_)
          have := z_lo v2
          have := z_hi v2
          have hy100 : y100.toInt = v2.toInt + 0 := by rw [ey100]; exact z_add rfl (by decide) (by omega) (by omega)
          refine lv_istore_n (lv' := [(1, .int y100), (2, .int v1), (0, .ref ha0)]) hx hb dX12_leaps_38 rfl hl (by decide) rfl (fun ls hl => ?_)
          obtain ⟨y101, ey101⟩ : ∃ y : Int32, y = v1 + 1 := ⟨_, rfl⟩
          refine lv_iinc (v := y101) (lv' := [(2, .int y101), (1, .int y100), (0, .ref ha0)]) hx hb dX12_leaps_39 hl (k := 1) rfl (by rw [ey101]; rfl) (by decide) rfl (fun ls hl => ?_)
          have hy101 : y101.toInt = v1.toInt + 1 := by rw [ey101]; exact z_add rfl (by decide) (by omega) (by omega)
          refine lv_goto (tgt := 4) hx hb dX12_leaps_42 (by decide) ?_
          exact ih89 y101 y100 ls (by first | omega | decide | exact z_lo _ | exact z_hi _) (by first | omega | decide | exact z_lo _ | exact z_hi _) (by omega) (lv_sub hl [0, 1, 2] rfl)
  exact hL87 ((60 - (1 : Int32).toInt).toNat + 1) 1 0 ls (by first | omega | decide | exact z_lo _ | exact z_hi _) (by first | omega | decide | exact z_lo _ | exact z_hi _) (by omega) hl
theorem dX12_followOf_0 : decode cX12_followOf 0 = .ok (.iconst 0, 1) := by decide +kernel
theorem dX12_followOf_1 : decode cX12_followOf 1 = .ok (.istore_n 2, 1) := by decide +kernel
theorem dX12_followOf_2 : decode cX12_followOf 2 = .ok (.iconst 1, 1) := by decide +kernel
theorem dX12_followOf_3 : decode cX12_followOf 3 = .ok (.istore_n 3, 1) := by decide +kernel
theorem dX12_followOf_4 : decode cX12_followOf 4 = .ok (.iload_n 3, 1) := by decide +kernel
theorem dX12_followOf_5 : decode cX12_followOf 5 = .ok (.aload_n 0, 1) := by decide +kernel
theorem dX12_followOf_6 : decode cX12_followOf 6 = .ok (.getfield 79, 3) := by decide +kernel
theorem dX12_followOf_9 : decode cX12_followOf 9 = .ok (.if_icmp .ge 43, 3) := by decide +kernel
theorem dX12_followOf_12 : decode cX12_followOf 12 = .ok (.iload_n 2, 1) := by decide +kernel
theorem dX12_followOf_13 : decode cX12_followOf 13 = .ok (.aload_n 0, 1) := by decide +kernel
theorem dX12_followOf_14 : decode cX12_followOf 14 = .ok (.getfield 13, 3) := by decide +kernel
theorem dX12_followOf_17 : decode cX12_followOf 17 = .ok (.aload_n 0, 1) := by decide +kernel
theorem dX12_followOf_18 : decode cX12_followOf 18 = .ok (.getfield 22, 3) := by decide +kernel
theorem dX12_followOf_21 : decode cX12_followOf 21 = .ok (.iload_n 3, 1) := by decide +kernel
theorem dX12_followOf_22 : decode cX12_followOf 22 = .ok (.iaload, 1) := by decide +kernel
theorem dX12_followOf_23 : decode cX12_followOf 23 = .ok (.iaload, 1) := by decide +kernel
theorem dX12_followOf_24 : decode cX12_followOf 24 = .ok (.iconst 4, 1) := by decide +kernel
theorem dX12_followOf_25 : decode cX12_followOf 25 = .ok (.if_icmp .eq 18, 3) := by decide +kernel
theorem dX12_followOf_28 : decode cX12_followOf 28 = .ok (.aload_n 0, 1) := by decide +kernel
theorem dX12_followOf_29 : decode cX12_followOf 29 = .ok (.iload_n 3, 1) := by decide +kernel
theorem dX12_followOf_30 : decode cX12_followOf 30 = .ok (.iload_n 1, 1) := by decide +kernel
theorem dX12_followOf_31 : decode cX12_followOf 31 = .ok (.invokevirtual 188, 3) := by decide +kernel
theorem dX12_followOf_34 : decode cX12_followOf 34 = .ok (.ifCond .eq 9, 3) := by decide +kernel
theorem dX12_followOf_37 : decode cX12_followOf 37 = .ok (.iconst 1, 1) := by decide +kernel
theorem dX12_followOf_38 : decode cX12_followOf 38 = .ok (.iload_n 3, 1) := by decide +kernel
theorem dX12_followOf_39 : decode cX12_followOf 39 = .ok (.ishl, 1) := by decide +kernel
theorem dX12_followOf_40 : decode cX12_followOf 40 = .ok (.goto 4, 3) := by decide +kernel
theorem dX12_followOf_43 : decode cX12_followOf 43 = .ok (.iconst 0, 1) := by decide +kernel
theorem dX12_followOf_44 : decode cX12_followOf 44 = .ok (.ior, 1) := by decide +kernel
theorem dX12_followOf_45 : decode cX12_followOf 45 = .ok (.istore_n 2, 1) := by decide +kernel
theorem dX12_followOf_46 : decode cX12_followOf 46 = .ok (.iinc 3 1, 3) := by decide +kernel
theorem dX12_followOf_49 : decode cX12_followOf 49 = .ok (.goto (-45), 3) := by decide +kernel
theorem dX12_followOf_52 : decode cX12_followOf 52 = .ok (.iload_n 2, 1) := by decide +kernel
theorem dX12_followOf_53 : decode cX12_followOf 53 = .ok (.ireturn, 1) := by decide +kernel
noncomputable def vsX12_followOf : List Cond := .code yX12_followOf cX12_followOf 4 (some .int) :: (([.fieldLink RX12 79 "EachOnHisCueModel" "lines" "I", .fieldLink RX12 13 "EachOnHisCueModel" "kind" "[I", .fieldLink RX12 22 "EachOnHisCueModel" "whose" "[I", .methodLink RX12 188 yX12_isCued, .instanceMethod yX12_isCued, .selects RX12 yX12_isCued yX12_isCued, .initialized RX12, .code yX12_isCued cX12_isCued 5 (some .boolean), .fieldLink RX12 28 "EachOnHisCueModel" "cue" "[I", .fieldLink RX12 16 "EachOnHisCueModel" "figure" "[I", .methodLink RX12 175 yX12_least, .static yX12_least, .code yX12_least cX12_least 2 (some .int), .methodLink RX12 185 yX12_doesEnd, .instanceMethod yX12_doesEnd, .selects RX12 yX12_doesEnd yX12_doesEnd, .code yX12_doesEnd cX12_doesEnd 6 (some .boolean), .fieldLink RX12 25 "EachOnHisCueModel" "many" "[I", .fieldLink RX12 34 "EachOnHisCueModel" "word" "[I", .methodLink RX12 179 yX12_saidWords, .instanceMethod yX12_saidWords, .selects RX12 yX12_saidWords yX12_saidWords, .code yX12_saidWords cX12_saidWords 2 (some .int), .fieldLink RX12 59 "EachOnHisCueModel" "joked" "I", .methodLink RX12 182 yX12_saidWord, .instanceMethod yX12_saidWord, .selects RX12 yX12_saidWord yX12_saidWord, .code yX12_saidWord cX12_saidWord 3 (some .int), .fieldLink RX12 172 "EachOnHisCueModel" "joke" "I"] : List Cond) ++ wsX120)
theorem in_X12_followOf_X12 : ∀ w ∈ wsX120, w ∈ vsX12_followOf := fun _ h => List.mem_cons_of_mem _ (List.mem_append_right _ h)
set_option maxRecDepth 20000 in
theorem gw_X12_followOf_X12_isCued : GoodIn vsX12_followOf vsX12_isCued := goodIn_r _ [8, 3, 2, 9, 10, 11, 12, 7, 13, 14, 15, 16, 17, 18, 19, 20, 21, 22, 23, 24, 25, 26, 27, 28, 29, 30, 31, 32, 33, 34, 35, 36, 37, 38, 39, 40, 41, 42, 43, 44, 45, 46, 47, 48, 49, 50, 51, 52, 53, 54, 55, 56, 57, 58, 59, 60, 61, 62, 63, 64, 65, 66, 67] (by decide +kernel) (by decide +kernel)
set_option maxRecDepth 20000 in
theorem gv_X12_followOf_X12_isCued_188 : GoodIn vsX12_followOf (wsV RX12 188 RX12 yX12_isCued vsX12_isCued) := goodIn_app (goodIn_of _ (by decide +kernel)) gw_X12_followOf_X12_isCued
set_option maxHeartbeats 4000000 in
set_option maxRecDepth 100000 in
theorem rX12_followOf (l : Launch) (dC : Nat → ClassId) (dI : Nat → Nat → Nat) (cI cQ : ClassId) (ha0 ha0_1 ha0_2 ha0_4 ha0_5 ha0_6 ha0_8 ha0_0 ha0_3 ha0_7 ha0_16 ha0_17 ha0_18 ha0_19 ha0_23 ha0_29 ha0_33 ha0_34 ha0_35 : Nat) (fa0_1 : Nat → Int32) (fa0_2 : Nat → Int32) (fa0_4 : Nat → Int32) (hBfa0_4 : ∀ k, 0 ≤ (fa0_4 k).toInt ∧ (fa0_4 k).toInt ≤ 4) (fa0_5 : Nat → Int32) (hBfa0_5 : ∀ k, 0 ≤ (fa0_5 k).toInt ∧ (fa0_5 k).toInt ≤ 4) (fa0_6 : Nat → Int32) (hBfa0_6 : ∀ k, 0 ≤ (fa0_6 k).toInt ∧ (fa0_6 k).toInt ≤ 9) (fa0_8 : Nat → Int32) (ia0_9 : Int32) (hia0_9l : 0 ≤ ia0_9.toInt) (hia0_9h : ia0_9.toInt ≤ 5) (ia0_10 : Int32) (hia0_10l : 0 ≤ ia0_10.toInt) (hia0_10h : ia0_10.toInt ≤ 12) (ia0_11 : Int32) (ia0_12 : Int32) (ia0_13 : Int32) (ia0_14 : Int32) (hia0_14l : (-9) ≤ ia0_14.toInt) (hia0_14h : ia0_14.toInt ≤ 11) (ia0_15 : Int32) (ia0_20 : Int32) (hia0_20l : 0 ≤ ia0_20.toInt) (hia0_20h : ia0_20.toInt ≤ 80) (ia0_21 : Int32) (hia0_21l : 0 ≤ ia0_21.toInt) (hia0_21h : ia0_21.toInt ≤ 80) (ia0_22 : Int32) (hia0_22l : 0 ≤ ia0_22.toInt) (hia0_22h : ia0_22.toInt ≤ 40) (ia0_24 : Int32) (hia0_24l : 0 ≤ ia0_24.toInt) (hia0_24h : ia0_24.toInt ≤ 1) (ia0_25 : Int32) (hia0_25l : 0 ≤ ia0_25.toInt) (hia0_25h : ia0_25.toInt ≤ 1) (ia0_26 : Int32) (hia0_26l : 0 ≤ ia0_26.toInt) (hia0_26h : ia0_26.toInt ≤ 300) (ia0_27 : Int32) (hia0_27l : (-9) ≤ ia0_27.toInt) (hia0_27h : ia0_27.toInt ≤ 11) (ia0_28 : Int32) (ia0_30 : Int32) (hia0_30l : 0 ≤ ia0_30.toInt) (hia0_30h : ia0_30.toInt ≤ 60) (ia0_31 : Int32) (ia0_32 : Int32) (hia0_32l : 0 ≤ ia0_32.toInt) (hia0_32h : ia0_32.toInt ≤ 1) (ia0_36 : Int32) (hia0_36l : 0 ≤ ia0_36.toInt) (hia0_36h : ia0_36.toInt ≤ 12) (ia0_37 : Int32) (p1 : Int32) (hp1l : 0 ≤ p1.toInt) (hp1h : p1.toInt ≤ 11) : Met l yX12_followOf vsX12_followOf ({ frames := 3, cells := 0, slots := 0, locals := 71 }) (va_Pc [.ref ha0, .int p1] (zRB dC dI cI cQ [(ha0_1, .inl (cI, 5, .inl fa0_1)), (ha0_2, .inl (cI, 5, .inl fa0_2)), (ha0_4, .inl (cI, 12, .inl fa0_4)), (ha0_5, .inl (cI, 12, .inl fa0_5)), (ha0_6, .inl (cI, 12, .inl fa0_6)), (ha0_8, .inl (cI, 60, .inl fa0_8)), (ha0, .inr (12, [.ref ha0_0, .ref ha0_1, .ref ha0_2, .ref ha0_3, .ref ha0_4, .ref ha0_5, .ref ha0_6, .ref ha0_7, .ref ha0_8, .int ia0_9, .int ia0_10, .int ia0_11, .int ia0_12, .int ia0_13, .int ia0_14, .int ia0_15, .ref ha0_16, .ref ha0_17, .ref ha0_18, .ref ha0_19, .int ia0_20, .int ia0_21, .int ia0_22, .ref ha0_23, .int ia0_24, .int ia0_25, .int ia0_26, .int ia0_27, .int ia0_28, .ref ha0_29, .int ia0_30, .int ia0_31, .int ia0_32, .ref ha0_33, .ref ha0_34, .ref ha0_35, .int ia0_36, .int ia0_37]))])) (vp_Si (fun r => (-2147483648) ≤ r.toInt ∧ r.toInt ≤ 2147483647)) 0 0 (fun _ => False) := by
  refine Met.ofW (cc := cX12_followOf) (maxL := 4) (ret := (some .int)) (by decide) rfl ?_
  intro p e s m args below meth c s₁ B hml hv
  obtain ⟨rfl, hP, hZ⟩ := hv
  obtain ⟨hK, hAO, hN⟩ := id hZ
  have hx := B.exec
  have hb := B.bytes
  have hr := B.returns
  have hts := atoms_spec (ws := vsX12_followOf) B.pre
  have hown : s.vm.findClass RX12 = some m.cls := findClass_of_methodNamed B.named
  have hlocks := B.notSynchronized
  have hl := lv_entry ([.ref ha0, .int p1]) (n := 4) (Nat.le_of_ble_eq_true rfl)
  rw [lg_entry_eq]
  generalize (lg_sl ([.ref ha0, .int p1]) ++ List.replicate (4 - (lg_sl ([.ref ha0, .int p1])).length) Slot.unset).toArray = ls at hl ⊢
  have hl : lv_has ls 4 [(0, .ref ha0), (1, .int p1)] := hl
  refine lv_iconst (v := 0) hx hb dX12_followOf_0 (by decide) ?_
  refine lv_istore_n (lv' := [(2, .int 0), (0, .ref ha0), (1, .int p1)]) hx hb dX12_followOf_1 rfl hl (by decide) rfl (fun ls hl => ?_)
  refine lv_iconst (v := 1) hx hb dX12_followOf_2 (by decide) ?_
  refine lv_istore_n (lv' := [(3, .int 1), (2, .int 0), (0, .ref ha0), (1, .int p1)]) hx hb dX12_followOf_3 rfl hl (by decide) rfl (fun ls hl => ?_)
  have hL99 : ∀ (n : Nat) (v1 : Int32) (v2 : Int32) (ls : Array Slot), 1 ≤ v1.toInt → v1.toInt ≤ 12 → (12 - v1.toInt).toNat < n → lv_has ls 4 [(3, .int v1), (2, .int v2), (0, .ref ha0), (1, .int p1)] → W p l e (headSpec vsX12_followOf ({ frames := 3, cells := 0, slots := 0, locals := 71 })).room s m ([.ref ha0, .int p1] : List Value).toArray below meth c s.heap [] 0 0 (MQ below (vp_Si (fun r => (-2147483648) ≤ r.toInt ∧ r.toInt ≤ 2147483647)) ([.ref ha0, .int p1] : List Value).toArray s 0 0 (fun _ => False)) (F0 m 4 ls []) := by
    intro n
    induction n with
    | zero =>
      intro v1 v2 ls hi100_0 hi100_1 hi100_m hl
      exact absurd hi100_m (Nat.not_lt_zero _)
    | succ n ih =>
      intro v1 v2 ls hi100_0 hi100_1 hi100_m hl
      have ih101 := ih
      refine lv_iload_n hx hb dX12_followOf_4 rfl (lv_at hl 0 rfl) ?_
      refine lv_aload_n hx hb dX12_followOf_5 rfl (lv_at hl 2 rfl) ?_
      refine va_get (D := (dC, dI)) (ci := 12) (v := .int ia0_10) (C := RX12) (T := TX12) (N := 38) hx hb hts in_X12_followOf_X12 hown hK hP 6 rfl rfl 10 (by decide) (hts (.fieldLink RX12 79 "EachOnHisCueModel" "lines" "I") (by decide +kernel)) (fun _ h9 => h9) rfl dX12_followOf_6 ?_
      refine lv_icmp_ge (tgt := 52) hx hb dX12_followOf_9 (by decide) (fun hc => ?_) (fun hc => ?_)
      · have q102 : ia0_10.toInt ≤ v1.toInt := z_le rfl rfl hc
        refine lv_iload_n hx hb dX12_followOf_52 rfl (lv_at hl 1 rfl) ?_
        exact W.iret (v := v2) hx hb hr (fun t ht hW => ⟨v2, rfl, ⟨by first | omega | decide | exact z_lo _, by first | omega | decide | exact z_hi _⟩, ht⟩) (fun _ h => absurd h List.not_mem_nil) dX12_followOf_53
      · have q103 : v1.toInt < ia0_10.toInt := z_nle rfl rfl hc
        refine lv_iload_n hx hb dX12_followOf_12 rfl (lv_at hl 1 rfl) ?_
        refine lv_aload_n hx hb dX12_followOf_13 rfl (lv_at hl 2 rfl) ?_
        refine va_get (D := (dC, dI)) (ci := 12) (v := .ref ha0_1) (C := RX12) (T := TX12) (N := 38) hx hb hts in_X12_followOf_X12 hown hK hP 6 rfl rfl 1 (by decide) (hts (.fieldLink RX12 13 "EachOnHisCueModel" "kind" "[I") (by decide +kernel)) (fun _ h9 => h9) rfl dX12_followOf_14 ?_
        refine lv_aload_n hx hb dX12_followOf_17 rfl (lv_at hl 2 rfl) ?_
        refine va_get (D := (dC, dI)) (ci := 12) (v := .ref ha0_4) (C := RX12) (T := TX12) (N := 38) hx hb hts in_X12_followOf_X12 hown hK hP 6 rfl rfl 4 (by decide) (hts (.fieldLink RX12 22 "EachOnHisCueModel" "whose" "[I") (by decide +kernel)) (fun _ h9 => h9) rfl dX12_followOf_18 ?_
        refine lv_iload_n hx hb dX12_followOf_21 rfl (lv_at hl 0 rfl) ?_
        refine va_iald hx hb hK hP 2 0 rfl rfl (z_in (by omega) (by omega)) dX12_followOf_22 ?_
        refine lv_topi (fun y104 ey104 => ?_)
        have gy104 : y104.toInt = (fa0_4 (v1 : Int32).toNatClampNeg).toInt := by rw [ey104]
        have hy104 : 0 ≤ y104.toInt ∧ y104.toInt ≤ 4 := by rw [ey104]; exact hBfa0_4 _
        obtain ⟨hy104, hy104_⟩ := hy104
        refine va_iald hx hb hK hP 0 0 rfl rfl (z_in (by omega) (by omega)) dX12_followOf_23 ?_
        refine lv_topi (fun y105 ey105 => ?_)
        have gy105 : y105.toInt = (fa0_1 (y104 : Int32).toNatClampNeg).toInt := by rw [ey105]
        refine lv_iconst (v := 4) hx hb dX12_followOf_24 (by decide) ?_
        refine lv_icmp_eq (tgt := 43) hx hb dX12_followOf_25 (by decide) (fun hc => ?_) (fun hc => ?_)
        · have q106 : y105.toInt = 4 := z_eq rfl (by decide) hc
          refine lv_iconst (v := 0) hx hb dX12_followOf_43 (by decide) ?_
          refine lv_ior hx hb dX12_followOf_44 ?_
          refine lv_topi (fun y107 ey107 => ?_)
          refine lv_istore_n (lv' := [(2, .int y107), (3, .int v1), (0, .ref ha0), (1, .int p1)]) hx hb dX12_followOf_45 rfl hl (by decide) rfl (fun ls hl => ?_)
          obtain ⟨y108, ey108⟩ : ∃ y : Int32, y = v1 + 1 := ⟨_, rfl⟩
          refine lv_iinc (v := y108) (lv' := [(3, .int y108), (2, .int y107), (0, .ref ha0), (1, .int p1)]) hx hb dX12_followOf_46 hl (k := 1) rfl (by rw [ey108]; rfl) (by decide) rfl (fun ls hl => ?_)
          have hy108 : y108.toInt = v1.toInt + 1 := by rw [ey108]; exact z_add rfl (by decide) (by omega) (by omega)
          refine lv_goto (tgt := 4) hx hb dX12_followOf_49 (by decide) ?_
          exact ih101 y108 y107 ls (by first | omega | decide | exact z_lo _ | exact z_hi _) (by first | omega | decide | exact z_lo _ | exact z_hi _) (by omega) (lv_sub hl [0, 1, 2, 3] rfl)
        · have q109 : y105.toInt ≠ 4 := z_ne rfl (by decide) hc
          refine lv_aload_n hx hb dX12_followOf_28 rfl (lv_at hl 2 rfl) ?_
          refine lv_iload_n hx hb dX12_followOf_29 rfl (lv_at hl 0 rfl) ?_
          refine lv_iload_n hx hb dX12_followOf_30 rfl (lv_at hl 3 rfl) ?_
          refine z_rdi (va_runV (As := [.int v1, .int p1]) (rest := [.int v2]) ⟨hx, hb, hml, hown, hts⟩ (rX12_isCued l dC dI cI cQ ha0 ha0_1 ha0_2 ha0_4 ha0_5 ha0_6 ha0_8 ha0_0 ha0_3 ha0_7 ha0_16 ha0_17 ha0_18 ha0_19 ha0_23 ha0_29 ha0_33 ha0_34 ha0_35 fa0_1 fa0_2 fa0_4 hBfa0_4 fa0_5 hBfa0_5 fa0_6 hBfa0_6 fa0_8 ia0_9 (by first | omega | decide | exact z_lo _ | exact z_hi _) (by first | omega | decide | exact z_lo _ | exact z_hi _) ia0_10 (by first | omega | decide | exact z_lo _ | exact z_hi _) (by first | omega | decide | exact z_lo _ | exact z_hi _) ia0_11 ia0_12 ia0_13 ia0_14 (by first | omega | decide | exact z_lo _ | exact z_hi _) (by first | omega | decide | exact z_lo _ | exact z_hi _) ia0_15 ia0_20 (by first | omega | decide | exact z_lo _ | exact z_hi _) (by first | omega | decide | exact z_lo _ | exact z_hi _) ia0_21 (by first | omega | decide | exact z_lo _ | exact z_hi _) (by first | omega | decide | exact z_lo _ | exact z_hi _) ia0_22 (by first | omega | decide | exact z_lo _ | exact z_hi _) (by first | omega | decide | exact z_lo _ | exact z_hi _) ia0_24 (by first | omega | decide | exact z_lo _ | exact z_hi _) (by first | omega | decide | exact z_lo _ | exact z_hi _) ia0_25 (by first | omega | decide | exact z_lo _ | exact z_hi _) (by first | omega | decide | exact z_lo _ | exact z_hi _) ia0_26 (by first | omega | decide | exact z_lo _ | exact z_hi _) (by first | omega | decide | exact z_lo _ | exact z_hi _) ia0_27 (by first | omega | decide | exact z_lo _ | exact z_hi _) (by first | omega | decide | exact z_lo _ | exact z_hi _) ia0_28 ia0_30 (by first | omega | decide | exact z_lo _ | exact z_hi _) (by first | omega | decide | exact z_lo _ | exact z_hi _) ia0_31 ia0_32 (by first | omega | decide | exact z_lo _ | exact z_hi _) (by first | omega | decide | exact z_lo _ | exact z_hi _) ia0_36 (by first | omega | decide | exact z_lo _ | exact z_hi _) (by first | omega | decide | exact z_lo _ | exact z_hi _) ia0_37 v1 (by first | omega | decide | exact z_lo _ | exact z_hi _) (by first | omega | decide | exact z_lo _ | exact z_hi _) p1 (by first | omega | decide | exact z_lo _ | exact z_hi _) (by first | omega | decide | exact z_lo _ | exact z_hi _)) (cwV 2 hts gv_X12_followOf_X12_isCued_188 rfl rfl rfl (by decide +kernel) ⟨Nat.le_of_ble_eq_true rfl, Nat.le_of_ble_eq_true rfl⟩) ⟨z_blindR, va_recv hK hP (ci := 12) (q0 := 6) rfl rfl, z_preR hZ hP [0, 1, 2, 3, 4, 5, 6] rfl⟩ rfl rfl hl.1 rfl (lv_room (Nat.le_of_ble_eq_true rfl)) dX12_followOf_31 ⟨Nat.le_of_ble_eq_true rfl, Nat.le_of_ble_eq_true rfl⟩) (fun y110 hy110 => ?_)
          obtain ⟨hy110_0, hy110_1⟩ := hy110
          refine lv_if_eq (tgt := 43) hx hb dX12_followOf_34 (by decide) (fun hc => ?_) (fun hc => ?_)
          · have q111 : y110.toInt = 0 := z_eq rfl (by decide) hc
            refine lv_iconst (v := 0) hx hb dX12_followOf_43 (by decide) ?_
            refine lv_ior hx hb dX12_followOf_44 ?_
            refine lv_topi (fun y112 ey112 => ?_)
            refine lv_istore_n (lv' := [(2, .int y112), (3, .int v1), (0, .ref ha0), (1, .int p1)]) hx hb dX12_followOf_45 rfl hl (by decide) rfl (fun ls hl => ?_)
            obtain ⟨y113, ey113⟩ : ∃ y : Int32, y = v1 + 1 := ⟨_, rfl⟩
            refine lv_iinc (v := y113) (lv' := [(3, .int y113), (2, .int y112), (0, .ref ha0), (1, .int p1)]) hx hb dX12_followOf_46 hl (k := 1) rfl (by rw [ey113]; rfl) (by decide) rfl (fun ls hl => ?_)
            have hy113 : y113.toInt = v1.toInt + 1 := by rw [ey113]; exact z_add rfl (by decide) (by omega) (by omega)
            refine lv_goto (tgt := 4) hx hb dX12_followOf_49 (by decide) ?_
            exact ih101 y113 y112 ls (by first | omega | decide | exact z_lo _ | exact z_hi _) (by first | omega | decide | exact z_lo _ | exact z_hi _) (by omega) (lv_sub hl [0, 1, 2, 3] rfl)
          · have q114 : y110.toInt ≠ 0 := z_ne rfl (by decide) hc
            refine lv_iconst (v := 1) hx hb dX12_followOf_37 (by decide) ?_
            refine lv_iload_n hx hb dX12_followOf_38 rfl (lv_at hl 0 rfl) ?_
            refine lv_ishl hx hb dX12_followOf_39 ?_
            refine lv_topi (fun y115 ey115 => ?_)
            refine lv_goto (tgt := 44) hx hb dX12_followOf_40 (by decide) ?_
            refine lv_ior hx hb dX12_followOf_44 ?_
            refine lv_topi (fun y116 ey116 => ?_)
            refine lv_istore_n (lv' := [(2, .int y116), (3, .int v1), (0, .ref ha0), (1, .int p1)]) hx hb dX12_followOf_45 rfl hl (by decide) rfl (fun ls hl => ?_)
            obtain ⟨y117, ey117⟩ : ∃ y : Int32, y = v1 + 1 := ⟨_, rfl⟩
            refine lv_iinc (v := y117) (lv' := [(3, .int y117), (2, .int y116), (0, .ref ha0), (1, .int p1)]) hx hb dX12_followOf_46 hl (k := 1) rfl (by rw [ey117]; rfl) (by decide) rfl (fun ls hl => ?_)
            have hy117 : y117.toInt = v1.toInt + 1 := by rw [ey117]; exact z_add rfl (by decide) (by omega) (by omega)
            refine lv_goto (tgt := 4) hx hb dX12_followOf_49 (by decide) ?_
            exact ih101 y117 y116 ls (by first | omega | decide | exact z_lo _ | exact z_hi _) (by first | omega | decide | exact z_lo _ | exact z_hi _) (by omega) (lv_sub hl [0, 1, 2, 3] rfl)
  exact hL99 ((12 - (1 : Int32).toInt).toNat + 1) 1 0 ls (by first | omega | decide | exact z_lo _ | exact z_hi _) (by first | omega | decide | exact z_lo _ | exact z_hi _) (by omega) hl
theorem dX12_stepsFrom_0 : decode cX12_stepsFrom 0 = .ok (.iconst 0, 1) := by decide +kernel
theorem dX12_stepsFrom_1 : decode cX12_stepsFrom 1 = .ok (.istore_n 2, 1) := by decide +kernel
theorem dX12_stepsFrom_2 : decode cX12_stepsFrom 2 = .ok (.iconst 0, 1) := by decide +kernel
theorem dX12_stepsFrom_3 : decode cX12_stepsFrom 3 = .ok (.istore_n 3, 1) := by decide +kernel
theorem dX12_stepsFrom_4 : decode cX12_stepsFrom 4 = .ok (.iload_n 3, 1) := by decide +kernel
theorem dX12_stepsFrom_5 : decode cX12_stepsFrom 5 = .ok (.aload_n 0, 1) := by decide +kernel
theorem dX12_stepsFrom_6 : decode cX12_stepsFrom 6 = .ok (.getfield 79, 3) := by decide +kernel
theorem dX12_stepsFrom_9 : decode cX12_stepsFrom 9 = .ok (.if_icmp .ge 30, 3) := by decide +kernel
theorem dX12_stepsFrom_12 : decode cX12_stepsFrom 12 = .ok (.iload_n 2, 1) := by decide +kernel
theorem dX12_stepsFrom_13 : decode cX12_stepsFrom 13 = .ok (.iload_n 1, 1) := by decide +kernel
theorem dX12_stepsFrom_14 : decode cX12_stepsFrom 14 = .ok (.iload_n 3, 1) := by decide +kernel
theorem dX12_stepsFrom_15 : decode cX12_stepsFrom 15 = .ok (.ishr, 1) := by decide +kernel
theorem dX12_stepsFrom_16 : decode cX12_stepsFrom 16 = .ok (.iconst 1, 1) := by decide +kernel
theorem dX12_stepsFrom_17 : decode cX12_stepsFrom 17 = .ok (.iand, 1) := by decide +kernel
theorem dX12_stepsFrom_18 : decode cX12_stepsFrom 18 = .ok (.iconst 1, 1) := by decide +kernel
theorem dX12_stepsFrom_19 : decode cX12_stepsFrom 19 = .ok (.if_icmp .ne 11, 3) := by decide +kernel
theorem dX12_stepsFrom_22 : decode cX12_stepsFrom 22 = .ok (.aload_n 0, 1) := by decide +kernel
theorem dX12_stepsFrom_23 : decode cX12_stepsFrom 23 = .ok (.iload_n 3, 1) := by decide +kernel
theorem dX12_stepsFrom_24 : decode cX12_stepsFrom 24 = .ok (.invokevirtual 220, 3) := by decide +kernel
theorem dX12_stepsFrom_27 : decode cX12_stepsFrom 27 = .ok (.goto 4, 3) := by decide +kernel
theorem dX12_stepsFrom_30 : decode cX12_stepsFrom 30 = .ok (.iconst 0, 1) := by decide +kernel
theorem dX12_stepsFrom_31 : decode cX12_stepsFrom 31 = .ok (.ior, 1) := by decide +kernel
theorem dX12_stepsFrom_32 : decode cX12_stepsFrom 32 = .ok (.istore_n 2, 1) := by decide +kernel
theorem dX12_stepsFrom_33 : decode cX12_stepsFrom 33 = .ok (.iinc 3 1, 3) := by decide +kernel
theorem dX12_stepsFrom_36 : decode cX12_stepsFrom 36 = .ok (.goto (-32), 3) := by decide +kernel
theorem dX12_stepsFrom_39 : decode cX12_stepsFrom 39 = .ok (.iload_n 2, 1) := by decide +kernel
theorem dX12_stepsFrom_40 : decode cX12_stepsFrom 40 = .ok (.ireturn, 1) := by decide +kernel
noncomputable def vsX12_stepsFrom : List Cond := .code yX12_stepsFrom cX12_stepsFrom 4 (some .int) :: (([.fieldLink RX12 79 "EachOnHisCueModel" "lines" "I", .methodLink RX12 220 yX12_followOf, .instanceMethod yX12_followOf, .selects RX12 yX12_followOf yX12_followOf, .initialized RX12, .code yX12_followOf cX12_followOf 4 (some .int), .fieldLink RX12 13 "EachOnHisCueModel" "kind" "[I", .fieldLink RX12 22 "EachOnHisCueModel" "whose" "[I", .methodLink RX12 188 yX12_isCued, .instanceMethod yX12_isCued, .selects RX12 yX12_isCued yX12_isCued, .code yX12_isCued cX12_isCued 5 (some .boolean), .fieldLink RX12 28 "EachOnHisCueModel" "cue" "[I", .fieldLink RX12 16 "EachOnHisCueModel" "figure" "[I", .methodLink RX12 175 yX12_least, .static yX12_least, .code yX12_least cX12_least 2 (some .int), .methodLink RX12 185 yX12_doesEnd, .instanceMethod yX12_doesEnd, .selects RX12 yX12_doesEnd yX12_doesEnd, .code yX12_doesEnd cX12_doesEnd 6 (some .boolean), .fieldLink RX12 25 "EachOnHisCueModel" "many" "[I", .fieldLink RX12 34 "EachOnHisCueModel" "word" "[I", .methodLink RX12 179 yX12_saidWords, .instanceMethod yX12_saidWords, .selects RX12 yX12_saidWords yX12_saidWords, .code yX12_saidWords cX12_saidWords 2 (some .int), .fieldLink RX12 59 "EachOnHisCueModel" "joked" "I", .methodLink RX12 182 yX12_saidWord, .instanceMethod yX12_saidWord, .selects RX12 yX12_saidWord yX12_saidWord, .code yX12_saidWord cX12_saidWord 3 (some .int), .fieldLink RX12 172 "EachOnHisCueModel" "joke" "I"] : List Cond) ++ wsX120)
theorem in_X12_stepsFrom_X12 : ∀ w ∈ wsX120, w ∈ vsX12_stepsFrom := fun _ h => List.mem_cons_of_mem _ (List.mem_append_right _ h)
set_option maxRecDepth 20000 in
theorem gw_X12_stepsFrom_X12_followOf : GoodIn vsX12_stepsFrom vsX12_followOf := goodIn_r _ [6, 1, 7, 8, 9, 10, 11, 5, 12, 13, 14, 15, 16, 17, 18, 19, 20, 21, 22, 23, 24, 25, 26, 27, 28, 29, 30, 31, 32, 33, 34, 35, 36, 37, 38, 39, 40, 41, 42, 43, 44, 45, 46, 47, 48, 49, 50, 51, 52, 53, 54, 55, 56, 57, 58, 59, 60, 61, 62, 63, 64, 65, 66, 67, 68, 69, 70, 71] (by decide +kernel) (by decide +kernel)
set_option maxRecDepth 20000 in
theorem gv_X12_stepsFrom_X12_followOf_220 : GoodIn vsX12_stepsFrom (wsV RX12 220 RX12 yX12_followOf vsX12_followOf) := goodIn_app (goodIn_of _ (by decide +kernel)) gw_X12_stepsFrom_X12_followOf
set_option maxHeartbeats 4000000 in
set_option maxRecDepth 100000 in
theorem rX12_stepsFrom (l : Launch) (dC : Nat → ClassId) (dI : Nat → Nat → Nat) (cI cQ : ClassId) (ha0 ha0_1 ha0_2 ha0_4 ha0_5 ha0_6 ha0_8 ha0_0 ha0_3 ha0_7 ha0_16 ha0_17 ha0_18 ha0_19 ha0_23 ha0_29 ha0_33 ha0_34 ha0_35 : Nat) (fa0_1 : Nat → Int32) (fa0_2 : Nat → Int32) (fa0_4 : Nat → Int32) (hBfa0_4 : ∀ k, 0 ≤ (fa0_4 k).toInt ∧ (fa0_4 k).toInt ≤ 4) (fa0_5 : Nat → Int32) (hBfa0_5 : ∀ k, 0 ≤ (fa0_5 k).toInt ∧ (fa0_5 k).toInt ≤ 4) (fa0_6 : Nat → Int32) (hBfa0_6 : ∀ k, 0 ≤ (fa0_6 k).toInt ∧ (fa0_6 k).toInt ≤ 9) (fa0_8 : Nat → Int32) (ia0_9 : Int32) (hia0_9l : 0 ≤ ia0_9.toInt) (hia0_9h : ia0_9.toInt ≤ 5) (ia0_10 : Int32) (hia0_10l : 0 ≤ ia0_10.toInt) (hia0_10h : ia0_10.toInt ≤ 12) (ia0_11 : Int32) (ia0_12 : Int32) (ia0_13 : Int32) (ia0_14 : Int32) (hia0_14l : (-9) ≤ ia0_14.toInt) (hia0_14h : ia0_14.toInt ≤ 11) (ia0_15 : Int32) (ia0_20 : Int32) (hia0_20l : 0 ≤ ia0_20.toInt) (hia0_20h : ia0_20.toInt ≤ 80) (ia0_21 : Int32) (hia0_21l : 0 ≤ ia0_21.toInt) (hia0_21h : ia0_21.toInt ≤ 80) (ia0_22 : Int32) (hia0_22l : 0 ≤ ia0_22.toInt) (hia0_22h : ia0_22.toInt ≤ 40) (ia0_24 : Int32) (hia0_24l : 0 ≤ ia0_24.toInt) (hia0_24h : ia0_24.toInt ≤ 1) (ia0_25 : Int32) (hia0_25l : 0 ≤ ia0_25.toInt) (hia0_25h : ia0_25.toInt ≤ 1) (ia0_26 : Int32) (hia0_26l : 0 ≤ ia0_26.toInt) (hia0_26h : ia0_26.toInt ≤ 300) (ia0_27 : Int32) (hia0_27l : (-9) ≤ ia0_27.toInt) (hia0_27h : ia0_27.toInt ≤ 11) (ia0_28 : Int32) (ia0_30 : Int32) (hia0_30l : 0 ≤ ia0_30.toInt) (hia0_30h : ia0_30.toInt ≤ 60) (ia0_31 : Int32) (ia0_32 : Int32) (hia0_32l : 0 ≤ ia0_32.toInt) (hia0_32h : ia0_32.toInt ≤ 1) (ia0_36 : Int32) (hia0_36l : 0 ≤ ia0_36.toInt) (hia0_36h : ia0_36.toInt ≤ 12) (ia0_37 : Int32) (p1 : Int32) : Met l yX12_stepsFrom vsX12_stepsFrom ({ frames := 4, cells := 0, slots := 0, locals := 94 }) (va_Pc [.ref ha0, .int p1] (zRB dC dI cI cQ [(ha0_1, .inl (cI, 5, .inl fa0_1)), (ha0_2, .inl (cI, 5, .inl fa0_2)), (ha0_4, .inl (cI, 12, .inl fa0_4)), (ha0_5, .inl (cI, 12, .inl fa0_5)), (ha0_6, .inl (cI, 12, .inl fa0_6)), (ha0_8, .inl (cI, 60, .inl fa0_8)), (ha0, .inr (12, [.ref ha0_0, .ref ha0_1, .ref ha0_2, .ref ha0_3, .ref ha0_4, .ref ha0_5, .ref ha0_6, .ref ha0_7, .ref ha0_8, .int ia0_9, .int ia0_10, .int ia0_11, .int ia0_12, .int ia0_13, .int ia0_14, .int ia0_15, .ref ha0_16, .ref ha0_17, .ref ha0_18, .ref ha0_19, .int ia0_20, .int ia0_21, .int ia0_22, .ref ha0_23, .int ia0_24, .int ia0_25, .int ia0_26, .int ia0_27, .int ia0_28, .ref ha0_29, .int ia0_30, .int ia0_31, .int ia0_32, .ref ha0_33, .ref ha0_34, .ref ha0_35, .int ia0_36, .int ia0_37]))])) (vp_Si (fun r => (-2147483648) ≤ r.toInt ∧ r.toInt ≤ 2147483647)) 0 0 (fun _ => False) := by
  refine Met.ofW (cc := cX12_stepsFrom) (maxL := 4) (ret := (some .int)) (by decide) rfl ?_
  intro p e s m args below meth c s₁ B hml hv
  obtain ⟨rfl, hP, hZ⟩ := hv
  obtain ⟨hK, hAO, hN⟩ := id hZ
  have hx := B.exec
  have hb := B.bytes
  have hr := B.returns
  have hts := atoms_spec (ws := vsX12_stepsFrom) B.pre
  have hown : s.vm.findClass RX12 = some m.cls := findClass_of_methodNamed B.named
  have hlocks := B.notSynchronized
  have hp1l := z_lo p1
  have hp1h := z_hi p1
  have hl := lv_entry ([.ref ha0, .int p1]) (n := 4) (Nat.le_of_ble_eq_true rfl)
  rw [lg_entry_eq]
  generalize (lg_sl ([.ref ha0, .int p1]) ++ List.replicate (4 - (lg_sl ([.ref ha0, .int p1])).length) Slot.unset).toArray = ls at hl ⊢
  have hl : lv_has ls 4 [(0, .ref ha0), (1, .int p1)] := hl
  refine lv_iconst (v := 0) hx hb dX12_stepsFrom_0 (by decide) ?_
  refine lv_istore_n (lv' := [(2, .int 0), (0, .ref ha0), (1, .int p1)]) hx hb dX12_stepsFrom_1 rfl hl (by decide) rfl (fun ls hl => ?_)
  refine lv_iconst (v := 0) hx hb dX12_stepsFrom_2 (by decide) ?_
  refine lv_istore_n (lv' := [(3, .int 0), (2, .int 0), (0, .ref ha0), (1, .int p1)]) hx hb dX12_stepsFrom_3 rfl hl (by decide) rfl (fun ls hl => ?_)
  have hL69 : ∀ (n : Nat) (v1 : Int32) (v2 : Int32) (ls : Array Slot), 0 ≤ v1.toInt → v1.toInt ≤ 12 → (12 - v1.toInt).toNat < n → lv_has ls 4 [(3, .int v1), (2, .int v2), (0, .ref ha0), (1, .int p1)] → W p l e (headSpec vsX12_stepsFrom ({ frames := 4, cells := 0, slots := 0, locals := 94 })).room s m ([.ref ha0, .int p1] : List Value).toArray below meth c s.heap [] 0 0 (MQ below (vp_Si (fun r => (-2147483648) ≤ r.toInt ∧ r.toInt ≤ 2147483647)) ([.ref ha0, .int p1] : List Value).toArray s 0 0 (fun _ => False)) (F0 m 4 ls []) := by
    intro n
    induction n with
    | zero =>
      intro v1 v2 ls hi70_0 hi70_1 hi70_m hl
      exact absurd hi70_m (Nat.not_lt_zero _)
    | succ n ih =>
      intro v1 v2 ls hi70_0 hi70_1 hi70_m hl
      have ih71 := ih
      refine lv_iload_n hx hb dX12_stepsFrom_4 rfl (lv_at hl 0 rfl) ?_
      refine lv_aload_n hx hb dX12_stepsFrom_5 rfl (lv_at hl 2 rfl) ?_
      refine va_get (D := (dC, dI)) (ci := 12) (v := .int ia0_10) (C := RX12) (T := TX12) (N := 38) hx hb hts in_X12_stepsFrom_X12 hown hK hP 6 rfl rfl 10 (by decide) (hts (.fieldLink RX12 79 "EachOnHisCueModel" "lines" "I") (by decide +kernel)) (fun _ h9 => h9) rfl dX12_stepsFrom_6 ?_
      refine lv_icmp_ge (tgt := 39) hx hb dX12_stepsFrom_9 (by decide) (fun hc => ?_) (fun hc => ?_)
      · have q72 : ia0_10.toInt ≤ v1.toInt := z_le rfl rfl hc
        refine lv_iload_n hx hb dX12_stepsFrom_39 rfl (lv_at hl 1 rfl) ?_
        exact W.iret (v := v2) hx hb hr (fun t ht hW => ⟨v2, rfl, ⟨by first | omega | decide | exact z_lo _, by first | omega | decide | exact z_hi _⟩, ht⟩) (fun _ h => absurd h List.not_mem_nil) dX12_stepsFrom_40
      · have q73 : v1.toInt < ia0_10.toInt := z_nle rfl rfl hc
        refine lv_iload_n hx hb dX12_stepsFrom_12 rfl (lv_at hl 1 rfl) ?_
        refine lv_iload_n hx hb dX12_stepsFrom_13 rfl (lv_at hl 3 rfl) ?_
        refine lv_iload_n hx hb dX12_stepsFrom_14 rfl (lv_at hl 0 rfl) ?_
        refine lv_ishr hx hb dX12_stepsFrom_15 ?_
        refine lv_topi (fun y74 ey74 => ?_)
        refine lv_iconst (v := 1) hx hb dX12_stepsFrom_16 (by decide) ?_
        refine lv_iand hx hb dX12_stepsFrom_17 ?_
        refine lv_topi (fun y75 ey75 => ?_)
        have hy75 : 0 ≤ y75.toInt ∧ y75.toInt ≤ 1 := by rw [ey75]; exact z_and1 _
        obtain ⟨hy75, hy75_⟩ := hy75
        refine lv_iconst (v := 1) hx hb dX12_stepsFrom_18 (by decide) ?_
        refine lv_icmp_ne (tgt := 30) hx hb dX12_stepsFrom_19 (by decide) (fun hc => ?_) (fun hc => ?_)
        · have q76 : y75.toInt ≠ 1 := z_ne rfl (by decide) hc
          refine lv_iconst (v := 0) hx hb dX12_stepsFrom_30 (by decide) ?_
          refine lv_ior hx hb dX12_stepsFrom_31 ?_
          refine lv_topi (fun y77 ey77 => ?_)
          refine lv_istore_n (lv' := [(2, .int y77), (3, .int v1), (0, .ref ha0), (1, .int p1)]) hx hb dX12_stepsFrom_32 rfl hl (by decide) rfl (fun ls hl => ?_)
          obtain ⟨y78, ey78⟩ : ∃ y : Int32, y = v1 + 1 := ⟨_, rfl⟩
          refine lv_iinc (v := y78) (lv' := [(3, .int y78), (2, .int y77), (0, .ref ha0), (1, .int p1)]) hx hb dX12_stepsFrom_33 hl (k := 1) rfl (by rw [ey78]; rfl) (by decide) rfl (fun ls hl => ?_)
          have hy78 : y78.toInt = v1.toInt + 1 := by rw [ey78]; exact z_add rfl (by decide) (by omega) (by omega)
          refine lv_goto (tgt := 4) hx hb dX12_stepsFrom_36 (by decide) ?_
          exact ih71 y78 y77 ls (by first | omega | decide | exact z_lo _ | exact z_hi _) (by first | omega | decide | exact z_lo _ | exact z_hi _) (by omega) (lv_sub hl [0, 1, 2, 3] rfl)
        · have q79 : y75.toInt = 1 := z_eq rfl (by decide) hc
          refine lv_aload_n hx hb dX12_stepsFrom_22 rfl (lv_at hl 2 rfl) ?_
          refine lv_iload_n hx hb dX12_stepsFrom_23 rfl (lv_at hl 0 rfl) ?_
          refine z_rdi (va_runV (As := [.int v1]) (rest := [.int v2]) ⟨hx, hb, hml, hown, hts⟩ (rX12_followOf l dC dI cI cQ ha0 ha0_1 ha0_2 ha0_4 ha0_5 ha0_6 ha0_8 ha0_0 ha0_3 ha0_7 ha0_16 ha0_17 ha0_18 ha0_19 ha0_23 ha0_29 ha0_33 ha0_34 ha0_35 fa0_1 fa0_2 fa0_4 hBfa0_4 fa0_5 hBfa0_5 fa0_6 hBfa0_6 fa0_8 ia0_9 (by first | omega | decide | exact z_lo _ | exact z_hi _) (by first | omega | decide | exact z_lo _ | exact z_hi _) ia0_10 (by first | omega | decide | exact z_lo _ | exact z_hi _) (by first | omega | decide | exact z_lo _ | exact z_hi _) ia0_11 ia0_12 ia0_13 ia0_14 (by first | omega | decide | exact z_lo _ | exact z_hi _) (by first | omega | decide | exact z_lo _ | exact z_hi _) ia0_15 ia0_20 (by first | omega | decide | exact z_lo _ | exact z_hi _) (by first | omega | decide | exact z_lo _ | exact z_hi _) ia0_21 (by first | omega | decide | exact z_lo _ | exact z_hi _) (by first | omega | decide | exact z_lo _ | exact z_hi _) ia0_22 (by first | omega | decide | exact z_lo _ | exact z_hi _) (by first | omega | decide | exact z_lo _ | exact z_hi _) ia0_24 (by first | omega | decide | exact z_lo _ | exact z_hi _) (by first | omega | decide | exact z_lo _ | exact z_hi _) ia0_25 (by first | omega | decide | exact z_lo _ | exact z_hi _) (by first | omega | decide | exact z_lo _ | exact z_hi _) ia0_26 (by first | omega | decide | exact z_lo _ | exact z_hi _) (by first | omega | decide | exact z_lo _ | exact z_hi _) ia0_27 (by first | omega | decide | exact z_lo _ | exact z_hi _) (by first | omega | decide | exact z_lo _ | exact z_hi _) ia0_28 ia0_30 (by first | omega | decide | exact z_lo _ | exact z_hi _) (by first | omega | decide | exact z_lo _ | exact z_hi _) ia0_31 ia0_32 (by first | omega | decide | exact z_lo _ | exact z_hi _) (by first | omega | decide | exact z_lo _ | exact z_hi _) ia0_36 (by first | omega | decide | exact z_lo _ | exact z_hi _) (by first | omega | decide | exact z_lo _ | exact z_hi _) ia0_37 v1 (by first | omega | decide | exact z_lo _ | exact z_hi _) (by first | omega | decide | exact z_lo _ | exact z_hi _)) (cwV 1 hts gv_X12_stepsFrom_X12_followOf_220 rfl rfl rfl (by decide +kernel) ⟨Nat.le_of_ble_eq_true rfl, Nat.le_of_ble_eq_true rfl⟩) ⟨z_blindR, va_recv hK hP (ci := 12) (q0 := 6) rfl rfl, z_preR hZ hP [0, 1, 2, 3, 4, 5, 6] rfl⟩ rfl rfl hl.1 rfl (lv_room (Nat.le_of_ble_eq_true rfl)) dX12_stepsFrom_24 ⟨Nat.le_of_ble_eq_true rfl, Nat.le_of_ble_eq_true rfl⟩) (fun y80 hy80 => ?_)
          obtain ⟨hy80_0, hy80_1⟩ := hy80
          refine lv_goto (tgt := 31) hx hb dX12_stepsFrom_27 (by decide) ?_
          refine lv_ior hx hb dX12_stepsFrom_31 ?_
          refine lv_topi (fun y81 ey81 => ?_)
          refine lv_istore_n (lv' := [(2, .int y81), (3, .int v1), (0, .ref ha0), (1, .int p1)]) hx hb dX12_stepsFrom_32 rfl hl (by decide) rfl (fun ls hl => ?_)
          obtain ⟨y82, ey82⟩ : ∃ y : Int32, y = v1 + 1 := ⟨_, rfl⟩
          refine lv_iinc (v := y82) (lv' := [(3, .int y82), (2, .int y81), (0, .ref ha0), (1, .int p1)]) hx hb dX12_stepsFrom_33 hl (k := 1) rfl (by rw [ey82]; rfl) (by decide) rfl (fun ls hl => ?_)
          have hy82 : y82.toInt = v1.toInt + 1 := by rw [ey82]; exact z_add rfl (by decide) (by omega) (by omega)
          refine lv_goto (tgt := 4) hx hb dX12_stepsFrom_36 (by decide) ?_
          exact ih71 y82 y81 ls (by first | omega | decide | exact z_lo _ | exact z_hi _) (by first | omega | decide | exact z_lo _ | exact z_hi _) (by omega) (lv_sub hl [0, 1, 2, 3] rfl)
  exact hL69 ((12 - (0 : Int32).toInt).toNat + 1) 0 0 ls (by first | omega | decide | exact z_lo _ | exact z_hi _) (by first | omega | decide | exact z_lo _ | exact z_hi _) (by omega) hl
theorem dX12_shortest_0 : decode cX12_shortest 0 = .ok (.iconst 1, 1) := by decide +kernel
theorem dX12_shortest_1 : decode cX12_shortest 1 = .ok (.istore_n 1, 1) := by decide +kernel
theorem dX12_shortest_2 : decode cX12_shortest 2 = .ok (.iconst 0, 1) := by decide +kernel
theorem dX12_shortest_3 : decode cX12_shortest 3 = .ok (.istore_n 2, 1) := by decide +kernel
theorem dX12_shortest_4 : decode cX12_shortest 4 = .ok (.iload_n 2, 1) := by decide +kernel
theorem dX12_shortest_5 : decode cX12_shortest 5 = .ok (.bipush 12, 2) := by decide +kernel
theorem dX12_shortest_7 : decode cX12_shortest 7 = .ok (.if_icmp .ge 33, 3) := by decide +kernel
theorem dX12_shortest_10 : decode cX12_shortest 10 = .ok (.iload_n 1, 1) := by decide +kernel
theorem dX12_shortest_11 : decode cX12_shortest 11 = .ok (.aload_n 0, 1) := by decide +kernel
theorem dX12_shortest_12 : decode cX12_shortest 12 = .ok (.getfield 79, 3) := by decide +kernel
theorem dX12_shortest_15 : decode cX12_shortest 15 = .ok (.iconst 1, 1) := by decide +kernel
theorem dX12_shortest_16 : decode cX12_shortest 16 = .ok (.isub, 1) := by decide +kernel
theorem dX12_shortest_17 : decode cX12_shortest 17 = .ok (.ishr, 1) := by decide +kernel
theorem dX12_shortest_18 : decode cX12_shortest 18 = .ok (.iconst 1, 1) := by decide +kernel
theorem dX12_shortest_19 : decode cX12_shortest 19 = .ok (.iand, 1) := by decide +kernel
theorem dX12_shortest_20 : decode cX12_shortest 20 = .ok (.iconst 1, 1) := by decide +kernel
theorem dX12_shortest_21 : decode cX12_shortest 21 = .ok (.if_icmp .ne 5, 3) := by decide +kernel
theorem dX12_shortest_24 : decode cX12_shortest 24 = .ok (.iload_n 2, 1) := by decide +kernel
theorem dX12_shortest_25 : decode cX12_shortest 25 = .ok (.ireturn, 1) := by decide +kernel
theorem dX12_shortest_26 : decode cX12_shortest 26 = .ok (.iload_n 1, 1) := by decide +kernel
theorem dX12_shortest_27 : decode cX12_shortest 27 = .ok (.aload_n 0, 1) := by decide +kernel
theorem dX12_shortest_28 : decode cX12_shortest 28 = .ok (.iload_n 1, 1) := by decide +kernel
theorem dX12_shortest_29 : decode cX12_shortest 29 = .ok (.invokevirtual 223, 3) := by decide +kernel
theorem dX12_shortest_32 : decode cX12_shortest 32 = .ok (.ior, 1) := by decide +kernel
theorem dX12_shortest_33 : decode cX12_shortest 33 = .ok (.istore_n 1, 1) := by decide +kernel
theorem dX12_shortest_34 : decode cX12_shortest 34 = .ok (.iinc 2 1, 3) := by decide +kernel
theorem dX12_shortest_37 : decode cX12_shortest 37 = .ok (.goto (-33), 3) := by decide +kernel
theorem dX12_shortest_40 : decode cX12_shortest 40 = .ok (.bipush (-9), 2) := by decide +kernel
theorem dX12_shortest_42 : decode cX12_shortest 42 = .ok (.ireturn, 1) := by decide +kernel
noncomputable def vsX12_shortest : List Cond := .code yX12_shortest cX12_shortest 3 (some .int) :: (([.fieldLink RX12 79 "EachOnHisCueModel" "lines" "I", .methodLink RX12 223 yX12_stepsFrom, .instanceMethod yX12_stepsFrom, .selects RX12 yX12_stepsFrom yX12_stepsFrom, .initialized RX12, .code yX12_stepsFrom cX12_stepsFrom 4 (some .int), .methodLink RX12 220 yX12_followOf, .instanceMethod yX12_followOf, .selects RX12 yX12_followOf yX12_followOf, .code yX12_followOf cX12_followOf 4 (some .int), .fieldLink RX12 13 "EachOnHisCueModel" "kind" "[I", .fieldLink RX12 22 "EachOnHisCueModel" "whose" "[I", .methodLink RX12 188 yX12_isCued, .instanceMethod yX12_isCued, .selects RX12 yX12_isCued yX12_isCued, .code yX12_isCued cX12_isCued 5 (some .boolean), .fieldLink RX12 28 "EachOnHisCueModel" "cue" "[I", .fieldLink RX12 16 "EachOnHisCueModel" "figure" "[I", .methodLink RX12 175 yX12_least, .static yX12_least, .code yX12_least cX12_least 2 (some .int), .methodLink RX12 185 yX12_doesEnd, .instanceMethod yX12_doesEnd, .selects RX12 yX12_doesEnd yX12_doesEnd, .code yX12_doesEnd cX12_doesEnd 6 (some .boolean), .fieldLink RX12 25 "EachOnHisCueModel" "many" "[I", .fieldLink RX12 34 "EachOnHisCueModel" "word" "[I", .methodLink RX12 179 yX12_saidWords, .instanceMethod yX12_saidWords, .selects RX12 yX12_saidWords yX12_saidWords, .code yX12_saidWords cX12_saidWords 2 (some .int), .fieldLink RX12 59 "EachOnHisCueModel" "joked" "I", .methodLink RX12 182 yX12_saidWord, .instanceMethod yX12_saidWord, .selects RX12 yX12_saidWord yX12_saidWord, .code yX12_saidWord cX12_saidWord 3 (some .int), .fieldLink RX12 172 "EachOnHisCueModel" "joke" "I"] : List Cond) ++ wsX120)
theorem in_X12_shortest_X12 : ∀ w ∈ wsX120, w ∈ vsX12_shortest := fun _ h => List.mem_cons_of_mem _ (List.mem_append_right _ h)
set_option maxRecDepth 20000 in
theorem gw_X12_shortest_X12_stepsFrom : GoodIn vsX12_shortest vsX12_stepsFrom := goodIn_r _ [6, 1, 7, 8, 9, 5, 10, 11, 12, 13, 14, 15, 16, 17, 18, 19, 20, 21, 22, 23, 24, 25, 26, 27, 28, 29, 30, 31, 32, 33, 34, 35, 36, 37, 38, 39, 40, 41, 42, 43, 44, 45, 46, 47, 48, 49, 50, 51, 52, 53, 54, 55, 56, 57, 58, 59, 60, 61, 62, 63, 64, 65, 66, 67, 68, 69, 70, 71, 72, 73, 74, 75] (by decide +kernel) (by decide +kernel)
set_option maxRecDepth 20000 in
theorem gv_X12_shortest_X12_stepsFrom_223 : GoodIn vsX12_shortest (wsV RX12 223 RX12 yX12_stepsFrom vsX12_stepsFrom) := goodIn_app (goodIn_of _ (by decide +kernel)) gw_X12_shortest_X12_stepsFrom
set_option maxHeartbeats 4000000 in
set_option maxRecDepth 100000 in
theorem rX12_shortest (l : Launch) (dC : Nat → ClassId) (dI : Nat → Nat → Nat) (cI cQ : ClassId) (ha0 ha0_1 ha0_2 ha0_4 ha0_5 ha0_6 ha0_8 ha0_0 ha0_3 ha0_7 ha0_16 ha0_17 ha0_18 ha0_19 ha0_23 ha0_29 ha0_33 ha0_34 ha0_35 : Nat) (fa0_1 : Nat → Int32) (fa0_2 : Nat → Int32) (fa0_4 : Nat → Int32) (hBfa0_4 : ∀ k, 0 ≤ (fa0_4 k).toInt ∧ (fa0_4 k).toInt ≤ 4) (fa0_5 : Nat → Int32) (hBfa0_5 : ∀ k, 0 ≤ (fa0_5 k).toInt ∧ (fa0_5 k).toInt ≤ 4) (fa0_6 : Nat → Int32) (hBfa0_6 : ∀ k, 0 ≤ (fa0_6 k).toInt ∧ (fa0_6 k).toInt ≤ 9) (fa0_8 : Nat → Int32) (ia0_9 : Int32) (hia0_9l : 0 ≤ ia0_9.toInt) (hia0_9h : ia0_9.toInt ≤ 5) (ia0_10 : Int32) (hia0_10l : 0 ≤ ia0_10.toInt) (hia0_10h : ia0_10.toInt ≤ 12) (ia0_11 : Int32) (ia0_12 : Int32) (ia0_13 : Int32) (ia0_14 : Int32) (hia0_14l : (-9) ≤ ia0_14.toInt) (hia0_14h : ia0_14.toInt ≤ 11) (ia0_15 : Int32) (ia0_20 : Int32) (hia0_20l : 0 ≤ ia0_20.toInt) (hia0_20h : ia0_20.toInt ≤ 80) (ia0_21 : Int32) (hia0_21l : 0 ≤ ia0_21.toInt) (hia0_21h : ia0_21.toInt ≤ 80) (ia0_22 : Int32) (hia0_22l : 0 ≤ ia0_22.toInt) (hia0_22h : ia0_22.toInt ≤ 40) (ia0_24 : Int32) (hia0_24l : 0 ≤ ia0_24.toInt) (hia0_24h : ia0_24.toInt ≤ 1) (ia0_25 : Int32) (hia0_25l : 0 ≤ ia0_25.toInt) (hia0_25h : ia0_25.toInt ≤ 1) (ia0_26 : Int32) (hia0_26l : 0 ≤ ia0_26.toInt) (hia0_26h : ia0_26.toInt ≤ 300) (ia0_27 : Int32) (hia0_27l : (-9) ≤ ia0_27.toInt) (hia0_27h : ia0_27.toInt ≤ 11) (ia0_28 : Int32) (ia0_30 : Int32) (hia0_30l : 0 ≤ ia0_30.toInt) (hia0_30h : ia0_30.toInt ≤ 60) (ia0_31 : Int32) (ia0_32 : Int32) (hia0_32l : 0 ≤ ia0_32.toInt) (hia0_32h : ia0_32.toInt ≤ 1) (ia0_36 : Int32) (hia0_36l : 0 ≤ ia0_36.toInt) (hia0_36h : ia0_36.toInt ≤ 12) (ia0_37 : Int32) : Met l yX12_shortest vsX12_shortest ({ frames := 5, cells := 0, slots := 0, locals := 117 }) (va_Pc [.ref ha0] (zRB dC dI cI cQ [(ha0_1, .inl (cI, 5, .inl fa0_1)), (ha0_2, .inl (cI, 5, .inl fa0_2)), (ha0_4, .inl (cI, 12, .inl fa0_4)), (ha0_5, .inl (cI, 12, .inl fa0_5)), (ha0_6, .inl (cI, 12, .inl fa0_6)), (ha0_8, .inl (cI, 60, .inl fa0_8)), (ha0, .inr (12, [.ref ha0_0, .ref ha0_1, .ref ha0_2, .ref ha0_3, .ref ha0_4, .ref ha0_5, .ref ha0_6, .ref ha0_7, .ref ha0_8, .int ia0_9, .int ia0_10, .int ia0_11, .int ia0_12, .int ia0_13, .int ia0_14, .int ia0_15, .ref ha0_16, .ref ha0_17, .ref ha0_18, .ref ha0_19, .int ia0_20, .int ia0_21, .int ia0_22, .ref ha0_23, .int ia0_24, .int ia0_25, .int ia0_26, .int ia0_27, .int ia0_28, .ref ha0_29, .int ia0_30, .int ia0_31, .int ia0_32, .ref ha0_33, .ref ha0_34, .ref ha0_35, .int ia0_36, .int ia0_37]))])) (vp_Si (fun r => (-9) ≤ r.toInt ∧ r.toInt ≤ 11)) 0 0 (fun _ => False) := by
  refine Met.ofW (cc := cX12_shortest) (maxL := 3) (ret := (some .int)) (by decide) rfl ?_
  intro p e s m args below meth c s₁ B hml hv
  obtain ⟨rfl, hP, hZ⟩ := hv
  obtain ⟨hK, hAO, hN⟩ := id hZ
  have hx := B.exec
  have hb := B.bytes
  have hr := B.returns
  have hts := atoms_spec (ws := vsX12_shortest) B.pre
  have hown : s.vm.findClass RX12 = some m.cls := findClass_of_methodNamed B.named
  have hlocks := B.notSynchronized
  have hl := lv_entry ([.ref ha0]) (n := 3) (Nat.le_of_ble_eq_true rfl)
  rw [lg_entry_eq]
  generalize (lg_sl ([.ref ha0]) ++ List.replicate (3 - (lg_sl ([.ref ha0])).length) Slot.unset).toArray = ls at hl ⊢
  have hl : lv_has ls 3 [(0, .ref ha0)] := hl
  refine lv_iconst (v := 1) hx hb dX12_shortest_0 (by decide) ?_
  refine lv_istore_n (lv' := [(1, .int 1), (0, .ref ha0)]) hx hb dX12_shortest_1 rfl hl (by decide) rfl (fun ls hl => ?_)
  refine lv_iconst (v := 0) hx hb dX12_shortest_2 (by decide) ?_
  refine lv_istore_n (lv' := [(2, .int 0), (1, .int 1), (0, .ref ha0)]) hx hb dX12_shortest_3 rfl hl (by decide) rfl (fun ls hl => ?_)
  have hL63 : ∀ (n : Nat) (v1 : Int32) (v2 : Int32) (ls : Array Slot), 0 ≤ v1.toInt → v1.toInt ≤ 12 → (12 - v1.toInt).toNat < n → lv_has ls 3 [(2, .int v1), (1, .int v2), (0, .ref ha0)] → W p l e (headSpec vsX12_shortest ({ frames := 5, cells := 0, slots := 0, locals := 117 })).room s m ([.ref ha0] : List Value).toArray below meth c s.heap [] 0 0 (MQ below (vp_Si (fun r => (-9) ≤ r.toInt ∧ r.toInt ≤ 11)) ([.ref ha0] : List Value).toArray s 0 0 (fun _ => False)) (F0 m 4 ls []) := by
    intro n
    induction n with
    | zero =>
      intro v1 v2 ls hi64_0 hi64_1 hi64_m hl
      exact absurd hi64_m (Nat.not_lt_zero _)
    | succ n ih =>
      intro v1 v2 ls hi64_0 hi64_1 hi64_m hl
      have ih65 := ih
      refine lv_iload_n hx hb dX12_shortest_4 rfl (lv_at hl 0 rfl) ?_
      refine lv_bipush (v := 12) hx hb dX12_shortest_5 (by decide) ?_
      refine lv_icmp_ge (tgt := 40) hx hb dX12_shortest_7 (by decide) (fun hc => ?_) (fun hc => ?_)
      · have q66 : 12 ≤ v1.toInt := z_le (by decide) rfl hc
        refine lv_bipush (v := (-9)) hx hb dX12_shortest_40 (by decide) ?_
        exact W.iret (v := (-9)) hx hb hr (fun t ht hW => ⟨(-9), rfl, ⟨by first | omega | decide | exact z_lo _, by first | omega | decide | exact z_hi _⟩, ht⟩) (fun _ h => absurd h List.not_mem_nil) dX12_shortest_42
      · have q67 : v1.toInt < 12 := z_nle (by decide) rfl hc
        refine lv_iload_n hx hb dX12_shortest_10 rfl (lv_at hl 1 rfl) ?_
        refine lv_aload_n hx hb dX12_shortest_11 rfl (lv_at hl 2 rfl) ?_
        refine va_get (D := (dC, dI)) (ci := 12) (v := .int ia0_10) (C := RX12) (T := TX12) (N := 38) hx hb hts in_X12_shortest_X12 hown hK hP 6 rfl rfl 10 (by decide) (hts (.fieldLink RX12 79 "EachOnHisCueModel" "lines" "I") (by decide +kernel)) (fun _ h9 => h9) rfl dX12_shortest_12 ?_
        refine lv_iconst (v := 1) hx hb dX12_shortest_15 (by decide) ?_
        refine lv_isub hx hb dX12_shortest_16 ?_
        refine lv_topi (fun y68 ey68 => ?_)
        have hy68 : y68.toInt = ia0_10.toInt - 1 := by rw [ey68]; exact z_sub rfl (by decide) (by omega) (by omega)
        refine lv_ishr hx hb dX12_shortest_17 ?_
        refine lv_topi (fun y69 ey69 => ?_)
        refine lv_iconst (v := 1) hx hb dX12_shortest_18 (by decide) ?_
        refine lv_iand hx hb dX12_shortest_19 ?_
        refine lv_topi (fun y70 ey70 => ?_)
        have hy70 : 0 ≤ y70.toInt ∧ y70.toInt ≤ 1 := by rw [ey70]; exact z_and1 _
        obtain ⟨hy70, hy70_⟩ := hy70
        refine lv_iconst (v := 1) hx hb dX12_shortest_20 (by decide) ?_
        refine lv_icmp_ne (tgt := 26) hx hb dX12_shortest_21 (by decide) (fun hc => ?_) (fun hc => ?_)
        · have q71 : y70.toInt ≠ 1 := z_ne rfl (by decide) hc
          refine lv_iload_n hx hb dX12_shortest_26 rfl (lv_at hl 1 rfl) ?_
          refine lv_aload_n hx hb dX12_shortest_27 rfl (lv_at hl 2 rfl) ?_
          refine lv_iload_n hx hb dX12_shortest_28 rfl (lv_at hl 1 rfl) ?_
          refine z_rdi (va_runV (As := [.int v2]) (rest := [.int v2]) ⟨hx, hb, hml, hown, hts⟩ (rX12_stepsFrom l dC dI cI cQ ha0 ha0_1 ha0_2 ha0_4 ha0_5 ha0_6 ha0_8 ha0_0 ha0_3 ha0_7 ha0_16 ha0_17 ha0_18 ha0_19 ha0_23 ha0_29 ha0_33 ha0_34 ha0_35 fa0_1 fa0_2 fa0_4 hBfa0_4 fa0_5 hBfa0_5 fa0_6 hBfa0_6 fa0_8 ia0_9 (by first | omega | decide | exact z_lo _ | exact z_hi _) (by first | omega | decide | exact z_lo _ | exact z_hi _) ia0_10 (by first | omega | decide | exact z_lo _ | exact z_hi _) (by first | omega | decide | exact z_lo _ | exact z_hi _) ia0_11 ia0_12 ia0_13 ia0_14 (by first | omega | decide | exact z_lo _ | exact z_hi _) (by first | omega | decide | exact z_lo _ | exact z_hi _) ia0_15 ia0_20 (by first | omega | decide | exact z_lo _ | exact z_hi _) (by first | omega | decide | exact z_lo _ | exact z_hi _) ia0_21 (by first | omega | decide | exact z_lo _ | exact z_hi _) (by first | omega | decide | exact z_lo _ | exact z_hi _) ia0_22 (by first | omega | decide | exact z_lo _ | exact z_hi _) (by first | omega | decide | exact z_lo _ | exact z_hi _) ia0_24 (by first | omega | decide | exact z_lo _ | exact z_hi _) (by first | omega | decide | exact z_lo _ | exact z_hi _) ia0_25 (by first | omega | decide | exact z_lo _ | exact z_hi _) (by first | omega | decide | exact z_lo _ | exact z_hi _) ia0_26 (by first | omega | decide | exact z_lo _ | exact z_hi _) (by first | omega | decide | exact z_lo _ | exact z_hi _) ia0_27 (by first | omega | decide | exact z_lo _ | exact z_hi _) (by first | omega | decide | exact z_lo _ | exact z_hi _) ia0_28 ia0_30 (by first | omega | decide | exact z_lo _ | exact z_hi _) (by first | omega | decide | exact z_lo _ | exact z_hi _) ia0_31 ia0_32 (by first | omega | decide | exact z_lo _ | exact z_hi _) (by first | omega | decide | exact z_lo _ | exact z_hi _) ia0_36 (by first | omega | decide | exact z_lo _ | exact z_hi _) (by first | omega | decide | exact z_lo _ | exact z_hi _) ia0_37 v2) (cwV 1 hts gv_X12_shortest_X12_stepsFrom_223 rfl rfl rfl (by decide +kernel) ⟨Nat.le_of_ble_eq_true rfl, Nat.le_of_ble_eq_true rfl⟩) ⟨z_blindR, va_recv hK hP (ci := 12) (q0 := 6) rfl rfl, z_preR hZ hP [0, 1, 2, 3, 4, 5, 6] rfl⟩ rfl rfl hl.1 rfl (lv_room (Nat.le_of_ble_eq_true rfl)) dX12_shortest_29 ⟨Nat.le_of_ble_eq_true rfl, Nat.le_of_ble_eq_true rfl⟩) (fun y72 hy72 => ?_)
          obtain ⟨hy72_0, hy72_1⟩ := hy72
          refine lv_ior hx hb dX12_shortest_32 ?_
          refine lv_topi (fun y73 ey73 => ?_)
          refine lv_istore_n (lv' := [(1, .int y73), (2, .int v1), (0, .ref ha0)]) hx hb dX12_shortest_33 rfl hl (by decide) rfl (fun ls hl => ?_)
          obtain ⟨y74, ey74⟩ : ∃ y : Int32, y = v1 + 1 := ⟨_, rfl⟩
          refine lv_iinc (v := y74) (lv' := [(2, .int y74), (1, .int y73), (0, .ref ha0)]) hx hb dX12_shortest_34 hl (k := 1) rfl (by rw [ey74]; rfl) (by decide) rfl (fun ls hl => ?_)
          have hy74 : y74.toInt = v1.toInt + 1 := by rw [ey74]; exact z_add rfl (by decide) (by omega) (by omega)
          refine lv_goto (tgt := 4) hx hb dX12_shortest_37 (by decide) ?_
          exact ih65 y74 y73 ls (by first | omega | decide | exact z_lo _ | exact z_hi _) (by first | omega | decide | exact z_lo _ | exact z_hi _) (by omega) (lv_sub hl [0, 1, 2] rfl)
        · have q75 : y70.toInt = 1 := z_eq rfl (by decide) hc
          refine lv_iload_n hx hb dX12_shortest_24 rfl (lv_at hl 0 rfl) ?_
          exact W.iret (v := v1) hx hb hr (fun t ht hW => ⟨v1, rfl, ⟨by first | omega | decide | exact z_lo _, by first | omega | decide | exact z_hi _⟩, ht⟩) (fun _ h => absurd h List.not_mem_nil) dX12_shortest_25
  exact hL63 ((12 - (0 : Int32).toInt).toNat + 1) 0 1 ls (by first | omega | decide | exact z_lo _ | exact z_hi _) (by first | omega | decide | exact z_lo _ | exact z_hi _) (by omega) hl
