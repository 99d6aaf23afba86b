set_option maxRecDepth 20000 in
theorem edX12_comesWith_0 : decode cX12_comesWith 0 = .ok (.aload_n 0, 1) ∧ decode cX12_comesWith 1 = .ok (.getfield 13, 3) ∧ decode cX12_comesWith 4 = .ok (.iload_n 1, 1) ∧ decode cX12_comesWith 5 = .ok (.iaload, 1) ∧ decode cX12_comesWith 6 = .ok (.iconst 4, 1) ∧ decode cX12_comesWith 7 = .ok (.if_icmp .eq 15, 3) ∧ decode cX12_comesWith 10 = .ok (.aload_n 0, 1) ∧ decode cX12_comesWith 11 = .ok (.getfield 154, 3) ∧ decode cX12_comesWith 14 = .ok (.iload_n 1, 1) ∧ decode cX12_comesWith 15 = .ok (.ishr, 1) ∧ decode cX12_comesWith 16 = .ok (.iconst 1, 1) ∧ decode cX12_comesWith 17 = .ok (.iand, 1) := by decide +kernel
theorem dX12_comesWith_0 : decode cX12_comesWith 0 = .ok (.aload_n 0, 1) := edX12_comesWith_0.1
theorem dX12_comesWith_1 : decode cX12_comesWith 1 = .ok (.getfield 13, 3) := edX12_comesWith_0.2.1
theorem dX12_comesWith_4 : decode cX12_comesWith 4 = .ok (.iload_n 1, 1) := edX12_comesWith_0.2.2.1
theorem dX12_comesWith_5 : decode cX12_comesWith 5 = .ok (.iaload, 1) := edX12_comesWith_0.2.2.2.1
theorem dX12_comesWith_6 : decode cX12_comesWith 6 = .ok (.iconst 4, 1) := edX12_comesWith_0.2.2.2.2.1
theorem dX12_comesWith_7 : decode cX12_comesWith 7 = .ok (.if_icmp .eq 15, 3) := edX12_comesWith_0.2.2.2.2.2.1
theorem dX12_comesWith_10 : decode cX12_comesWith 10 = .ok (.aload_n 0, 1) := edX12_comesWith_0.2.2.2.2.2.2.1
theorem dX12_comesWith_11 : decode cX12_comesWith 11 = .ok (.getfield 154, 3) := edX12_comesWith_0.2.2.2.2.2.2.2.1
theorem dX12_comesWith_14 : decode cX12_comesWith 14 = .ok (.iload_n 1, 1) := edX12_comesWith_0.2.2.2.2.2.2.2.2.1
theorem dX12_comesWith_15 : decode cX12_comesWith 15 = .ok (.ishr, 1) := edX12_comesWith_0.2.2.2.2.2.2.2.2.2.1
theorem dX12_comesWith_16 : decode cX12_comesWith 16 = .ok (.iconst 1, 1) := edX12_comesWith_0.2.2.2.2.2.2.2.2.2.2.1
theorem dX12_comesWith_17 : decode cX12_comesWith 17 = .ok (.iand, 1) := edX12_comesWith_0.2.2.2.2.2.2.2.2.2.2.2
set_option maxRecDepth 20000 in
theorem edX12_comesWith_18 : decode cX12_comesWith 18 = .ok (.iconst 1, 1) ∧ decode cX12_comesWith 19 = .ok (.if_icmp .ne 6, 3) ∧ decode cX12_comesWith 22 = .ok (.bipush (-9), 2) ∧ decode cX12_comesWith 24 = .ok (.ireturn, 1) ∧ decode cX12_comesWith 25 = .ok (.aload_n 0, 1) ∧ decode cX12_comesWith 26 = .ok (.getfield 13, 3) ∧ decode cX12_comesWith 29 = .ok (.iload_n 1, 1) ∧ decode cX12_comesWith 30 = .ok (.iaload, 1) ∧ decode cX12_comesWith 31 = .ok (.iconst 1, 1) ∧ decode cX12_comesWith 32 = .ok (.if_icmp .eq 13, 3) ∧ decode cX12_comesWith 35 = .ok (.aload_n 0, 1) ∧ decode cX12_comesWith 36 = .ok (.getfield 13, 3) := by decide +kernel
theorem dX12_comesWith_18 : decode cX12_comesWith 18 = .ok (.iconst 1, 1) := edX12_comesWith_18.1
theorem dX12_comesWith_19 : decode cX12_comesWith 19 = .ok (.if_icmp .ne 6, 3) := edX12_comesWith_18.2.1
theorem dX12_comesWith_22 : decode cX12_comesWith 22 = .ok (.bipush (-9), 2) := edX12_comesWith_18.2.2.1
theorem dX12_comesWith_24 : decode cX12_comesWith 24 = .ok (.ireturn, 1) := edX12_comesWith_18.2.2.2.1
theorem dX12_comesWith_25 : decode cX12_comesWith 25 = .ok (.aload_n 0, 1) := edX12_comesWith_18.2.2.2.2.1
theorem dX12_comesWith_26 : decode cX12_comesWith 26 = .ok (.getfield 13, 3) := edX12_comesWith_18.2.2.2.2.2.1
theorem dX12_comesWith_29 : decode cX12_comesWith 29 = .ok (.iload_n 1, 1) := edX12_comesWith_18.2.2.2.2.2.2.1
theorem dX12_comesWith_30 : decode cX12_comesWith 30 = .ok (.iaload, 1) := edX12_comesWith_18.2.2.2.2.2.2.2.1
theorem dX12_comesWith_31 : decode cX12_comesWith 31 = .ok (.iconst 1, 1) := edX12_comesWith_18.2.2.2.2.2.2.2.2.1
theorem dX12_comesWith_32 : decode cX12_comesWith 32 = .ok (.if_icmp .eq 13, 3) := edX12_comesWith_18.2.2.2.2.2.2.2.2.2.1
theorem dX12_comesWith_35 : decode cX12_comesWith 35 = .ok (.aload_n 0, 1) := edX12_comesWith_18.2.2.2.2.2.2.2.2.2.2.1
theorem dX12_comesWith_36 : decode cX12_comesWith 36 = .ok (.getfield 13, 3) := edX12_comesWith_18.2.2.2.2.2.2.2.2.2.2.2
set_option maxRecDepth 20000 in
theorem edX12_comesWith_39 : decode cX12_comesWith 39 = .ok (.iload_n 1, 1) ∧ decode cX12_comesWith 40 = .ok (.iaload, 1) ∧ decode cX12_comesWith 41 = .ok (.iconst 5, 1) ∧ decode cX12_comesWith 42 = .ok (.if_icmp .ne 7, 3) ∧ decode cX12_comesWith 45 = .ok (.iconst 1, 1) ∧ decode cX12_comesWith 46 = .ok (.goto 4, 3) ∧ decode cX12_comesWith 49 = .ok (.iconst 0, 1) ∧ decode cX12_comesWith 50 = .ok (.istore_n 3, 1) ∧ decode cX12_comesWith 51 = .ok (.bipush (-9), 2) ∧ decode cX12_comesWith 53 = .ok (.istore 4, 2) ∧ decode cX12_comesWith 55 = .ok (.iconst 0, 1) ∧ decode cX12_comesWith 56 = .ok (.istore 5, 2) := by decide +kernel
theorem dX12_comesWith_39 : decode cX12_comesWith 39 = .ok (.iload_n 1, 1) := edX12_comesWith_39.1
theorem dX12_comesWith_40 : decode cX12_comesWith 40 = .ok (.iaload, 1) := edX12_comesWith_39.2.1
theorem dX12_comesWith_41 : decode cX12_comesWith 41 = .ok (.iconst 5, 1) := edX12_comesWith_39.2.2.1
theorem dX12_comesWith_42 : decode cX12_comesWith 42 = .ok (.if_icmp .ne 7, 3) := edX12_comesWith_39.2.2.2.1
theorem dX12_comesWith_45 : decode cX12_comesWith 45 = .ok (.iconst 1, 1) := edX12_comesWith_39.2.2.2.2.1
theorem dX12_comesWith_46 : decode cX12_comesWith 46 = .ok (.goto 4, 3) := edX12_comesWith_39.2.2.2.2.2.1
theorem dX12_comesWith_49 : decode cX12_comesWith 49 = .ok (.iconst 0, 1) := edX12_comesWith_39.2.2.2.2.2.2.1
theorem dX12_comesWith_50 : decode cX12_comesWith 50 = .ok (.istore_n 3, 1) := edX12_comesWith_39.2.2.2.2.2.2.2.1
theorem dX12_comesWith_51 : decode cX12_comesWith 51 = .ok (.bipush (-9), 2) := edX12_comesWith_39.2.2.2.2.2.2.2.2.1
theorem dX12_comesWith_53 : decode cX12_comesWith 53 = .ok (.istore 4, 2) := edX12_comesWith_39.2.2.2.2.2.2.2.2.2.1
theorem dX12_comesWith_55 : decode cX12_comesWith 55 = .ok (.iconst 0, 1) := edX12_comesWith_39.2.2.2.2.2.2.2.2.2.2.1
theorem dX12_comesWith_56 : decode cX12_comesWith 56 = .ok (.istore 5, 2) := edX12_comesWith_39.2.2.2.2.2.2.2.2.2.2.2
set_option maxRecDepth 20000 in
theorem edX12_comesWith_58 : decode cX12_comesWith 58 = .ok (.iload 5, 2) ∧ decode cX12_comesWith 60 = .ok (.aload_n 0, 1) ∧ decode cX12_comesWith 61 = .ok (.getfield 79, 3) ∧ decode cX12_comesWith 64 = .ok (.if_icmp .ge 90, 3) ∧ decode cX12_comesWith 67 = .ok (.aload_n 0, 1) ∧ decode cX12_comesWith 68 = .ok (.getfield 22, 3) ∧ decode cX12_comesWith 71 = .ok (.iload 5, 2) ∧ decode cX12_comesWith 73 = .ok (.iaload, 1) ∧ decode cX12_comesWith 74 = .ok (.iload_n 1, 1) ∧ decode cX12_comesWith 75 = .ok (.if_icmp .ne 73, 3) ∧ decode cX12_comesWith 78 = .ok (.iload_n 3, 1) ∧ decode cX12_comesWith 79 = .ok (.ifCond .ne 19, 3) := by decide +kernel
theorem dX12_comesWith_58 : decode cX12_comesWith 58 = .ok (.iload 5, 2) := edX12_comesWith_58.1
theorem dX12_comesWith_60 : decode cX12_comesWith 60 = .ok (.aload_n 0, 1) := edX12_comesWith_58.2.1
theorem dX12_comesWith_61 : decode cX12_comesWith 61 = .ok (.getfield 79, 3) := edX12_comesWith_58.2.2.1
theorem dX12_comesWith_64 : decode cX12_comesWith 64 = .ok (.if_icmp .ge 90, 3) := edX12_comesWith_58.2.2.2.1
theorem dX12_comesWith_67 : decode cX12_comesWith 67 = .ok (.aload_n 0, 1) := edX12_comesWith_58.2.2.2.2.1
theorem dX12_comesWith_68 : decode cX12_comesWith 68 = .ok (.getfield 22, 3) := edX12_comesWith_58.2.2.2.2.2.1
theorem dX12_comesWith_71 : decode cX12_comesWith 71 = .ok (.iload 5, 2) := edX12_comesWith_58.2.2.2.2.2.2.1
theorem dX12_comesWith_73 : decode cX12_comesWith 73 = .ok (.iaload, 1) := edX12_comesWith_58.2.2.2.2.2.2.2.1
theorem dX12_comesWith_74 : decode cX12_comesWith 74 = .ok (.iload_n 1, 1) := edX12_comesWith_58.2.2.2.2.2.2.2.2.1
theorem dX12_comesWith_75 : decode cX12_comesWith 75 = .ok (.if_icmp .ne 73, 3) := edX12_comesWith_58.2.2.2.2.2.2.2.2.2.1
theorem dX12_comesWith_78 : decode cX12_comesWith 78 = .ok (.iload_n 3, 1) := edX12_comesWith_58.2.2.2.2.2.2.2.2.2.2.1
theorem dX12_comesWith_79 : decode cX12_comesWith 79 = .ok (.ifCond .ne 19, 3) := edX12_comesWith_58.2.2.2.2.2.2.2.2.2.2.2
set_option maxRecDepth 20000 in
theorem edX12_comesWith_82 : decode cX12_comesWith 82 = .ok (.aload_n 0, 1) ∧ decode cX12_comesWith 83 = .ok (.getfield 151, 3) ∧ decode cX12_comesWith 86 = .ok (.iload 5, 2) ∧ decode cX12_comesWith 88 = .ok (.ishr, 1) ∧ decode cX12_comesWith 89 = .ok (.iconst 1, 1) ∧ decode cX12_comesWith 90 = .ok (.iand, 1) ∧ decode cX12_comesWith 91 = .ok (.iconst 1, 1) ∧ decode cX12_comesWith 92 = .ok (.if_icmp .ne 6, 3) ∧ decode cX12_comesWith 95 = .ok (.goto 53, 3) ∧ decode cX12_comesWith 98 = .ok (.aload_n 0, 1) ∧ decode cX12_comesWith 99 = .ok (.iload 5, 2) ∧ decode cX12_comesWith 101 = .ok (.iload_n 2, 1) := by decide +kernel
theorem dX12_comesWith_82 : decode cX12_comesWith 82 = .ok (.aload_n 0, 1) := edX12_comesWith_82.1
theorem dX12_comesWith_83 : decode cX12_comesWith 83 = .ok (.getfield 151, 3) := edX12_comesWith_82.2.1
theorem dX12_comesWith_86 : decode cX12_comesWith 86 = .ok (.iload 5, 2) := edX12_comesWith_82.2.2.1
theorem dX12_comesWith_88 : decode cX12_comesWith 88 = .ok (.ishr, 1) := edX12_comesWith_82.2.2.2.1
theorem dX12_comesWith_89 : decode cX12_comesWith 89 = .ok (.iconst 1, 1) := edX12_comesWith_82.2.2.2.2.1
theorem dX12_comesWith_90 : decode cX12_comesWith 90 = .ok (.iand, 1) := edX12_comesWith_82.2.2.2.2.2.1
theorem dX12_comesWith_91 : decode cX12_comesWith 91 = .ok (.iconst 1, 1) := edX12_comesWith_82.2.2.2.2.2.2.1
theorem dX12_comesWith_92 : decode cX12_comesWith 92 = .ok (.if_icmp .ne 6, 3) := edX12_comesWith_82.2.2.2.2.2.2.2.1
theorem dX12_comesWith_95 : decode cX12_comesWith 95 = .ok (.goto 53, 3) := edX12_comesWith_82.2.2.2.2.2.2.2.2.1
theorem dX12_comesWith_98 : decode cX12_comesWith 98 = .ok (.aload_n 0, 1) := edX12_comesWith_82.2.2.2.2.2.2.2.2.2.1
theorem dX12_comesWith_99 : decode cX12_comesWith 99 = .ok (.iload 5, 2) := edX12_comesWith_82.2.2.2.2.2.2.2.2.2.2.1
theorem dX12_comesWith_101 : decode cX12_comesWith 101 = .ok (.iload_n 2, 1) := edX12_comesWith_82.2.2.2.2.2.2.2.2.2.2.2
set_option maxRecDepth 20000 in
theorem edX12_comesWith_102 : decode cX12_comesWith 102 = .ok (.invokevirtual 188, 3) ∧ decode cX12_comesWith 105 = .ok (.istore 6, 2) ∧ decode cX12_comesWith 107 = .ok (.iload_n 3, 1) ∧ decode cX12_comesWith 108 = .ok (.ifCond .ne 16, 3) ∧ decode cX12_comesWith 111 = .ok (.iload 6, 2) ∧ decode cX12_comesWith 113 = .ok (.ifCond .eq 8, 3) ∧ decode cX12_comesWith 116 = .ok (.iload 5, 2) ∧ decode cX12_comesWith 118 = .ok (.goto 5, 3) ∧ decode cX12_comesWith 121 = .ok (.bipush (-9), 2) ∧ decode cX12_comesWith 123 = .ok (.ireturn, 1) ∧ decode cX12_comesWith 124 = .ok (.iload 6, 2) ∧ decode cX12_comesWith 126 = .ok (.ifCond .eq 22, 3) := by decide +kernel
theorem dX12_comesWith_102 : decode cX12_comesWith 102 = .ok (.invokevirtual 188, 3) := edX12_comesWith_102.1
theorem dX12_comesWith_105 : decode cX12_comesWith 105 = .ok (.istore 6, 2) := edX12_comesWith_102.2.1
theorem dX12_comesWith_107 : decode cX12_comesWith 107 = .ok (.iload_n 3, 1) := edX12_comesWith_102.2.2.1
theorem dX12_comesWith_108 : decode cX12_comesWith 108 = .ok (.ifCond .ne 16, 3) := edX12_comesWith_102.2.2.2.1
theorem dX12_comesWith_111 : decode cX12_comesWith 111 = .ok (.iload 6, 2) := edX12_comesWith_102.2.2.2.2.1
theorem dX12_comesWith_113 : decode cX12_comesWith 113 = .ok (.ifCond .eq 8, 3) := edX12_comesWith_102.2.2.2.2.2.1
theorem dX12_comesWith_116 : decode cX12_comesWith 116 = .ok (.iload 5, 2) := edX12_comesWith_102.2.2.2.2.2.2.1
theorem dX12_comesWith_118 : decode cX12_comesWith 118 = .ok (.goto 5, 3) := edX12_comesWith_102.2.2.2.2.2.2.2.1
theorem dX12_comesWith_121 : decode cX12_comesWith 121 = .ok (.bipush (-9), 2) := edX12_comesWith_102.2.2.2.2.2.2.2.2.1
theorem dX12_comesWith_123 : decode cX12_comesWith 123 = .ok (.ireturn, 1) := edX12_comesWith_102.2.2.2.2.2.2.2.2.2.1
theorem dX12_comesWith_124 : decode cX12_comesWith 124 = .ok (.iload 6, 2) := edX12_comesWith_102.2.2.2.2.2.2.2.2.2.2.1
theorem dX12_comesWith_126 : decode cX12_comesWith 126 = .ok (.ifCond .eq 22, 3) := edX12_comesWith_102.2.2.2.2.2.2.2.2.2.2.2
set_option maxRecDepth 20000 in
theorem edX12_comesWith_129 : decode cX12_comesWith 129 = .ok (.iload 4, 2) ∧ decode cX12_comesWith 131 = .ok (.ifCond .lt 13, 3) ∧ decode cX12_comesWith 134 = .ok (.aload_n 0, 1) ∧ decode cX12_comesWith 135 = .ok (.getfield 13, 3) ∧ decode cX12_comesWith 138 = .ok (.iload_n 1, 1) ∧ decode cX12_comesWith 139 = .ok (.iaload, 1) ∧ decode cX12_comesWith 140 = .ok (.iconst 5, 1) ∧ decode cX12_comesWith 141 = .ok (.if_icmp .ne 7, 3) ∧ decode cX12_comesWith 144 = .ok (.iload 5, 2) ∧ decode cX12_comesWith 146 = .ok (.istore 4, 2) ∧ decode cX12_comesWith 148 = .ok (.iinc 5 1, 3) ∧ decode cX12_comesWith 151 = .ok (.goto (-93), 3) := by decide +kernel
theorem dX12_comesWith_129 : decode cX12_comesWith 129 = .ok (.iload 4, 2) := edX12_comesWith_129.1
theorem dX12_comesWith_131 : decode cX12_comesWith 131 = .ok (.ifCond .lt 13, 3) := edX12_comesWith_129.2.1
theorem dX12_comesWith_134 : decode cX12_comesWith 134 = .ok (.aload_n 0, 1) := edX12_comesWith_129.2.2.1
theorem dX12_comesWith_135 : decode cX12_comesWith 135 = .ok (.getfield 13, 3) := edX12_comesWith_129.2.2.2.1
theorem dX12_comesWith_138 : decode cX12_comesWith 138 = .ok (.iload_n 1, 1) := edX12_comesWith_129.2.2.2.2.1
theorem dX12_comesWith_139 : decode cX12_comesWith 139 = .ok (.iaload, 1) := edX12_comesWith_129.2.2.2.2.2.1
theorem dX12_comesWith_140 : decode cX12_comesWith 140 = .ok (.iconst 5, 1) := edX12_comesWith_129.2.2.2.2.2.2.1
theorem dX12_comesWith_141 : decode cX12_comesWith 141 = .ok (.if_icmp .ne 7, 3) := edX12_comesWith_129.2.2.2.2.2.2.2.1
theorem dX12_comesWith_144 : decode cX12_comesWith 144 = .ok (.iload 5, 2) := edX12_comesWith_129.2.2.2.2.2.2.2.2.1
theorem dX12_comesWith_146 : decode cX12_comesWith 146 = .ok (.istore 4, 2) := edX12_comesWith_129.2.2.2.2.2.2.2.2.2.1
theorem dX12_comesWith_148 : decode cX12_comesWith 148 = .ok (.iinc 5 1, 3) := edX12_comesWith_129.2.2.2.2.2.2.2.2.2.2.1
theorem dX12_comesWith_151 : decode cX12_comesWith 151 = .ok (.goto (-93), 3) := edX12_comesWith_129.2.2.2.2.2.2.2.2.2.2.2
set_option maxRecDepth 20000 in
theorem edX12_comesWith_154 : decode cX12_comesWith 154 = .ok (.iload 4, 2) ∧ decode cX12_comesWith 156 = .ok (.ireturn, 1) := by decide +kernel
theorem dX12_comesWith_154 : decode cX12_comesWith 154 = .ok (.iload 4, 2) := edX12_comesWith_154.1
theorem dX12_comesWith_156 : decode cX12_comesWith 156 = .ok (.ireturn, 1) := edX12_comesWith_154.2
noncomputable def voX12_comesWith : List Cond := [.fieldLink RX12 13 "EachOnHisCueModel" "kind" "[I", .fieldLink RX12 154 "EachOnHisCueModel" "dead" "I", .fieldLink RX12 79 "EachOnHisCueModel" "lines" "I", .fieldLink RX12 22 "EachOnHisCueModel" "whose" "[I", .fieldLink RX12 151 "EachOnHisCueModel" "said" "I", .methodLink RX12 188 yX12_isCued, .instanceMethod yX12_isCued, .selects RX12 yX12_isCued yX12_isCued, .initialized RX12]
noncomputable def vsX12_comesWith : List Cond := .code yX12_comesWith cX12_comesWith 7 (some .int) :: (voX12_comesWith ++ (vsX12_isCued ++ (wsX120)))
theorem zgX12_comesWith : zGd vsX12_comesWith := z_gdC rfl (z_gdA (z_gdO (by decide +kernel) : zGd voX12_comesWith) (z_gdA zgX12_isCued (zgX12)))
theorem in_X12_comesWith_X12 : ∀ w ∈ wsX120, w ∈ vsX12_comesWith := fun _ h => List.mem_cons_of_mem _ (List.mem_append_right _ (List.mem_append_right _ (h)))
theorem gw_X12_comesWith_X12_isCued : GoodIn vsX12_comesWith vsX12_isCued := z_gdI (fun _ h => List.mem_cons_of_mem _ (List.mem_append_right _ (List.mem_append_left _ h))) zgX12_isCued
set_option maxRecDepth 20000 in
theorem gv_X12_comesWith_X12_isCued_188 : GoodIn vsX12_comesWith (wsV RX12 188 RX12 yX12_isCued vsX12_isCued) := goodIn_app (goodIn_of _ (by decide +kernel)) gw_X12_comesWith_X12_isCued
set_option maxHeartbeats 4000000 in
set_option maxRecDepth 100000 in
theorem rX12_comesWith (l : Launch) (dC : Nat → ClassId) (dI : Nat → Nat → Nat) (cI cQ : ClassId) (ha0 ha0_1 ha0_2 ha0_4 ha0_5 ha0_6 ha0_8 ha0_0 ha0_3 ha0_7 ha0_16 ha0_17 ha0_18 ha0_19 ha0_23 ha0_29 ha0_33 ha0_34 ha0_35 : Nat) (fa0_1 : Nat → Int32) (fa0_2 : Nat → Int32) (fa0_4 : Nat → Int32) (hBfa0_4 : ∀ k, 0 ≤ (fa0_4 k).toInt ∧ (fa0_4 k).toInt ≤ 4) (fa0_5 : Nat → Int32) (hBfa0_5 : ∀ k, 0 ≤ (fa0_5 k).toInt ∧ (fa0_5 k).toInt ≤ 4) (fa0_6 : Nat → Int32) (hBfa0_6 : ∀ k, 0 ≤ (fa0_6 k).toInt ∧ (fa0_6 k).toInt ≤ 9) (fa0_8 : Nat → Int32) (ia0_9 : Int32) (hia0_9l : 0 ≤ ia0_9.toInt) (hia0_9h : ia0_9.toInt ≤ 5) (ia0_10 : Int32) (hia0_10l : 0 ≤ ia0_10.toInt) (hia0_10h : ia0_10.toInt ≤ 12) (ia0_11 : Int32) (ia0_12 : Int32) (ia0_13 : Int32) (ia0_14 : Int32) (hia0_14l : (-9) ≤ ia0_14.toInt) (hia0_14h : ia0_14.toInt ≤ 11) (ia0_15 : Int32) (ia0_20 : Int32) (hia0_20l : 0 ≤ ia0_20.toInt) (hia0_20h : ia0_20.toInt ≤ 80) (ia0_21 : Int32) (hia0_21l : 0 ≤ ia0_21.toInt) (hia0_21h : ia0_21.toInt ≤ 80) (ia0_22 : Int32) (hia0_22l : 0 ≤ ia0_22.toInt) (hia0_22h : ia0_22.toInt ≤ 40) (ia0_24 : Int32) (hia0_24l : 0 ≤ ia0_24.toInt) (hia0_24h : ia0_24.toInt ≤ 1) (ia0_25 : Int32) (hia0_25l : 0 ≤ ia0_25.toInt) (hia0_25h : ia0_25.toInt ≤ 1) (ia0_26 : Int32) (hia0_26l : 0 ≤ ia0_26.toInt) (hia0_26h : ia0_26.toInt ≤ 300) (ia0_27 : Int32) (hia0_27l : (-9) ≤ ia0_27.toInt) (hia0_27h : ia0_27.toInt ≤ 11) (ia0_28 : Int32) (ia0_30 : Int32) (hia0_30l : 0 ≤ ia0_30.toInt) (hia0_30h : ia0_30.toInt ≤ 60) (ia0_31 : Int32) (ia0_32 : Int32) (hia0_32l : 0 ≤ ia0_32.toInt) (hia0_32h : ia0_32.toInt ≤ 1) (ia0_36 : Int32) (hia0_36l : 0 ≤ ia0_36.toInt) (hia0_36h : ia0_36.toInt ≤ 12) (ia0_37 : Int32) (p1 : Int32) (hp1l : 0 ≤ p1.toInt) (hp1h : p1.toInt ≤ 4) (p2 : Int32) (hp2l : 0 ≤ p2.toInt) (hp2h : p2.toInt ≤ 11) : Met l yX12_comesWith vsX12_comesWith ({ frames := 3, cells := 0, slots := 0, locals := 71 }) (va_Pc [.ref ha0, .int p1, .int p2] (zRB dC dI cI cQ [(ha0_1, .inl (cI, 5, .inl fa0_1)), (ha0_2, .inl (cI, 5, .inl fa0_2)), (ha0_4, .inl (cI, 12, .inl fa0_4)), (ha0_5, .inl (cI, 12, .inl fa0_5)), (ha0_6, .inl (cI, 12, .inl fa0_6)), (ha0_8, .inl (cI, 60, .inl fa0_8)), (ha0, .inr (12, [.ref ha0_0, .ref ha0_1, .ref ha0_2, .ref ha0_3, .ref ha0_4, .ref ha0_5, .ref ha0_6, .ref ha0_7, .ref ha0_8, .int ia0_9, .int ia0_10, .int ia0_11, .int ia0_12, .int ia0_13, .int ia0_14, .int ia0_15, .ref ha0_16, .ref ha0_17, .ref ha0_18, .ref ha0_19, .int ia0_20, .int ia0_21, .int ia0_22, .ref ha0_23, .int ia0_24, .int ia0_25, .int ia0_26, .int ia0_27, .int ia0_28, .ref ha0_29, .int ia0_30, .int ia0_31, .int ia0_32, .ref ha0_33, .ref ha0_34, .ref ha0_35, .int ia0_36, .int ia0_37]))])) (vp_Si (fun r => (-9) ≤ r.toInt ∧ r.toInt ≤ 11 ∧ (0 ≤ (fa0_1 p1.toNatClampNeg).toInt → (fa0_1 p1.toNatClampNeg).toInt ≤ 5 → zCwA (bt ia0_13 p1.toInt.toNat) (fa0_1 p1.toNatClampNeg).toInt ia0_10.toInt fa0_4 (fun j => zIcR fa0_8 fa0_5 ia0_27 ia0_28 fa0_1 fa0_2 fa0_4 fa0_6 p2.toInt (j : Int)) (fun j => bt ia0_12 j = true) p1.toInt r.toInt))) 0 0 (fun _ => False) := by
  refine Met.ofW (cc := cX12_comesWith) (maxL := 7) (ret := (some .int)) (by decide) rfl ?_
  intro p e s m args below meth c s₁ B hml hv
  obtain ⟨rfl, hP, hZ⟩ := hv
  obtain ⟨hK, hAO, hN⟩ := id hZ
  have hx := B.exec
  have hb := B.bytes
  have hr := B.returns
  have hts := atoms_spec (ws := vsX12_comesWith) B.pre
  have hown : s.vm.findClass RX12 = some m.cls := findClass_of_methodNamed B.named
  have hlocks := B.notSynchronized
  have hl := lv_entry ([.ref ha0, .int p1, .int p2]) (n := 7) (Nat.le_of_ble_eq_true rfl)
  rw [lg_entry_eq]
  generalize (lg_sl ([.ref ha0, .int p1, .int p2]) ++ List.replicate (7 - (lg_sl ([.ref ha0, .int p1, .int p2])).length) Slot.unset).toArray = ls at hl ⊢
  have hl : lv_has ls 7 [(0, .ref ha0), (1, .int p1), (2, .int p2)] := hl
  refine lv_aload_n hx hb dX12_comesWith_0 rfl (lv_at hl 0 rfl) ?_
  refine va_get (D := (dC, dI)) (ci := 12) (v := .ref ha0_1) (C := RX12) (T := TX12) (N := 38) hx hb hts in_X12_comesWith_X12 hown hK hP 6 rfl rfl 1 (by decide) (hts (.fieldLink RX12 13 "EachOnHisCueModel" "kind" "[I") (by decide +kernel)) (fun _ h9 => h9) rfl dX12_comesWith_1 ?_
  refine lv_iload_n hx hb dX12_comesWith_4 rfl (lv_at hl 1 rfl) ?_
  refine va_iald hx hb hK hP 0 0 rfl rfl (z_in (by omega) (by omega)) dX12_comesWith_5 ?_
  refine lv_topi (fun y1 ey1 => ?_)
  have gy1 : y1.toInt = (fa0_1 (p1 : Int32).toNatClampNeg).toInt := by rw [ey1]
  refine lv_iconst (v := 4) hx hb dX12_comesWith_6 (by decide) ?_
  refine lv_icmp_eq (tgt := 22) hx hb dX12_comesWith_7 (by decide) (fun hc => ?_) (fun hc => ?_)
  · have q2 : y1.toInt = 4 := z_eq rfl (by decide) hc
    refine lv_bipush (v := (-9)) hx hb dX12_comesWith_22 (by decide) ?_
    exact W.iret (v := (-9)) hx hb hr (fun t ht hW => ⟨(-9), rfl, ⟨by first | decide | omega, by first | decide | omega, (by exact fun k0 k5 => z_cw4 (by omega) (by decide))⟩, ht⟩) (fun _ h => absurd h List.not_mem_nil) dX12_comesWith_24
  · have q3 : y1.toInt ≠ 4 := z_ne rfl (by decide) hc
    refine lv_aload_n hx hb dX12_comesWith_10 rfl (lv_at hl 0 rfl) ?_
    refine va_get (D := (dC, dI)) (ci := 12) (v := .int ia0_13) (C := RX12) (T := TX12) (N := 38) hx hb hts in_X12_comesWith_X12 hown hK hP 6 rfl rfl 13 (by decide) (hts (.fieldLink RX12 154 "EachOnHisCueModel" "dead" "I") (by decide +kernel)) (fun _ h9 => h9) rfl dX12_comesWith_11 ?_
    refine lv_iload_n hx hb dX12_comesWith_14 rfl (lv_at hl 1 rfl) ?_
    refine lv_ishr hx hb dX12_comesWith_15 ?_
    refine lv_topi (fun y4 ey4 => ?_)
    refine lv_iconst (v := 1) hx hb dX12_comesWith_16 (by decide) ?_
    refine lv_iand hx hb dX12_comesWith_17 ?_
    refine lv_topi (fun y5 ey5 => ?_)
    have hy5 : 0 ≤ y5.toInt ∧ y5.toInt ≤ 1 := by rw [ey5]; exact z_and1 _
    obtain ⟨hy5, hy5_⟩ := hy5
    refine lv_iconst (v := 1) hx hb dX12_comesWith_18 (by decide) ?_
    refine lv_icmp_ne (tgt := 25) hx hb dX12_comesWith_19 (by decide) (fun hc => ?_) (fun hc => ?_)
    · have q6 : y5.toInt ≠ 1 := z_ne rfl (by decide) hc
      refine lv_aload_n hx hb dX12_comesWith_25 rfl (lv_at hl 0 rfl) ?_
      refine va_get (D := (dC, dI)) (ci := 12) (v := .ref ha0_1) (C := RX12) (T := TX12) (N := 38) hx hb hts in_X12_comesWith_X12 hown hK hP 6 rfl rfl 1 (by decide) (hts (.fieldLink RX12 13 "EachOnHisCueModel" "kind" "[I") (by decide +kernel)) (fun _ h9 => h9) rfl dX12_comesWith_26 ?_
      refine lv_iload_n hx hb dX12_comesWith_29 rfl (lv_at hl 1 rfl) ?_
      refine va_iald hx hb hK hP 0 0 rfl rfl (z_in (by omega) (by omega)) dX12_comesWith_30 ?_
      refine lv_topi (fun y7 ey7 => ?_)
      obtain rfl : y1 = y7 := ey1.trans ey7.symm
      refine lv_iconst (v := 1) hx hb dX12_comesWith_31 (by decide) ?_
      refine lv_icmp_eq (tgt := 45) hx hb dX12_comesWith_32 (by decide) (fun hc => ?_) (fun hc => ?_)
      · have q8 : y1.toInt = 1 := z_eq rfl (by decide) hc
        refine lv_iconst (v := 1) hx hb dX12_comesWith_45 (by decide) ?_
        refine lv_goto (tgt := 50) hx hb dX12_comesWith_46 (by decide) ?_
        refine lv_istore_n (lv' := [(3, .int 1), (0, .ref ha0), (1, .int p1), (2, .int p2)]) hx hb dX12_comesWith_50 rfl hl (by decide) rfl (fun ls hl => ?_)
        refine lv_bipush (v := (-9)) hx hb dX12_comesWith_51 (by decide) ?_
        refine lv_istore (lv' := [(4, .int (-9)), (3, .int 1), (0, .ref ha0), (1, .int p1), (2, .int p2)]) hx hb dX12_comesWith_53 hl (by decide) rfl (fun ls hl => ?_)
        refine lv_iconst (v := 0) hx hb dX12_comesWith_55 (by decide) ?_
        refine lv_istore (lv' := [(5, .int 0), (4, .int (-9)), (3, .int 1), (0, .ref ha0), (1, .int p1), (2, .int p2)]) hx hb dX12_comesWith_56 hl (by decide) rfl (fun ls hl => ?_)
        have hL143 : ∀ (n : Nat) (v9 : Int32) (v10 : Int32) (ls : Array Slot), 0 ≤ v9.toInt → v9.toInt ≤ 12 → (-9) ≤ v10.toInt → v10.toInt ≤ 11 → (zChI (fa0_1 p1.toNatClampNeg).toInt (fun j => (j : Int) < ia0_10.toInt ∧ (fa0_4 j).toInt = p1.toInt) (fun j => zIcR fa0_8 fa0_5 ia0_27 ia0_28 fa0_1 fa0_2 fa0_4 fa0_6 p2.toInt (j : Int)) (fun j => bt ia0_12 j = true) (v9 : Int32).toInt (v10 : Int32).toInt) → ((v9 : Int32).toInt ≤ ia0_10.toInt) → (12 - v9.toInt).toNat < n → lv_has ls 7 [(5, .int v9), (4, .int v10), (3, .int 1), (0, .ref ha0), (1, .int p1), (2, .int p2)] → W p l e (headSpec vsX12_comesWith ({ frames := 3, cells := 0, slots := 0, locals := 71 })).room s m ([.ref ha0, .int p1, .int p2] : List Value).toArray below meth c s.heap [] 0 0 (MQ below (vp_Si (fun r => (-9) ≤ r.toInt ∧ r.toInt ≤ 11 ∧ (0 ≤ (fa0_1 p1.toNatClampNeg).toInt → (fa0_1 p1.toNatClampNeg).toInt ≤ 5 → zCwA (bt ia0_13 p1.toInt.toNat) (fa0_1 p1.toNatClampNeg).toInt ia0_10.toInt fa0_4 (fun j => zIcR fa0_8 fa0_5 ia0_27 ia0_28 fa0_1 fa0_2 fa0_4 fa0_6 p2.toInt (j : Int)) (fun j => bt ia0_12 j = true) p1.toInt r.toInt))) ([.ref ha0, .int p1, .int p2] : List Value).toArray s 0 0 (fun _ => False)) (F0 m 58 ls []) := by
          intro n
          induction n with
          | zero =>
            intro v9 v10 ls hi144_0 hi144_1 hi144_2 hi144_3 hi144_x0 hi144_x1 hi144_m hl
            exact absurd hi144_m (Nat.not_lt_zero _)
          | succ n ih =>
            intro v9 v10 ls hi144_0 hi144_1 hi144_2 hi144_3 hi144_x0 hi144_x1 hi144_m hl
            have ih145 := ih
            refine lv_iload hx hb dX12_comesWith_58 (lv_at hl 0 rfl) ?_
            refine lv_aload_n hx hb dX12_comesWith_60 rfl (lv_at hl 3 rfl) ?_
            refine va_get (D := (dC, dI)) (ci := 12) (v := .int ia0_10) (C := RX12) (T := TX12) (N := 38) hx hb hts in_X12_comesWith_X12 hown hK hP 6 rfl rfl 10 (by decide) (hts (.fieldLink RX12 79 "EachOnHisCueModel" "lines" "I") (by decide +kernel)) (fun _ h9 => h9) rfl dX12_comesWith_61 ?_
            refine lv_icmp_ge (tgt := 154) hx hb dX12_comesWith_64 (by decide) (fun hc => ?_) (fun hc => ?_)
            · have q146 : ia0_10.toInt ≤ v9.toInt := z_le rfl rfl hc
              refine lv_iload hx hb dX12_comesWith_154 (lv_at hl 1 rfl) ?_
              exact W.iret (v := v10) hx hb hr (fun t ht hW => ⟨v10, rfl, ⟨by first | decide | omega, by first | decide | omega, (by exact fun k0 k5 => Or.inr ⟨z_btF (z_bit1 ey4 ey5 (by omega) (by omega)) (by omega), z_chIE (by assumption) (fun q o => o.1) (by omega) (by omega) k0 k5 (by omega)⟩)⟩, ht⟩) (fun _ h => absurd h List.not_mem_nil) dX12_comesWith_156
            · have q147 : v9.toInt < ia0_10.toInt := z_nle rfl rfl hc
              refine lv_aload_n hx hb dX12_comesWith_67 rfl (lv_at hl 3 rfl) ?_
              refine va_get (D := (dC, dI)) (ci := 12) (v := .ref ha0_4) (C := RX12) (T := TX12) (N := 38) hx hb hts in_X12_comesWith_X12 hown hK hP 6 rfl rfl 4 (by decide) (hts (.fieldLink RX12 22 "EachOnHisCueModel" "whose" "[I") (by decide +kernel)) (fun _ h9 => h9) rfl dX12_comesWith_68 ?_
              refine lv_iload hx hb dX12_comesWith_71 (lv_at hl 0 rfl) ?_
              refine va_iald hx hb hK hP 2 0 rfl rfl (z_in (by omega) (by omega)) dX12_comesWith_73 ?_
              refine lv_topi (fun y148 ey148 => ?_)
              have gy148 : y148.toInt = (fa0_4 (v9 : Int32).toNatClampNeg).toInt := by rw [ey148]
              have hy148 : 0 ≤ y148.toInt ∧ y148.toInt ≤ 4 := by rw [ey148]; exact hBfa0_4 _
              obtain ⟨hy148, hy148_⟩ := hy148
              refine lv_iload_n hx hb dX12_comesWith_74 rfl (lv_at hl 4 rfl) ?_
              refine lv_icmp_ne (tgt := 148) hx hb dX12_comesWith_75 (by decide) (fun hc => ?_) (fun hc => ?_)
              · have q149 : y148.toInt ≠ p1.toInt := z_ne rfl rfl hc
                obtain ⟨y150, ey150⟩ : ∃ y : Int32, y = v9 + 1 := ⟨_, rfl⟩
                refine lv_iinc (v := y150) (lv' := [(5, .int y150), (4, .int v10), (3, .int 1), (0, .ref ha0), (1, .int p1), (2, .int p2)]) hx hb dX12_comesWith_148 hl (k := 0) rfl (by rw [ey150]; rfl) (by decide) rfl (fun ls hl => ?_)
                have hy150 : y150.toInt = v9.toInt + 1 := by rw [ey150]; exact z_add rfl (by decide) (by omega) (by omega)
                refine lv_goto (tgt := 58) hx hb dX12_comesWith_151 (by decide) ?_
                exact ih145 y150 v10 ls (by first | decide | omega) (by first | decide | omega) hi144_2 hi144_3 (z_chIN (by assumption) (by omega) (by omega) (Or.inl (z_oN gy148 (by omega)))) (by have e0 : (0 : Int32).toInt = 0 := (by decide); omega) (by omega) (lv_sub hl [0, 1, 2, 3, 4, 5] rfl)
              · have q151 : y148.toInt = p1.toInt := z_eq rfl rfl hc
                refine lv_iload_n hx hb dX12_comesWith_78 rfl (lv_at hl 2 rfl) ?_
                refine lv_if_ne (tgt := 98) hx hb dX12_comesWith_79 (by decide) (fun hc => ?_) (fun hc => ?_)
                · skip
                  refine lv_aload_n hx hb dX12_comesWith_98 rfl (lv_at hl 3 rfl) ?_
                  refine lv_iload hx hb dX12_comesWith_99 (lv_at hl 0 rfl) ?_
                  refine lv_iload_n hx hb dX12_comesWith_101 rfl (lv_at hl 5 rfl) ?_
                  refine z_rdi (va_runV (As := [.int v9, .int p2]) (rest := []) ⟨hx, hb, hml, hown, hts⟩ (rX12_isCued l dC dI cI cQ ha0 ha0_1 ha0_2 ha0_4 ha0_5 ha0_6 ha0_8 ha0_0 ha0_3 ha0_7 ha0_16 ha0_17 ha0_18 ha0_19 ha0_23 ha0_29 ha0_33 ha0_34 ha0_35 fa0_1 fa0_2 fa0_4 hBfa0_4 fa0_5 hBfa0_5 fa0_6 hBfa0_6 fa0_8 ia0_9 hia0_9l hia0_9h ia0_10 hia0_10l hia0_10h ia0_11 ia0_12 ia0_13 ia0_14 hia0_14l hia0_14h ia0_15 ia0_20 hia0_20l hia0_20h ia0_21 hia0_21l hia0_21h ia0_22 hia0_22l hia0_22h ia0_24 hia0_24l hia0_24h ia0_25 hia0_25l hia0_25h ia0_26 hia0_26l hia0_26h ia0_27 hia0_27l hia0_27h ia0_28 ia0_30 hia0_30l hia0_30h ia0_31 ia0_32 hia0_32l hia0_32h ia0_36 hia0_36l hia0_36h ia0_37 v9 (by first | decide | omega) (by first | decide | omega) p2 hp2l hp2h) (cwV 2 hts gv_X12_comesWith_X12_isCued_188 rfl rfl rfl (by decide +kernel) ⟨Nat.le_of_ble_eq_true rfl, Nat.le_of_ble_eq_true rfl⟩) ⟨z_blindR, va_recv hK hP (ci := 12) (q0 := 6) rfl rfl, z_preR hZ hP [0, 1, 2, 3, 4, 5, 6] rfl⟩ rfl rfl hl.1 rfl (lv_room (Nat.le_of_ble_eq_true rfl)) dX12_comesWith_102 ⟨Nat.le_of_ble_eq_true rfl, Nat.le_of_ble_eq_true rfl⟩) (fun y152 hy152 => ?_)
                  obtain ⟨hy152_0, hy152_1, hy152_2⟩ := hy152
                  refine lv_istore (lv' := [(6, .int y152), (5, .int v9), (4, .int v10), (3, .int 1), (0, .ref ha0), (1, .int p1), (2, .int p2)]) hx hb dX12_comesWith_105 hl (by decide) rfl (fun ls hl => ?_)
                  refine lv_iload_n hx hb dX12_comesWith_107 rfl (lv_at hl 3 rfl) ?_
                  refine lv_if_ne (tgt := 124) hx hb dX12_comesWith_108 (by decide) (fun hc => ?_) (fun hc => ?_)
                  · skip
                    refine lv_iload hx hb dX12_comesWith_124 (lv_at hl 0 rfl) ?_
                    refine lv_if_eq (tgt := 148) hx hb dX12_comesWith_126 (by decide) (fun hc => ?_) (fun hc => ?_)
                    · have q153 : y152.toInt = 0 := z_eq rfl (by decide) hc
                      obtain ⟨y154, ey154⟩ : ∃ y : Int32, y = v9 + 1 := ⟨_, rfl⟩
                      refine lv_iinc (v := y154) (lv' := [(5, .int y154), (6, .int y152), (4, .int v10), (3, .int 1), (0, .ref ha0), (1, .int p1), (2, .int p2)]) hx hb dX12_comesWith_148 hl (k := 1) rfl (by rw [ey154]; rfl) (by decide) rfl (fun ls hl => ?_)
                      have hy154 : y154.toInt = v9.toInt + 1 := by rw [ey154]; exact z_add rfl (by decide) (by omega) (by omega)
                      refine lv_goto (tgt := 58) hx hb dX12_comesWith_151 (by decide) ?_
                      exact ih145 y154 v10 ls (by first | decide | omega) (by first | decide | omega) hi144_2 hi144_3 (z_chIN (by assumption) (by omega) (by omega) (by first | exact Or.inr (Or.inr (Or.inl ⟨by omega, z_icF hy152_2 (by omega) (by omega)⟩)) | exact Or.inr (Or.inr (Or.inr ⟨by omega, by omega⟩)))) (by have e0 : (0 : Int32).toInt = 0 := (by decide); omega) (by omega) (lv_sub hl [0, 2, 3, 4, 5, 6] rfl)
                    · have q155 : y152.toInt ≠ 0 := z_ne rfl (by decide) hc
                      refine lv_iload hx hb dX12_comesWith_129 (lv_at hl 2 rfl) ?_
                      refine lv_if_lt (tgt := 144) hx hb dX12_comesWith_131 (by decide) (fun hc => ?_) (fun hc => ?_)
                      · have q156 : v10.toInt < 0 := z_lt rfl (by decide) hc
                        refine lv_iload hx hb dX12_comesWith_144 (lv_at hl 1 rfl) ?_
                        refine lv_istore (lv' := [(4, .int v9), (6, .int y152), (5, .int v9), (3, .int 1), (0, .ref ha0), (1, .int p1), (2, .int p2)]) hx hb dX12_comesWith_146 hl (by decide) rfl (fun ls hl => ?_)
                        obtain ⟨y157, ey157⟩ : ∃ y : Int32, y = v9 + 1 := ⟨_, rfl⟩
                        refine lv_iinc (v := y157) (lv' := [(5, .int y157), (4, .int v9), (6, .int y152), (3, .int 1), (0, .ref ha0), (1, .int p1), (2, .int p2)]) hx hb dX12_comesWith_148 hl (k := 2) rfl (by rw [ey157]; rfl) (by decide) rfl (fun ls hl => ?_)
                        have hy157 : y157.toInt = v9.toInt + 1 := by rw [ey157]; exact z_add rfl (by decide) (by omega) (by omega)
                        refine lv_goto (tgt := 58) hx hb dX12_comesWith_151 (by decide) ?_
                        exact ih145 y157 v9 ls (by first | decide | omega) (by first | decide | omega) (by first | decide | omega) (by first | decide | omega) (z_chIF (by assumption) (by omega) (by omega) (by omega) (z_oY gy148 (by omega) (by omega) (by omega)) (z_icT hy152_2 (by omega) (by omega)) rfl) (by have e0 : (0 : Int32).toInt = 0 := (by decide); omega) (by omega) (lv_sub hl [0, 1, 3, 4, 5, 6] rfl)
                      · have q158 : 0 ≤ v10.toInt := z_nlt rfl (by decide) hc
                        refine lv_aload_n hx hb dX12_comesWith_134 rfl (lv_at hl 4 rfl) ?_
                        refine va_get (D := (dC, dI)) (ci := 12) (v := .ref ha0_1) (C := RX12) (T := TX12) (N := 38) hx hb hts in_X12_comesWith_X12 hown hK hP 6 rfl rfl 1 (by decide) (hts (.fieldLink RX12 13 "EachOnHisCueModel" "kind" "[I") (by decide +kernel)) (fun _ h9 => h9) rfl dX12_comesWith_135 ?_
                        refine lv_iload_n hx hb dX12_comesWith_138 rfl (lv_at hl 5 rfl) ?_
                        refine va_iald hx hb hK hP 0 0 rfl rfl (z_in (by omega) (by omega)) dX12_comesWith_139 ?_
                        refine lv_topi (fun y159 ey159 => ?_)
                        obtain rfl : y1 = y159 := ey1.trans ey159.symm
                        refine lv_iconst (v := 5) hx hb dX12_comesWith_140 (by decide) ?_
                        refine lv_icmp_ne (tgt := 148) hx hb dX12_comesWith_141 (by decide) (fun hc => ?_) (fun hc => ?_)
                        · have q160 : y1.toInt ≠ 5 := z_ne rfl (by decide) hc
                          obtain ⟨y161, ey161⟩ : ∃ y : Int32, y = v9 + 1 := ⟨_, rfl⟩
                          refine lv_iinc (v := y161) (lv' := [(5, .int y161), (6, .int y152), (4, .int v10), (3, .int 1), (0, .ref ha0), (1, .int p1), (2, .int p2)]) hx hb dX12_comesWith_148 hl (k := 1) rfl (by rw [ey161]; rfl) (by decide) rfl (fun ls hl => ?_)
                          have hy161 : y161.toInt = v9.toInt + 1 := by rw [ey161]; exact z_add rfl (by decide) (by omega) (by omega)
                          refine lv_goto (tgt := 58) hx hb dX12_comesWith_151 (by decide) ?_
                          exact ih145 y161 v10 ls (by first | decide | omega) (by first | decide | omega) hi144_2 hi144_3 (z_chIN (by assumption) (by omega) (by omega) (by first | exact Or.inr (Or.inr (Or.inl ⟨by omega, z_icF hy152_2 (by omega) (by omega)⟩)) | exact Or.inr (Or.inr (Or.inr ⟨by omega, by omega⟩)))) (by have e0 : (0 : Int32).toInt = 0 := (by decide); omega) (by omega) (lv_sub hl [0, 2, 3, 4, 5, 6] rfl)
                        · have q162 : y1.toInt = 5 := z_eq rfl (by decide) hc
                          exfalso; omega
                  · exact absurd hc (by decide)
                · exact absurd hc (by decide)
        exact hL143 ((12 - (0 : Int32).toInt).toNat + 1) 0 (-9) ls (by decide) (by decide) (by decide) (by decide) (z_chI0 (by decide) (by decide)) (by have e0 : (0 : Int32).toInt = 0 := (by decide); omega) (by omega) hl
      · have q163 : y1.toInt ≠ 1 := z_ne rfl (by decide) hc
        refine lv_aload_n hx hb dX12_comesWith_35 rfl (lv_at hl 0 rfl) ?_
        refine va_get (D := (dC, dI)) (ci := 12) (v := .ref ha0_1) (C := RX12) (T := TX12) (N := 38) hx hb hts in_X12_comesWith_X12 hown hK hP 6 rfl rfl 1 (by decide) (hts (.fieldLink RX12 13 "EachOnHisCueModel" "kind" "[I") (by decide +kernel)) (fun _ h9 => h9) rfl dX12_comesWith_36 ?_
        refine lv_iload_n hx hb dX12_comesWith_39 rfl (lv_at hl 1 rfl) ?_
        refine va_iald hx hb hK hP 0 0 rfl rfl (z_in (by omega) (by omega)) dX12_comesWith_40 ?_
        refine lv_topi (fun y164 ey164 => ?_)
        obtain rfl : y1 = y164 := ey1.trans ey164.symm
        refine lv_iconst (v := 5) hx hb dX12_comesWith_41 (by decide) ?_
        refine lv_icmp_ne (tgt := 49) hx hb dX12_comesWith_42 (by decide) (fun hc => ?_) (fun hc => ?_)
        · have q165 : y1.toInt ≠ 5 := z_ne rfl (by decide) hc
          refine lv_iconst (v := 0) hx hb dX12_comesWith_49 (by decide) ?_
          refine lv_istore_n (lv' := [(3, .int 0), (0, .ref ha0), (1, .int p1), (2, .int p2)]) hx hb dX12_comesWith_50 rfl hl (by decide) rfl (fun ls hl => ?_)
          refine lv_bipush (v := (-9)) hx hb dX12_comesWith_51 (by decide) ?_
          refine lv_istore (lv' := [(4, .int (-9)), (3, .int 0), (0, .ref ha0), (1, .int p1), (2, .int p2)]) hx hb dX12_comesWith_53 hl (by decide) rfl (fun ls hl => ?_)
          refine lv_iconst (v := 0) hx hb dX12_comesWith_55 (by decide) ?_
          refine lv_istore (lv' := [(5, .int 0), (4, .int (-9)), (3, .int 0), (0, .ref ha0), (1, .int p1), (2, .int p2)]) hx hb dX12_comesWith_56 hl (by decide) rfl (fun ls hl => ?_)
          have hL280 : ∀ (n : Nat) (v166 : Int32) (v167 : Int32) (ls : Array Slot), 0 ≤ v166.toInt → v166.toInt ≤ 12 → (-9) ≤ v167.toInt → v167.toInt ≤ (-9) → (zChI (fa0_1 p1.toNatClampNeg).toInt (fun j => (j : Int) < ia0_10.toInt ∧ (fa0_4 j).toInt = p1.toInt) (fun j => zIcR fa0_8 fa0_5 ia0_27 ia0_28 fa0_1 fa0_2 fa0_4 fa0_6 p2.toInt (j : Int)) (fun j => bt ia0_12 j = true) (v166 : Int32).toInt (v167 : Int32).toInt) → ((v166 : Int32).toInt ≤ ia0_10.toInt) → (12 - v166.toInt).toNat < n → lv_has ls 7 [(5, .int v166), (4, .int v167), (3, .int 0), (0, .ref ha0), (1, .int p1), (2, .int p2)] → W p l e (headSpec vsX12_comesWith ({ frames := 3, cells := 0, slots := 0, locals := 71 })).room s m ([.ref ha0, .int p1, .int p2] : List Value).toArray below meth c s.heap [] 0 0 (MQ below (vp_Si (fun r => (-9) ≤ r.toInt ∧ r.toInt ≤ 11 ∧ (0 ≤ (fa0_1 p1.toNatClampNeg).toInt → (fa0_1 p1.toNatClampNeg).toInt ≤ 5 → zCwA (bt ia0_13 p1.toInt.toNat) (fa0_1 p1.toNatClampNeg).toInt ia0_10.toInt fa0_4 (fun j => zIcR fa0_8 fa0_5 ia0_27 ia0_28 fa0_1 fa0_2 fa0_4 fa0_6 p2.toInt (j : Int)) (fun j => bt ia0_12 j = true) p1.toInt r.toInt))) ([.ref ha0, .int p1, .int p2] : List Value).toArray s 0 0 (fun _ => False)) (F0 m 58 ls []) := by
            intro n
            induction n with
            | zero =>
              intro v166 v167 ls hi281_0 hi281_1 hi281_2 hi281_3 hi281_x0 hi281_x1 hi281_m hl
              exact absurd hi281_m (Nat.not_lt_zero _)
            | succ n ih =>
              intro v166 v167 ls hi281_0 hi281_1 hi281_2 hi281_3 hi281_x0 hi281_x1 hi281_m hl
              have ih282 := ih
              refine lv_iload hx hb dX12_comesWith_58 (lv_at hl 0 rfl) ?_
              refine lv_aload_n hx hb dX12_comesWith_60 rfl (lv_at hl 3 rfl) ?_
              refine va_get (D := (dC, dI)) (ci := 12) (v := .int ia0_10) (C := RX12) (T := TX12) (N := 38) hx hb hts in_X12_comesWith_X12 hown hK hP 6 rfl rfl 10 (by decide) (hts (.fieldLink RX12 79 "EachOnHisCueModel" "lines" "I") (by decide +kernel)) (fun _ h9 => h9) rfl dX12_comesWith_61 ?_
              refine lv_icmp_ge (tgt := 154) hx hb dX12_comesWith_64 (by decide) (fun hc => ?_) (fun hc => ?_)
              · have q283 : ia0_10.toInt ≤ v166.toInt := z_le rfl rfl hc
                refine lv_iload hx hb dX12_comesWith_154 (lv_at hl 1 rfl) ?_
                exact W.iret (v := v167) hx hb hr (fun t ht hW => ⟨v167, rfl, ⟨by first | decide | omega, by first | decide | omega, (by exact fun k0 k5 => Or.inr ⟨z_btF (z_bit1 ey4 ey5 (by omega) (by omega)) (by omega), z_chIE (by assumption) (fun q o => o.1) (by omega) (by omega) k0 k5 (by omega)⟩)⟩, ht⟩) (fun _ h => absurd h List.not_mem_nil) dX12_comesWith_156
              · have q284 : v166.toInt < ia0_10.toInt := z_nle rfl rfl hc
                refine lv_aload_n hx hb dX12_comesWith_67 rfl (lv_at hl 3 rfl) ?_
                refine va_get (D := (dC, dI)) (ci := 12) (v := .ref ha0_4) (C := RX12) (T := TX12) (N := 38) hx hb hts in_X12_comesWith_X12 hown hK hP 6 rfl rfl 4 (by decide) (hts (.fieldLink RX12 22 "EachOnHisCueModel" "whose" "[I") (by decide +kernel)) (fun _ h9 => h9) rfl dX12_comesWith_68 ?_
                refine lv_iload hx hb dX12_comesWith_71 (lv_at hl 0 rfl) ?_
                refine va_iald hx hb hK hP 2 0 rfl rfl (z_in (by omega) (by omega)) dX12_comesWith_73 ?_
                refine lv_topi (fun y285 ey285 => ?_)
                have gy285 : y285.toInt = (fa0_4 (v166 : Int32).toNatClampNeg).toInt := by rw [ey285]
                have hy285 : 0 ≤ y285.toInt ∧ y285.toInt ≤ 4 := by rw [ey285]; exact hBfa0_4 _
                obtain ⟨hy285, hy285_⟩ := hy285
                refine lv_iload_n hx hb dX12_comesWith_74 rfl (lv_at hl 4 rfl) ?_
                refine lv_icmp_ne (tgt := 148) hx hb dX12_comesWith_75 (by decide) (fun hc => ?_) (fun hc => ?_)
                · have q286 : y285.toInt ≠ p1.toInt := z_ne rfl rfl hc
                  obtain ⟨y287, ey287⟩ : ∃ y : Int32, y = v166 + 1 := ⟨_, rfl⟩
                  refine lv_iinc (v := y287) (lv' := [(5, .int y287), (4, .int v167), (3, .int 0), (0, .ref ha0), (1, .int p1), (2, .int p2)]) hx hb dX12_comesWith_148 hl (k := 0) rfl (by rw [ey287]; rfl) (by decide) rfl (fun ls hl => ?_)
                  have hy287 : y287.toInt = v166.toInt + 1 := by rw [ey287]; exact z_add rfl (by decide) (by omega) (by omega)
                  refine lv_goto (tgt := 58) hx hb dX12_comesWith_151 (by decide) ?_
                  exact ih282 y287 v167 ls (by first | decide | omega) (by first | decide | omega) hi281_2 hi281_3 (z_chIN (by assumption) (by omega) (by omega) (Or.inl (z_oN gy285 (by omega)))) (by have e0 : (0 : Int32).toInt = 0 := (by decide); omega) (by omega) (lv_sub hl [0, 1, 2, 3, 4, 5] rfl)
                · have q288 : y285.toInt = p1.toInt := z_eq rfl rfl hc
                  refine lv_iload_n hx hb dX12_comesWith_78 rfl (lv_at hl 2 rfl) ?_
                  refine lv_if_ne (tgt := 98) hx hb dX12_comesWith_79 (by decide) (fun hc => ?_) (fun hc => ?_)
                  · exact absurd hc (by decide)
                  · skip
                    refine lv_aload_n hx hb dX12_comesWith_82 rfl (lv_at hl 3 rfl) ?_
                    refine va_get (D := (dC, dI)) (ci := 12) (v := .int ia0_12) (C := RX12) (T := TX12) (N := 38) hx hb hts in_X12_comesWith_X12 hown hK hP 6 rfl rfl 12 (by decide) (hts (.fieldLink RX12 151 "EachOnHisCueModel" "said" "I") (by decide +kernel)) (fun _ h9 => h9) rfl dX12_comesWith_83 ?_
                    refine lv_iload hx hb dX12_comesWith_86 (lv_at hl 0 rfl) ?_
                    refine lv_ishr hx hb dX12_comesWith_88 ?_
                    refine lv_topi (fun y289 ey289 => ?_)
                    refine lv_iconst (v := 1) hx hb dX12_comesWith_89 (by decide) ?_
                    refine lv_iand hx hb dX12_comesWith_90 ?_
                    refine lv_topi (fun y290 ey290 => ?_)
                    have hy290 : 0 ≤ y290.toInt ∧ y290.toInt ≤ 1 := by rw [ey290]; exact z_and1 _
                    obtain ⟨hy290, hy290_⟩ := hy290
                    refine lv_iconst (v := 1) hx hb dX12_comesWith_91 (by decide) ?_
                    refine lv_icmp_ne (tgt := 98) hx hb dX12_comesWith_92 (by decide) (fun hc => ?_) (fun hc => ?_)
                    · have q291 : y290.toInt ≠ 1 := z_ne rfl (by decide) hc
                      refine lv_aload_n hx hb dX12_comesWith_98 rfl (lv_at hl 3 rfl) ?_
                      refine lv_iload hx hb dX12_comesWith_99 (lv_at hl 0 rfl) ?_
                      refine lv_iload_n hx hb dX12_comesWith_101 rfl (lv_at hl 5 rfl) ?_
                      refine z_rdi (va_runV (As := [.int v166, .int p2]) (rest := []) ⟨hx, hb, hml, hown, hts⟩ (rX12_isCued l dC dI cI cQ ha0 ha0_1 ha0_2 ha0_4 ha0_5 ha0_6 ha0_8 ha0_0 ha0_3 ha0_7 ha0_16 ha0_17 ha0_18 ha0_19 ha0_23 ha0_29 ha0_33 ha0_34 ha0_35 fa0_1 fa0_2 fa0_4 hBfa0_4 fa0_5 hBfa0_5 fa0_6 hBfa0_6 fa0_8 ia0_9 hia0_9l hia0_9h ia0_10 hia0_10l hia0_10h ia0_11 ia0_12 ia0_13 ia0_14 hia0_14l hia0_14h ia0_15 ia0_20 hia0_20l hia0_20h ia0_21 hia0_21l hia0_21h ia0_22 hia0_22l hia0_22h ia0_24 hia0_24l hia0_24h ia0_25 hia0_25l hia0_25h ia0_26 hia0_26l hia0_26h ia0_27 hia0_27l hia0_27h ia0_28 ia0_30 hia0_30l hia0_30h ia0_31 ia0_32 hia0_32l hia0_32h ia0_36 hia0_36l hia0_36h ia0_37 v166 (by first | decide | omega) (by first | decide | omega) p2 hp2l hp2h) (cwV 2 hts gv_X12_comesWith_X12_isCued_188 rfl rfl rfl (by decide +kernel) ⟨Nat.le_of_ble_eq_true rfl, Nat.le_of_ble_eq_true rfl⟩) ⟨z_blindR, va_recv hK hP (ci := 12) (q0 := 6) rfl rfl, z_preR hZ hP [0, 1, 2, 3, 4, 5, 6] rfl⟩ rfl rfl hl.1 rfl (lv_room (Nat.le_of_ble_eq_true rfl)) dX12_comesWith_102 ⟨Nat.le_of_ble_eq_true rfl, Nat.le_of_ble_eq_true rfl⟩) (fun y292 hy292 => ?_)
                      obtain ⟨hy292_0, hy292_1, hy292_2⟩ := hy292
                      refine lv_istore (lv' := [(6, .int y292), (5, .int v166), (4, .int v167), (3, .int 0), (0, .ref ha0), (1, .int p1), (2, .int p2)]) hx hb dX12_comesWith_105 hl (by decide) rfl (fun ls hl => ?_)
                      refine lv_iload_n hx hb dX12_comesWith_107 rfl (lv_at hl 3 rfl) ?_
                      refine lv_if_ne (tgt := 124) hx hb dX12_comesWith_108 (by decide) (fun hc => ?_) (fun hc => ?_)
                      · exact absurd hc (by decide)
                      · skip
                        refine lv_iload hx hb dX12_comesWith_111 (lv_at hl 0 rfl) ?_
                        refine lv_if_eq (tgt := 121) hx hb dX12_comesWith_113 (by decide) (fun hc => ?_) (fun hc => ?_)
                        · have q293 : y292.toInt = 0 := z_eq rfl (by decide) hc
                          refine lv_bipush (v := (-9)) hx hb dX12_comesWith_121 (by decide) ?_
                          exact W.iret (v := (-9)) hx hb hr (fun t ht hW => ⟨(-9), rfl, ⟨by first | decide | omega, by first | decide | omega, (by exact fun k0 k5 => Or.inr ⟨z_btF (z_bit1 ey4 ey5 (by omega) (by omega)) (by omega), z_chIX (by assumption) (by omega) (by omega) k0 k5 (by omega) (by omega) (by omega) (z_oY gy285 (by omega) (by omega) (by omega)) (z_bF (z_btF (z_bit1 ey289 ey290 (by omega) (by omega)) (by omega))) (Or.inr ⟨z_icF hy292_2 (by omega) (by omega), by decide⟩)⟩)⟩, ht⟩) (fun _ h => absurd h List.not_mem_nil) dX12_comesWith_123
                        · have q294 : y292.toInt ≠ 0 := z_ne rfl (by decide) hc
                          refine lv_iload hx hb dX12_comesWith_116 (lv_at hl 1 rfl) ?_
                          refine lv_goto (tgt := 123) hx hb dX12_comesWith_118 (by decide) ?_
                          exact W.iret (v := v166) hx hb hr (fun t ht hW => ⟨v166, rfl, ⟨by first | decide | omega, by first | decide | omega, (by exact fun k0 k5 => Or.inr ⟨z_btF (z_bit1 ey4 ey5 (by omega) (by omega)) (by omega), z_chIX (by assumption) (by omega) (by omega) k0 k5 (by omega) (by omega) (by omega) (z_oY gy285 (by omega) (by omega) (by omega)) (z_bF (z_btF (z_bit1 ey289 ey290 (by omega) (by omega)) (by omega))) (Or.inl ⟨z_icT hy292_2 (by omega) (by omega), rfl⟩)⟩)⟩, ht⟩) (fun _ h => absurd h List.not_mem_nil) dX12_comesWith_123
                    · have q295 : y290.toInt = 1 := z_eq rfl (by decide) hc
                      refine lv_goto (tgt := 148) hx hb dX12_comesWith_95 (by decide) ?_
                      obtain ⟨y296, ey296⟩ : ∃ y : Int32, y = v166 + 1 := ⟨_, rfl⟩
                      refine lv_iinc (v := y296) (lv' := [(5, .int y296), (4, .int v167), (3, .int 0), (0, .ref ha0), (1, .int p1), (2, .int p2)]) hx hb dX12_comesWith_148 hl (k := 0) rfl (by rw [ey296]; rfl) (by decide) rfl (fun ls hl => ?_)
                      have hy296 : y296.toInt = v166.toInt + 1 := by rw [ey296]; exact z_add rfl (by decide) (by omega) (by omega)
                      refine lv_goto (tgt := 58) hx hb dX12_comesWith_151 (by decide) ?_
                      exact ih282 y296 v167 ls (by first | decide | omega) (by first | decide | omega) hi281_2 hi281_3 (z_chIN (by assumption) (by omega) (by omega) (Or.inr (Or.inl ⟨by omega, by omega, z_btT (z_bit1 ey289 ey290 (by omega) (by omega)) (by omega)⟩))) (by have e0 : (0 : Int32).toInt = 0 := (by decide); omega) (by omega) (lv_sub hl [0, 1, 2, 3, 4, 5] rfl)
          exact hL280 ((12 - (0 : Int32).toInt).toNat + 1) 0 (-9) ls (by decide) (by decide) (by decide) (by decide) (z_chI0 (by decide) (by decide)) (by have e0 : (0 : Int32).toInt = 0 := (by decide); omega) (by omega) hl
        · have q297 : y1.toInt = 5 := z_eq rfl (by decide) hc
          refine lv_iconst (v := 1) hx hb dX12_comesWith_45 (by decide) ?_
          refine lv_goto (tgt := 50) hx hb dX12_comesWith_46 (by decide) ?_
          refine lv_istore_n (lv' := [(3, .int 1), (0, .ref ha0), (1, .int p1), (2, .int p2)]) hx hb dX12_comesWith_50 rfl hl (by decide) rfl (fun ls hl => ?_)
          refine lv_bipush (v := (-9)) hx hb dX12_comesWith_51 (by decide) ?_
          refine lv_istore (lv' := [(4, .int (-9)), (3, .int 1), (0, .ref ha0), (1, .int p1), (2, .int p2)]) hx hb dX12_comesWith_53 hl (by decide) rfl (fun ls hl => ?_)
          refine lv_iconst (v := 0) hx hb dX12_comesWith_55 (by decide) ?_
          refine lv_istore (lv' := [(5, .int 0), (4, .int (-9)), (3, .int 1), (0, .ref ha0), (1, .int p1), (2, .int p2)]) hx hb dX12_comesWith_56 hl (by decide) rfl (fun ls hl => ?_)
          have hL432 : ∀ (n : Nat) (v298 : Int32) (v299 : Int32) (ls : Array Slot), 0 ≤ v298.toInt → v298.toInt ≤ 12 → (-9) ≤ v299.toInt → v299.toInt ≤ 11 → (zChI (fa0_1 p1.toNatClampNeg).toInt (fun j => (j : Int) < ia0_10.toInt ∧ (fa0_4 j).toInt = p1.toInt) (fun j => zIcR fa0_8 fa0_5 ia0_27 ia0_28 fa0_1 fa0_2 fa0_4 fa0_6 p2.toInt (j : Int)) (fun j => bt ia0_12 j = true) (v298 : Int32).toInt (v299 : Int32).toInt) → ((v298 : Int32).toInt ≤ ia0_10.toInt) → (12 - v298.toInt).toNat < n → lv_has ls 7 [(5, .int v298), (4, .int v299), (3, .int 1), (0, .ref ha0), (1, .int p1), (2, .int p2)] → W p l e (headSpec vsX12_comesWith ({ frames := 3, cells := 0, slots := 0, locals := 71 })).room s m ([.ref ha0, .int p1, .int p2] : List Value).toArray below meth c s.heap [] 0 0 (MQ below (vp_Si (fun r => (-9) ≤ r.toInt ∧ r.toInt ≤ 11 ∧ (0 ≤ (fa0_1 p1.toNatClampNeg).toInt → (fa0_1 p1.toNatClampNeg).toInt ≤ 5 → zCwA (bt ia0_13 p1.toInt.toNat) (fa0_1 p1.toNatClampNeg).toInt ia0_10.toInt fa0_4 (fun j => zIcR fa0_8 fa0_5 ia0_27 ia0_28 fa0_1 fa0_2 fa0_4 fa0_6 p2.toInt (j : Int)) (fun j => bt ia0_12 j = true) p1.toInt r.toInt))) ([.ref ha0, .int p1, .int p2] : List Value).toArray s 0 0 (fun _ => False)) (F0 m 58 ls []) := by
            intro n
            induction n with
            | zero =>
              intro v298 v299 ls hi433_0 hi433_1 hi433_2 hi433_3 hi433_x0 hi433_x1 hi433_m hl
              exact absurd hi433_m (Nat.not_lt_zero _)
            | succ n ih =>
              intro v298 v299 ls hi433_0 hi433_1 hi433_2 hi433_3 hi433_x0 hi433_x1 hi433_m hl
              have ih434 := ih
              refine lv_iload hx hb dX12_comesWith_58 (lv_at hl 0 rfl) ?_
              refine lv_aload_n hx hb dX12_comesWith_60 rfl (lv_at hl 3 rfl) ?_
              refine va_get (D := (dC, dI)) (ci := 12) (v := .int ia0_10) (C := RX12) (T := TX12) (N := 38) hx hb hts in_X12_comesWith_X12 hown hK hP 6 rfl rfl 10 (by decide) (hts (.fieldLink RX12 79 "EachOnHisCueModel" "lines" "I") (by decide +kernel)) (fun _ h9 => h9) rfl dX12_comesWith_61 ?_
              refine lv_icmp_ge (tgt := 154) hx hb dX12_comesWith_64 (by decide) (fun hc => ?_) (fun hc => ?_)
              · have q435 : ia0_10.toInt ≤ v298.toInt := z_le rfl rfl hc
                refine lv_iload hx hb dX12_comesWith_154 (lv_at hl 1 rfl) ?_
                exact W.iret (v := v299) hx hb hr (fun t ht hW => ⟨v299, rfl, ⟨by first | decide | omega, by first | decide | omega, (by exact fun k0 k5 => Or.inr ⟨z_btF (z_bit1 ey4 ey5 (by omega) (by omega)) (by omega), z_chIE (by assumption) (fun q o => o.1) (by omega) (by omega) k0 k5 (by omega)⟩)⟩, ht⟩) (fun _ h => absurd h List.not_mem_nil) dX12_comesWith_156
              · have q436 : v298.toInt < ia0_10.toInt := z_nle rfl rfl hc
                refine lv_aload_n hx hb dX12_comesWith_67 rfl (lv_at hl 3 rfl) ?_
                refine va_get (D := (dC, dI)) (ci := 12) (v := .ref ha0_4) (C := RX12) (T := TX12) (N := 38) hx hb hts in_X12_comesWith_X12 hown hK hP 6 rfl rfl 4 (by decide) (hts (.fieldLink RX12 22 "EachOnHisCueModel" "whose" "[I") (by decide +kernel)) (fun _ h9 => h9) rfl dX12_comesWith_68 ?_
                refine lv_iload hx hb dX12_comesWith_71 (lv_at hl 0 rfl) ?_
                refine va_iald hx hb hK hP 2 0 rfl rfl (z_in (by omega) (by omega)) dX12_comesWith_73 ?_
                refine lv_topi (fun y437 ey437 => ?_)
                have gy437 : y437.toInt = (fa0_4 (v298 : Int32).toNatClampNeg).toInt := by rw [ey437]
                have hy437 : 0 ≤ y437.toInt ∧ y437.toInt ≤ 4 := by rw [ey437]; exact hBfa0_4 _
                obtain ⟨hy437, hy437_⟩ := hy437
                refine lv_iload_n hx hb dX12_comesWith_74 rfl (lv_at hl 4 rfl) ?_
                refine lv_icmp_ne (tgt := 148) hx hb dX12_comesWith_75 (by decide) (fun hc => ?_) (fun hc => ?_)
                · have q438 : y437.toInt ≠ p1.toInt := z_ne rfl rfl hc
                  obtain ⟨y439, ey439⟩ : ∃ y : Int32, y = v298 + 1 := ⟨_, rfl⟩
                  refine lv_iinc (v := y439) (lv' := [(5, .int y439), (4, .int v299), (3, .int 1), (0, .ref ha0), (1, .int p1), (2, .int p2)]) hx hb dX12_comesWith_148 hl (k := 0) rfl (by rw [ey439]; rfl) (by decide) rfl (fun ls hl => ?_)
                  have hy439 : y439.toInt = v298.toInt + 1 := by rw [ey439]; exact z_add rfl (by decide) (by omega) (by omega)
                  refine lv_goto (tgt := 58) hx hb dX12_comesWith_151 (by decide) ?_
                  exact ih434 y439 v299 ls (by first | decide | omega) (by first | decide | omega) hi433_2 hi433_3 (z_chIN (by assumption) (by omega) (by omega) (Or.inl (z_oN gy437 (by omega)))) (by have e0 : (0 : Int32).toInt = 0 := (by decide); omega) (by omega) (lv_sub hl [0, 1, 2, 3, 4, 5] rfl)
                · have q440 : y437.toInt = p1.toInt := z_eq rfl rfl hc
                  refine lv_iload_n hx hb dX12_comesWith_78 rfl (lv_at hl 2 rfl) ?_
                  refine lv_if_ne (tgt := 98) hx hb dX12_comesWith_79 (by decide) (fun hc => ?_) (fun hc => ?_)
                  · skip
                    refine lv_aload_n hx hb dX12_comesWith_98 rfl (lv_at hl 3 rfl) ?_
                    refine lv_iload hx hb dX12_comesWith_99 (lv_at hl 0 rfl) ?_
                    refine lv_iload_n hx hb dX12_comesWith_101 rfl (lv_at hl 5 rfl) ?_
                    refine z_rdi (va_runV (As := [.int v298, .int p2]) (rest := []) ⟨hx, hb, hml, hown, hts⟩ (rX12_isCued l dC dI cI cQ ha0 ha0_1 ha0_2 ha0_4 ha0_5 ha0_6 ha0_8 ha0_0 ha0_3 ha0_7 ha0_16 ha0_17 ha0_18 ha0_19 ha0_23 ha0_29 ha0_33 ha0_34 ha0_35 fa0_1 fa0_2 fa0_4 hBfa0_4 fa0_5 hBfa0_5 fa0_6 hBfa0_6 fa0_8 ia0_9 hia0_9l hia0_9h ia0_10 hia0_10l hia0_10h ia0_11 ia0_12 ia0_13 ia0_14 hia0_14l hia0_14h ia0_15 ia0_20 hia0_20l hia0_20h ia0_21 hia0_21l hia0_21h ia0_22 hia0_22l hia0_22h ia0_24 hia0_24l hia0_24h ia0_25 hia0_25l hia0_25h ia0_26 hia0_26l hia0_26h ia0_27 hia0_27l hia0_27h ia0_28 ia0_30 hia0_30l hia0_30h ia0_31 ia0_32 hia0_32l hia0_32h ia0_36 hia0_36l hia0_36h ia0_37 v298 (by first | decide | omega) (by first | decide | omega) p2 hp2l hp2h) (cwV 2 hts gv_X12_comesWith_X12_isCued_188 rfl rfl rfl (by decide +kernel) ⟨Nat.le_of_ble_eq_true rfl, Nat.le_of_ble_eq_true rfl⟩) ⟨z_blindR, va_recv hK hP (ci := 12) (q0 := 6) rfl rfl, z_preR hZ hP [0, 1, 2, 3, 4, 5, 6] rfl⟩ rfl rfl hl.1 rfl (lv_room (Nat.le_of_ble_eq_true rfl)) dX12_comesWith_102 ⟨Nat.le_of_ble_eq_true rfl, Nat.le_of_ble_eq_true rfl⟩) (fun y441 hy441 => ?_)
                    obtain ⟨hy441_0, hy441_1, hy441_2⟩ := hy441
                    refine lv_istore (lv' := [(6, .int y441), (5, .int v298), (4, .int v299), (3, .int 1), (0, .ref ha0), (1, .int p1), (2, .int p2)]) hx hb dX12_comesWith_105 hl (by decide) rfl (fun ls hl => ?_)
                    refine lv_iload_n hx hb dX12_comesWith_107 rfl (lv_at hl 3 rfl) ?_
                    refine lv_if_ne (tgt := 124) hx hb dX12_comesWith_108 (by decide) (fun hc => ?_) (fun hc => ?_)
                    · skip
                      refine lv_iload hx hb dX12_comesWith_124 (lv_at hl 0 rfl) ?_
                      refine lv_if_eq (tgt := 148) hx hb dX12_comesWith_126 (by decide) (fun hc => ?_) (fun hc => ?_)
                      · have q442 : y441.toInt = 0 := z_eq rfl (by decide) hc
                        obtain ⟨y443, ey443⟩ : ∃ y : Int32, y = v298 + 1 := ⟨_, rfl⟩
                        refine lv_iinc (v := y443) (lv' := [(5, .int y443), (6, .int y441), (4, .int v299), (3, .int 1), (0, .ref ha0), (1, .int p1), (2, .int p2)]) hx hb dX12_comesWith_148 hl (k := 1) rfl (by rw [ey443]; rfl) (by decide) rfl (fun ls hl => ?_)
                        have hy443 : y443.toInt = v298.toInt + 1 := by rw [ey443]; exact z_add rfl (by decide) (by omega) (by omega)
                        refine lv_goto (tgt := 58) hx hb dX12_comesWith_151 (by decide) ?_
                        exact ih434 y443 v299 ls (by first | decide | omega) (by first | decide | omega) hi433_2 hi433_3 (z_chIN (by assumption) (by omega) (by omega) (by first | exact Or.inr (Or.inr (Or.inl ⟨by omega, z_icF hy441_2 (by omega) (by omega)⟩)) | exact Or.inr (Or.inr (Or.inr ⟨by omega, by omega⟩)))) (by have e0 : (0 : Int32).toInt = 0 := (by decide); omega) (by omega) (lv_sub hl [0, 2, 3, 4, 5, 6] rfl)
                      · have q444 : y441.toInt ≠ 0 := z_ne rfl (by decide) hc
                        refine lv_iload hx hb dX12_comesWith_129 (lv_at hl 2 rfl) ?_
                        refine lv_if_lt (tgt := 144) hx hb dX12_comesWith_131 (by decide) (fun hc => ?_) (fun hc => ?_)
                        · have q445 : v299.toInt < 0 := z_lt rfl (by decide) hc
                          refine lv_iload hx hb dX12_comesWith_144 (lv_at hl 1 rfl) ?_
                          refine lv_istore (lv' := [(4, .int v298), (6, .int y441), (5, .int v298), (3, .int 1), (0, .ref ha0), (1, .int p1), (2, .int p2)]) hx hb dX12_comesWith_146 hl (by decide) rfl (fun ls hl => ?_)
                          obtain ⟨y446, ey446⟩ : ∃ y : Int32, y = v298 + 1 := ⟨_, rfl⟩
                          refine lv_iinc (v := y446) (lv' := [(5, .int y446), (4, .int v298), (6, .int y441), (3, .int 1), (0, .ref ha0), (1, .int p1), (2, .int p2)]) hx hb dX12_comesWith_148 hl (k := 2) rfl (by rw [ey446]; rfl) (by decide) rfl (fun ls hl => ?_)
                          have hy446 : y446.toInt = v298.toInt + 1 := by rw [ey446]; exact z_add rfl (by decide) (by omega) (by omega)
                          refine lv_goto (tgt := 58) hx hb dX12_comesWith_151 (by decide) ?_
                          exact ih434 y446 v298 ls (by first | decide | omega) (by first | decide | omega) (by first | decide | omega) (by first | decide | omega) (z_chIF (by assumption) (by omega) (by omega) (by omega) (z_oY gy437 (by omega) (by omega) (by omega)) (z_icT hy441_2 (by omega) (by omega)) rfl) (by have e0 : (0 : Int32).toInt = 0 := (by decide); omega) (by omega) (lv_sub hl [0, 1, 3, 4, 5, 6] rfl)
                        · have q447 : 0 ≤ v299.toInt := z_nlt rfl (by decide) hc
                          refine lv_aload_n hx hb dX12_comesWith_134 rfl (lv_at hl 4 rfl) ?_
                          refine va_get (D := (dC, dI)) (ci := 12) (v := .ref ha0_1) (C := RX12) (T := TX12) (N := 38) hx hb hts in_X12_comesWith_X12 hown hK hP 6 rfl rfl 1 (by decide) (hts (.fieldLink RX12 13 "EachOnHisCueModel" "kind" "[I") (by decide +kernel)) (fun _ h9 => h9) rfl dX12_comesWith_135 ?_
                          refine lv_iload_n hx hb dX12_comesWith_138 rfl (lv_at hl 5 rfl) ?_
                          refine va_iald hx hb hK hP 0 0 rfl rfl (z_in (by omega) (by omega)) dX12_comesWith_139 ?_
                          refine lv_topi (fun y448 ey448 => ?_)
                          obtain rfl : y1 = y448 := ey1.trans ey448.symm
                          refine lv_iconst (v := 5) hx hb dX12_comesWith_140 (by decide) ?_
                          refine lv_icmp_ne (tgt := 148) hx hb dX12_comesWith_141 (by decide) (fun hc => ?_) (fun hc => ?_)
                          · have q449 : y1.toInt ≠ 5 := z_ne rfl (by decide) hc
                            exfalso; omega
                          · have q450 : y1.toInt = 5 := z_eq rfl (by decide) hc
                            refine lv_iload hx hb dX12_comesWith_144 (lv_at hl 1 rfl) ?_
                            refine lv_istore (lv' := [(4, .int v298), (6, .int y441), (5, .int v298), (3, .int 1), (0, .ref ha0), (1, .int p1), (2, .int p2)]) hx hb dX12_comesWith_146 hl (by decide) rfl (fun ls hl => ?_)
                            obtain ⟨y451, ey451⟩ : ∃ y : Int32, y = v298 + 1 := ⟨_, rfl⟩
                            refine lv_iinc (v := y451) (lv' := [(5, .int y451), (4, .int v298), (6, .int y441), (3, .int 1), (0, .ref ha0), (1, .int p1), (2, .int p2)]) hx hb dX12_comesWith_148 hl (k := 2) rfl (by rw [ey451]; rfl) (by decide) rfl (fun ls hl => ?_)
                            have hy451 : y451.toInt = v298.toInt + 1 := by rw [ey451]; exact z_add rfl (by decide) (by omega) (by omega)
                            refine lv_goto (tgt := 58) hx hb dX12_comesWith_151 (by decide) ?_
                            exact ih434 y451 v298 ls (by first | decide | omega) (by first | decide | omega) (by first | decide | omega) (by first | decide | omega) (z_chIF (by assumption) (by omega) (by omega) (by omega) (z_oY gy437 (by omega) (by omega) (by omega)) (z_icT hy441_2 (by omega) (by omega)) rfl) (by have e0 : (0 : Int32).toInt = 0 := (by decide); omega) (by omega) (lv_sub hl [0, 1, 3, 4, 5, 6] rfl)
                    · exact absurd hc (by decide)
                  · exact absurd hc (by decide)
          exact hL432 ((12 - (0 : Int32).toInt).toNat + 1) 0 (-9) ls (by decide) (by decide) (by decide) (by decide) (z_chI0 (by decide) (by decide)) (by have e0 : (0 : Int32).toInt = 0 := (by decide); omega) (by omega) hl
    · have q452 : y5.toInt = 1 := z_eq rfl (by decide) hc
      refine lv_bipush (v := (-9)) hx hb dX12_comesWith_22 (by decide) ?_
      exact W.iret (v := (-9)) hx hb hr (fun t ht hW => ⟨(-9), rfl, ⟨by first | decide | omega, by first | decide | omega, (by exact fun k0 k5 => Or.inl ⟨z_btT (z_bit1 ey4 ey5 (by omega) (by omega)) (by omega), by decide⟩)⟩, ht⟩) (fun _ h => absurd h List.not_mem_nil) dX12_comesWith_24
set_option maxRecDepth 20000 in
theorem edX12_isWritten_0 : decode cX12_isWritten 0 = .ok (.iconst 0, 1) ∧ decode cX12_isWritten 1 = .ok (.istore_n 1, 1) ∧ decode cX12_isWritten 2 = .ok (.iload_n 1, 1) ∧ decode cX12_isWritten 3 = .ok (.aload_n 0, 1) ∧ decode cX12_isWritten 4 = .ok (.getfield 202, 3) ∧ decode cX12_isWritten 7 = .ok (.if_icmp .ge 21, 3) ∧ decode cX12_isWritten 10 = .ok (.aload_n 0, 1) ∧ decode cX12_isWritten 11 = .ok (.getfield 62, 3) ∧ decode cX12_isWritten 14 = .ok (.iload_n 1, 1) ∧ decode cX12_isWritten 15 = .ok (.iaload, 1) ∧ decode cX12_isWritten 16 = .ok (.iload_n 1, 1) ∧ decode cX12_isWritten 17 = .ok (.if_icmp .eq 5, 3) := by decide +kernel
theorem dX12_isWritten_0 : decode cX12_isWritten 0 = .ok (.iconst 0, 1) := edX12_isWritten_0.1
theorem dX12_isWritten_1 : decode cX12_isWritten 1 = .ok (.istore_n 1, 1) := edX12_isWritten_0.2.1
theorem dX12_isWritten_2 : decode cX12_isWritten 2 = .ok (.iload_n 1, 1) := edX12_isWritten_0.2.2.1
theorem dX12_isWritten_3 : decode cX12_isWritten 3 = .ok (.aload_n 0, 1) := edX12_isWritten_0.2.2.2.1
theorem dX12_isWritten_4 : decode cX12_isWritten 4 = .ok (.getfield 202, 3) := edX12_isWritten_0.2.2.2.2.1
theorem dX12_isWritten_7 : decode cX12_isWritten 7 = .ok (.if_icmp .ge 21, 3) := edX12_isWritten_0.2.2.2.2.2.1
theorem dX12_isWritten_10 : decode cX12_isWritten 10 = .ok (.aload_n 0, 1) := edX12_isWritten_0.2.2.2.2.2.2.1
theorem dX12_isWritten_11 : decode cX12_isWritten 11 = .ok (.getfield 62, 3) := edX12_isWritten_0.2.2.2.2.2.2.2.1
theorem dX12_isWritten_14 : decode cX12_isWritten 14 = .ok (.iload_n 1, 1) := edX12_isWritten_0.2.2.2.2.2.2.2.2.1
theorem dX12_isWritten_15 : decode cX12_isWritten 15 = .ok (.iaload, 1) := edX12_isWritten_0.2.2.2.2.2.2.2.2.2.1
theorem dX12_isWritten_16 : decode cX12_isWritten 16 = .ok (.iload_n 1, 1) := edX12_isWritten_0.2.2.2.2.2.2.2.2.2.2.1
theorem dX12_isWritten_17 : decode cX12_isWritten 17 = .ok (.if_icmp .eq 5, 3) := edX12_isWritten_0.2.2.2.2.2.2.2.2.2.2.2
set_option maxRecDepth 20000 in
theorem edX12_isWritten_20 : decode cX12_isWritten 20 = .ok (.iconst 0, 1) ∧ decode cX12_isWritten 21 = .ok (.ireturn, 1) ∧ decode cX12_isWritten 22 = .ok (.iinc 1 1, 3) ∧ decode cX12_isWritten 25 = .ok (.goto (-23), 3) ∧ decode cX12_isWritten 28 = .ok (.aload_n 0, 1) ∧ decode cX12_isWritten 29 = .ok (.getfield 202, 3) ∧ decode cX12_isWritten 32 = .ok (.aload_n 0, 1) ∧ decode cX12_isWritten 33 = .ok (.getfield 79, 3) ∧ decode cX12_isWritten 36 = .ok (.if_icmp .ne 14, 3) ∧ decode cX12_isWritten 39 = .ok (.aload_n 0, 1) ∧ decode cX12_isWritten 40 = .ok (.getfield 205, 3) ∧ decode cX12_isWritten 43 = .ok (.ifCond .eq 7, 3) := by decide +kernel
theorem dX12_isWritten_20 : decode cX12_isWritten 20 = .ok (.iconst 0, 1) := edX12_isWritten_20.1
theorem dX12_isWritten_21 : decode cX12_isWritten 21 = .ok (.ireturn, 1) := edX12_isWritten_20.2.1
theorem dX12_isWritten_22 : decode cX12_isWritten 22 = .ok (.iinc 1 1, 3) := edX12_isWritten_20.2.2.1
theorem dX12_isWritten_25 : decode cX12_isWritten 25 = .ok (.goto (-23), 3) := edX12_isWritten_20.2.2.2.1
theorem dX12_isWritten_28 : decode cX12_isWritten 28 = .ok (.aload_n 0, 1) := edX12_isWritten_20.2.2.2.2.1
theorem dX12_isWritten_29 : decode cX12_isWritten 29 = .ok (.getfield 202, 3) := edX12_isWritten_20.2.2.2.2.2.1
theorem dX12_isWritten_32 : decode cX12_isWritten 32 = .ok (.aload_n 0, 1) := edX12_isWritten_20.2.2.2.2.2.2.1
theorem dX12_isWritten_33 : decode cX12_isWritten 33 = .ok (.getfield 79, 3) := edX12_isWritten_20.2.2.2.2.2.2.2.1
theorem dX12_isWritten_36 : decode cX12_isWritten 36 = .ok (.if_icmp .ne 14, 3) := edX12_isWritten_20.2.2.2.2.2.2.2.2.1
theorem dX12_isWritten_39 : decode cX12_isWritten 39 = .ok (.aload_n 0, 1) := edX12_isWritten_20.2.2.2.2.2.2.2.2.2.1
theorem dX12_isWritten_40 : decode cX12_isWritten 40 = .ok (.getfield 205, 3) := edX12_isWritten_20.2.2.2.2.2.2.2.2.2.2.1
theorem dX12_isWritten_43 : decode cX12_isWritten 43 = .ok (.ifCond .eq 7, 3) := edX12_isWritten_20.2.2.2.2.2.2.2.2.2.2.2
set_option maxRecDepth 20000 in
theorem edX12_isWritten_46 : decode cX12_isWritten 46 = .ok (.iconst 1, 1) ∧ decode cX12_isWritten 47 = .ok (.goto 4, 3) ∧ decode cX12_isWritten 50 = .ok (.iconst 0, 1) ∧ decode cX12_isWritten 51 = .ok (.ireturn, 1) := by decide +kernel
theorem dX12_isWritten_46 : decode cX12_isWritten 46 = .ok (.iconst 1, 1) := edX12_isWritten_46.1
theorem dX12_isWritten_47 : decode cX12_isWritten 47 = .ok (.goto 4, 3) := edX12_isWritten_46.2.1
theorem dX12_isWritten_50 : decode cX12_isWritten 50 = .ok (.iconst 0, 1) := edX12_isWritten_46.2.2.1
theorem dX12_isWritten_51 : decode cX12_isWritten 51 = .ok (.ireturn, 1) := edX12_isWritten_46.2.2.2
noncomputable def voX12_isWritten : List Cond := [.fieldLink RX12 202 "EachOnHisCueModel" "nightMany" "I", .fieldLink RX12 79 "EachOnHisCueModel" "lines" "I", .fieldLink RX12 205 "EachOnHisCueModel" "doesEndThen" "Z", .fieldLink RX12 62 "EachOnHisCueModel" "night" "[I"]
noncomputable def vsX12_isWritten : List Cond := .code yX12_isWritten cX12_isWritten 2 (some .boolean) :: (voX12_isWritten ++ (wsX120))
theorem zgX12_isWritten : zGd vsX12_isWritten := z_gdC rfl (z_gdA (z_gdO (by decide +kernel) : zGd voX12_isWritten) (zgX12))
theorem in_X12_isWritten_X12 : ∀ w ∈ wsX120, w ∈ vsX12_isWritten := fun _ h => List.mem_cons_of_mem _ (List.mem_append_right _ (h))
set_option maxHeartbeats 4000000 in
set_option maxRecDepth 100000 in
theorem rX12_isWritten (l : Launch) (dC : Nat → ClassId) (dI : Nat → Nat → Nat) (cI cQ : ClassId) (ha0 ha0_29 ha0_0 ha0_1 ha0_2 ha0_3 ha0_4 ha0_5 ha0_6 ha0_7 ha0_8 ha0_16 ha0_17 ha0_18 ha0_19 ha0_23 ha0_33 ha0_34 ha0_35 : Nat) (fa0_29 : Nat → Int32) (ia0_9 : Int32) (hia0_9l : 0 ≤ ia0_9.toInt) (hia0_9h : ia0_9.toInt ≤ 5) (ia0_10 : Int32) (hia0_10l : 0 ≤ ia0_10.toInt) (hia0_10h : ia0_10.toInt ≤ 12) (ia0_11 : Int32) (ia0_12 : Int32) (ia0_13 : Int32) (ia0_14 : Int32) (hia0_14l : (-9) ≤ ia0_14.toInt) (hia0_14h : ia0_14.toInt ≤ 11) (ia0_15 : Int32) (ia0_20 : Int32) (hia0_20l : 0 ≤ ia0_20.toInt) (hia0_20h : ia0_20.toInt ≤ 80) (ia0_21 : Int32) (hia0_21l : 0 ≤ ia0_21.toInt) (hia0_21h : ia0_21.toInt ≤ 80) (ia0_22 : Int32) (hia0_22l : 0 ≤ ia0_22.toInt) (hia0_22h : ia0_22.toInt ≤ 40) (ia0_24 : Int32) (hia0_24l : 0 ≤ ia0_24.toInt) (hia0_24h : ia0_24.toInt ≤ 1) (ia0_25 : Int32) (hia0_25l : 0 ≤ ia0_25.toInt) (hia0_25h : ia0_25.toInt ≤ 1) (ia0_26 : Int32) (hia0_26l : 0 ≤ ia0_26.toInt) (hia0_26h : ia0_26.toInt ≤ 300) (ia0_27 : Int32) (hia0_27l : (-9) ≤ ia0_27.toInt) (hia0_27h : ia0_27.toInt ≤ 11) (ia0_28 : Int32) (ia0_30 : Int32) (hia0_30l : 0 ≤ ia0_30.toInt) (hia0_30h : ia0_30.toInt ≤ 60) (ia0_31 : Int32) (ia0_32 : Int32) (hia0_32l : 0 ≤ ia0_32.toInt) (hia0_32h : ia0_32.toInt ≤ 1) (ia0_36 : Int32) (hia0_36l : 0 ≤ ia0_36.toInt) (hia0_36h : ia0_36.toInt ≤ 12) (ia0_37 : Int32) : Met l yX12_isWritten vsX12_isWritten ({ frames := 0, cells := 0, slots := 0, locals := 0 }) (va_Pc [.ref ha0] (zRB dC dI cI cQ [(ha0_29, .inl (cI, 60, .inl fa0_29)), (ha0, .inr (12, [.ref ha0_0, .ref ha0_1, .ref ha0_2, .ref ha0_3, .ref ha0_4, .ref ha0_5, .ref ha0_6, .ref ha0_7, .ref ha0_8, .int ia0_9, .int ia0_10, .int ia0_11, .int ia0_12, .int ia0_13, .int ia0_14, .int ia0_15, .ref ha0_16, .ref ha0_17, .ref ha0_18, .ref ha0_19, .int ia0_20, .int ia0_21, .int ia0_22, .ref ha0_23, .int ia0_24, .int ia0_25, .int ia0_26, .int ia0_27, .int ia0_28, .ref ha0_29, .int ia0_30, .int ia0_31, .int ia0_32, .ref ha0_33, .ref ha0_34, .ref ha0_35, .int ia0_36, .int ia0_37]))])) (vp_Si (fun r => 0 ≤ r.toInt ∧ r.toInt ≤ 1 ∧ (zYn (zIsW fa0_29 ia0_30.toInt ia0_10.toInt ia0_32.toInt) r.toInt))) 0 0 (fun _ => False) := by
  refine Met.ofW (cc := cX12_isWritten) (maxL := 2) (ret := (some .boolean)) (by decide) rfl ?_
  intro p e s m args below meth c s₁ B hml hv
  obtain ⟨rfl, hP, hZ⟩ := hv
  obtain ⟨hK, hAO, hN⟩ := id hZ
  have hx := B.exec
  have hb := B.bytes
  have hr := B.returns
  have hts := atoms_spec (ws := vsX12_isWritten) B.pre
  have hown : s.vm.findClass RX12 = some m.cls := findClass_of_methodNamed B.named
  have hlocks := B.notSynchronized
  have hl := lv_entry ([.ref ha0]) (n := 2) (Nat.le_of_ble_eq_true rfl)
  rw [lg_entry_eq]
  generalize (lg_sl ([.ref ha0]) ++ List.replicate (2 - (lg_sl ([.ref ha0])).length) Slot.unset).toArray = ls at hl ⊢
  have hl : lv_has ls 2 [(0, .ref ha0)] := hl
  refine lv_iconst (v := 0) hx hb dX12_isWritten_0 (by decide) ?_
  refine lv_istore_n (lv' := [(1, .int 0), (0, .ref ha0)]) hx hb dX12_isWritten_1 rfl hl (by decide) rfl (fun ls hl => ?_)
  have hL122 : ∀ (n : Nat) (v1 : Int32) (ls : Array Slot), 0 ≤ v1.toInt → v1.toInt ≤ 60 → (zWrI fa0_29 (v1 : Int32).toInt) → (60 - v1.toInt).toNat < n → lv_has ls 2 [(1, .int v1), (0, .ref ha0)] → W p l e (headSpec vsX12_isWritten ({ frames := 0, cells := 0, slots := 0, locals := 0 })).room s m ([.ref ha0] : List Value).toArray below meth c s.heap [] 0 0 (MQ below (vp_Si (fun r => 0 ≤ r.toInt ∧ r.toInt ≤ 1 ∧ (zYn (zIsW fa0_29 ia0_30.toInt ia0_10.toInt ia0_32.toInt) r.toInt))) ([.ref ha0] : List Value).toArray s 0 0 (fun _ => False)) (F0 m 2 ls []) := by
    intro n
    induction n with
    | zero =>
      intro v1 ls hi123_0 hi123_1 hi123_x0 hi123_m hl
      exact absurd hi123_m (Nat.not_lt_zero _)
    | succ n ih =>
      intro v1 ls hi123_0 hi123_1 hi123_x0 hi123_m hl
      have ih124 := ih
      refine lv_iload_n hx hb dX12_isWritten_2 rfl (lv_at hl 0 rfl) ?_
      refine lv_aload_n hx hb dX12_isWritten_3 rfl (lv_at hl 1 rfl) ?_
      refine va_get (D := (dC, dI)) (ci := 12) (v := .int ia0_30) (C := RX12) (T := TX12) (N := 38) hx hb hts in_X12_isWritten_X12 hown hK hP 1 rfl rfl 30 (by decide) (hts (.fieldLink RX12 202 "EachOnHisCueModel" "nightMany" "I") (by decide +kernel)) (fun _ h9 => h9) rfl dX12_isWritten_4 ?_
      refine lv_icmp_ge (tgt := 28) hx hb dX12_isWritten_7 (by decide) (fun hc => ?_) (fun hc => ?_)
      · have q125 : ia0_30.toInt ≤ v1.toInt := z_le rfl rfl hc
        refine lv_aload_n hx hb dX12_isWritten_28 rfl (lv_at hl 1 rfl) ?_
        refine va_get (D := (dC, dI)) (ci := 12) (v := .int ia0_30) (C := RX12) (T := TX12) (N := 38) hx hb hts in_X12_isWritten_X12 hown hK hP 1 rfl rfl 30 (by decide) (hts (.fieldLink RX12 202 "EachOnHisCueModel" "nightMany" "I") (by decide +kernel)) (fun _ h9 => h9) rfl dX12_isWritten_29 ?_
        refine lv_aload_n hx hb dX12_isWritten_32 rfl (lv_at hl 1 rfl) ?_
        refine va_get (D := (dC, dI)) (ci := 12) (v := .int ia0_10) (C := RX12) (T := TX12) (N := 38) hx hb hts in_X12_isWritten_X12 hown hK hP 1 rfl rfl 10 (by decide) (hts (.fieldLink RX12 79 "EachOnHisCueModel" "lines" "I") (by decide +kernel)) (fun _ h9 => h9) rfl dX12_isWritten_33 ?_
        refine lv_icmp_ne (tgt := 50) hx hb dX12_isWritten_36 (by decide) (fun hc => ?_) (fun hc => ?_)
        · have q126 : ia0_30.toInt ≠ ia0_10.toInt := z_ne rfl rfl hc
          refine lv_iconst (v := 0) hx hb dX12_isWritten_50 (by decide) ?_
          exact W.zret (v := 0) hx hb hr (rfl) (fun t ht hW => ⟨0, rfl, ⟨by first | decide | omega, by first | decide | omega, (by first | exact z_isN (by omega) (by decide) | exact z_isF ex (by omega) (by omega) (by omega) (by decide))⟩, ht⟩) (fun _ h => absurd h List.not_mem_nil) dX12_isWritten_51
        · have q127 : ia0_30.toInt = ia0_10.toInt := z_eq rfl rfl hc
          refine lv_aload_n hx hb dX12_isWritten_39 rfl (lv_at hl 1 rfl) ?_
          refine va_get (D := (dC, dI)) (ci := 12) (v := .int ia0_32) (C := RX12) (T := TX12) (N := 38) hx hb hts in_X12_isWritten_X12 hown hK hP 1 rfl rfl 32 (by decide) (hts (.fieldLink RX12 205 "EachOnHisCueModel" "doesEndThen" "Z") (by decide +kernel)) (fun _ h9 => h9) rfl dX12_isWritten_40 ?_
          refine lv_if_eq (tgt := 50) hx hb dX12_isWritten_43 (by decide) (fun hc => ?_) (fun hc => ?_)
          · have q128 : ia0_32.toInt = 0 := z_eq rfl (by decide) hc
            refine lv_iconst (v := 0) hx hb dX12_isWritten_50 (by decide) ?_
            exact W.zret (v := 0) hx hb hr (rfl) (fun t ht hW => ⟨0, rfl, ⟨by first | decide | omega, by first | decide | omega, (by first | exact z_isN (by omega) (by decide) | exact z_isF ex (by omega) (by omega) (by omega) (by decide))⟩, ht⟩) (fun _ h => absurd h List.not_mem_nil) dX12_isWritten_51
          · have q129 : ia0_32.toInt ≠ 0 := z_ne rfl (by decide) hc
            refine lv_iconst (v := 1) hx hb dX12_isWritten_46 (by decide) ?_
            refine lv_goto (tgt := 51) hx hb dX12_isWritten_47 (by decide) ?_
            exact W.zret (v := 1) hx hb hr (rfl) (fun t ht hW => ⟨1, rfl, ⟨by first | decide | omega, by first | decide | omega, (by exact z_isT (by assumption) (by omega) (by omega) (by omega) (by decide))⟩, ht⟩) (fun _ h => absurd h List.not_mem_nil) dX12_isWritten_51
      · have q130 : v1.toInt < ia0_30.toInt := z_nle rfl rfl hc
        refine lv_aload_n hx hb dX12_isWritten_10 rfl (lv_at hl 1 rfl) ?_
        refine va_get (D := (dC, dI)) (ci := 12) (v := .ref ha0_29) (C := RX12) (T := TX12) (N := 38) hx hb hts in_X12_isWritten_X12 hown hK hP 1 rfl rfl 29 (by decide) (hts (.fieldLink RX12 62 "EachOnHisCueModel" "night" "[I") (by decide +kernel)) (fun _ h9 => h9) rfl dX12_isWritten_11 ?_
        refine lv_iload_n hx hb dX12_isWritten_14 rfl (lv_at hl 0 rfl) ?_
        refine va_iald hx hb hK hP 0 0 rfl rfl (z_in (by omega) (by omega)) dX12_isWritten_15 ?_
        refine lv_topi (fun y131 ey131 => ?_)
        have gy131 : y131.toInt = (fa0_29 (v1 : Int32).toNatClampNeg).toInt := by rw [ey131]
        refine lv_iload_n hx hb dX12_isWritten_16 rfl (lv_at hl 0 rfl) ?_
        refine lv_icmp_eq (tgt := 22) hx hb dX12_isWritten_17 (by decide) (fun hc => ?_) (fun hc => ?_)
        · have q132 : y131.toInt = v1.toInt := z_eq rfl rfl hc
          obtain ⟨y133, ey133⟩ : ∃ y : Int32, y = v1 + 1 := ⟨_, rfl⟩
          refine lv_iinc (v := y133) (lv' := [(1, .int y133), (0, .ref ha0)]) hx hb dX12_isWritten_22 hl (k := 0) rfl (by rw [ey133]; rfl) (by decide) rfl (fun ls hl => ?_)
          have hy133 : y133.toInt = v1.toInt + 1 := by rw [ey133]; exact z_add rfl (by decide) (by omega) (by omega)
          refine lv_goto (tgt := 2) hx hb dX12_isWritten_25 (by decide) ?_
          exact ih124 y133 ls (by first | decide | omega) (by first | decide | omega) (z_wrS (by assumption) (by omega) (by omega) ey131 (by omega)) (by omega) (lv_sub hl [0, 1] rfl)
        · have q134 : y131.toInt ≠ v1.toInt := z_ne rfl rfl hc
          refine lv_iconst (v := 0) hx hb dX12_isWritten_20 (by decide) ?_
          exact W.zret (v := 0) hx hb hr (rfl) (fun t ht hW => ⟨0, rfl, ⟨by first | decide | omega, by first | decide | omega, (by first | exact z_isN (by omega) (by decide) | exact z_isF ey131 (by omega) (by omega) (by omega) (by decide))⟩, ht⟩) (fun _ h => absurd h List.not_mem_nil) dX12_isWritten_21
  exact hL122 ((60 - (0 : Int32).toInt).toNat + 1) 0 ls (by decide) (by decide) (z_wrI0 (by decide)) (by omega) hl
set_option maxRecDepth 20000 in
theorem edX12_leaps_0 : decode cX12_leaps 0 = .ok (.iconst 0, 1) ∧ decode cX12_leaps 1 = .ok (.istore_n 1, 1) ∧ decode cX12_leaps 2 = .ok (.iconst 1, 1) ∧ decode cX12_leaps 3 = .ok (.istore_n 2, 1) ∧ decode cX12_leaps 4 = .ok (.iload_n 2, 1) ∧ decode cX12_leaps 5 = .ok (.aload_n 0, 1) ∧ decode cX12_leaps 6 = .ok (.getfield 202, 3) ∧ decode cX12_leaps 9 = .ok (.if_icmp .ge 36, 3) ∧ decode cX12_leaps 12 = .ok (.iload_n 1, 1) ∧ decode cX12_leaps 13 = .ok (.aload_n 0, 1) ∧ decode cX12_leaps 14 = .ok (.getfield 62, 3) ∧ decode cX12_leaps 17 = .ok (.iload_n 2, 1) := by decide +kernel
theorem dX12_leaps_0 : decode cX12_leaps 0 = .ok (.iconst 0, 1) := edX12_leaps_0.1
theorem dX12_leaps_1 : decode cX12_leaps 1 = .ok (.istore_n 1, 1) := edX12_leaps_0.2.1
theorem dX12_leaps_2 : decode cX12_leaps 2 = .ok (.iconst 1, 1) := edX12_leaps_0.2.2.1
theorem dX12_leaps_3 : decode cX12_leaps 3 = .ok (.istore_n 2, 1) := edX12_leaps_0.2.2.2.1
theorem dX12_leaps_4 : decode cX12_leaps 4 = .ok (.iload_n 2, 1) := edX12_leaps_0.2.2.2.2.1
theorem dX12_leaps_5 : decode cX12_leaps 5 = .ok (.aload_n 0, 1) := edX12_leaps_0.2.2.2.2.2.1
theorem dX12_leaps_6 : decode cX12_leaps 6 = .ok (.getfield 202, 3) := edX12_leaps_0.2.2.2.2.2.2.1
theorem dX12_leaps_9 : decode cX12_leaps 9 = .ok (.if_icmp .ge 36, 3) := edX12_leaps_0.2.2.2.2.2.2.2.1
theorem dX12_leaps_12 : decode cX12_leaps 12 = .ok (.iload_n 1, 1) := edX12_leaps_0.2.2.2.2.2.2.2.2.1
theorem dX12_leaps_13 : decode cX12_leaps 13 = .ok (.aload_n 0, 1) := edX12_leaps_0.2.2.2.2.2.2.2.2.2.1
theorem dX12_leaps_14 : decode cX12_leaps 14 = .ok (.getfield 62, 3) := edX12_leaps_0.2.2.2.2.2.2.2.2.2.2.1
theorem dX12_leaps_17 : decode cX12_leaps 17 = .ok (.iload_n 2, 1) := edX12_leaps_0.2.2.2.2.2.2.2.2.2.2.2
set_option maxRecDepth 20000 in
theorem edX12_leaps_18 : decode cX12_leaps 18 = .ok (.iaload, 1) ∧ decode cX12_leaps 19 = .ok (.aload_n 0, 1) ∧ decode cX12_leaps 20 = .ok (.getfield 62, 3) ∧ decode cX12_leaps 23 = .ok (.iload_n 2, 1) ∧ decode cX12_leaps 24 = .ok (.iconst 1, 1) ∧ decode cX12_leaps 25 = .ok (.isub, 1) ∧ decode cX12_leaps 26 = .ok (.iaload, 1) ∧ decode cX12_leaps 27 = .ok (.iconst 1, 1) ∧ decode cX12_leaps 28 = .ok (.iadd, 1) ∧ decode cX12_leaps 29 = .ok (.if_icmp .ne 7, 3) ∧ decode cX12_leaps 32 = .ok (.iconst 0, 1) ∧ decode cX12_leaps 33 = .ok (.goto 4, 3) := by decide +kernel
theorem dX12_leaps_18 : decode cX12_leaps 18 = .ok (.iaload, 1) := edX12_leaps_18.1
theorem dX12_leaps_19 : decode cX12_leaps 19 = .ok (.aload_n 0, 1) := edX12_leaps_18.2.1
theorem dX12_leaps_20 : decode cX12_leaps 20 = .ok (.getfield 62, 3) := edX12_leaps_18.2.2.1
theorem dX12_leaps_23 : decode cX12_leaps 23 = .ok (.iload_n 2, 1) := edX12_leaps_18.2.2.2.1
theorem dX12_leaps_24 : decode cX12_leaps 24 = .ok (.iconst 1, 1) := edX12_leaps_18.2.2.2.2.1
theorem dX12_leaps_25 : decode cX12_leaps 25 = .ok (.isub, 1) := edX12_leaps_18.2.2.2.2.2.1
theorem dX12_leaps_26 : decode cX12_leaps 26 = .ok (.iaload, 1) := edX12_leaps_18.2.2.2.2.2.2.1
theorem dX12_leaps_27 : decode cX12_leaps 27 = .ok (.iconst 1, 1) := edX12_leaps_18.2.2.2.2.2.2.2.1
theorem dX12_leaps_28 : decode cX12_leaps 28 = .ok (.iadd, 1) := edX12_leaps_18.2.2.2.2.2.2.2.2.1
theorem dX12_leaps_29 : decode cX12_leaps 29 = .ok (.if_icmp .ne 7, 3) := edX12_leaps_18.2.2.2.2.2.2.2.2.2.1
theorem dX12_leaps_32 : decode cX12_leaps 32 = .ok (.iconst 0, 1) := edX12_leaps_18.2.2.2.2.2.2.2.2.2.2.1
theorem dX12_leaps_33 : decode cX12_leaps 33 = .ok (.goto 4, 3) := edX12_leaps_18.2.2.2.2.2.2.2.2.2.2.2
set_option maxRecDepth 20000 in
theorem edX12_leaps_36 : decode cX12_leaps 36 = .ok (.iconst 1, 1) ∧ decode cX12_leaps 37 = .ok (.iadd, 1) ∧ decode cX12_leaps 38 = .ok (.istore_n 1, 1) ∧ decode cX12_leaps 39 = .ok (.iinc 2 1, 3) ∧ decode cX12_leaps 42 = .ok (.goto (-38), 3) ∧ decode cX12_leaps 45 = .ok (.iload_n 1, 1) ∧ decode cX12_leaps 46 = .ok (.ireturn, 1) := by decide +kernel
theorem dX12_leaps_36 : decode cX12_leaps 36 = .ok (.iconst 1, 1) := edX12_leaps_36.1
theorem dX12_leaps_37 : decode cX12_leaps 37 = .ok (.iadd, 1) := edX12_leaps_36.2.1
theorem dX12_leaps_38 : decode cX12_leaps 38 = .ok (.istore_n 1, 1) := edX12_leaps_36.2.2.1
theorem dX12_leaps_39 : decode cX12_leaps 39 = .ok (.iinc 2 1, 3) := edX12_leaps_36.2.2.2.1
theorem dX12_leaps_42 : decode cX12_leaps 42 = .ok (.goto (-38), 3) := edX12_leaps_36.2.2.2.2.1
theorem dX12_leaps_45 : decode cX12_leaps 45 = .ok (.iload_n 1, 1) := edX12_leaps_36.2.2.2.2.2.1
theorem dX12_leaps_46 : decode cX12_leaps 46 = .ok (.ireturn, 1) := edX12_leaps_36.2.2.2.2.2.2
noncomputable def voX12_leaps : List Cond := [.fieldLink RX12 202 "EachOnHisCueModel" "nightMany" "I", .fieldLink RX12 62 "EachOnHisCueModel" "night" "[I"]
noncomputable def vsX12_leaps : List Cond := .code yX12_leaps cX12_leaps 3 (some .int) :: (voX12_leaps ++ (wsX120))
theorem zgX12_leaps : zGd vsX12_leaps := z_gdC rfl (z_gdA (z_gdO (by decide +kernel) : zGd voX12_leaps) (zgX12))
theorem in_X12_leaps_X12 : ∀ w ∈ wsX120, w ∈ vsX12_leaps := fun _ h => List.mem_cons_of_mem _ (List.mem_append_right _ (h))
set_option maxHeartbeats 4000000 in
set_option maxRecDepth 100000 in
theorem rX12_leaps (l : Launch) (dC : Nat → ClassId) (dI : Nat → Nat → Nat) (cI cQ : ClassId) (ha0 ha0_29 ha0_0 ha0_1 ha0_2 ha0_3 ha0_4 ha0_5 ha0_6 ha0_7 ha0_8 ha0_16 ha0_17 ha0_18 ha0_19 ha0_23 ha0_33 ha0_34 ha0_35 : Nat) (fa0_29 : Nat → Int32) (ia0_9 : Int32) (hia0_9l : 0 ≤ ia0_9.toInt) (hia0_9h : ia0_9.toInt ≤ 5) (ia0_10 : Int32) (hia0_10l : 0 ≤ ia0_10.toInt) (hia0_10h : ia0_10.toInt ≤ 12) (ia0_11 : Int32) (ia0_12 : Int32) (ia0_13 : Int32) (ia0_14 : Int32) (hia0_14l : (-9) ≤ ia0_14.toInt) (hia0_14h : ia0_14.toInt ≤ 11) (ia0_15 : Int32) (ia0_20 : Int32) (hia0_20l : 0 ≤ ia0_20.toInt) (hia0_20h : ia0_20.toInt ≤ 80) (ia0_21 : Int32) (hia0_21l : 0 ≤ ia0_21.toInt) (hia0_21h : ia0_21.toInt ≤ 80) (ia0_22 : Int32) (hia0_22l : 0 ≤ ia0_22.toInt) (hia0_22h : ia0_22.toInt ≤ 40) (ia0_24 : Int32) (hia0_24l : 0 ≤ ia0_24.toInt) (hia0_24h : ia0_24.toInt ≤ 1) (ia0_25 : Int32) (hia0_25l : 0 ≤ ia0_25.toInt) (hia0_25h : ia0_25.toInt ≤ 1) (ia0_26 : Int32) (hia0_26l : 0 ≤ ia0_26.toInt) (hia0_26h : ia0_26.toInt ≤ 300) (ia0_27 : Int32) (hia0_27l : (-9) ≤ ia0_27.toInt) (hia0_27h : ia0_27.toInt ≤ 11) (ia0_28 : Int32) (ia0_30 : Int32) (hia0_30l : 0 ≤ ia0_30.toInt) (hia0_30h : ia0_30.toInt ≤ 60) (ia0_31 : Int32) (ia0_32 : Int32) (hia0_32l : 0 ≤ ia0_32.toInt) (hia0_32h : ia0_32.toInt ≤ 1) (ia0_36 : Int32) (hia0_36l : 0 ≤ ia0_36.toInt) (hia0_36h : ia0_36.toInt ≤ 12) (ia0_37 : Int32) : Met l yX12_leaps vsX12_leaps ({ frames := 0, cells := 0, slots := 0, locals := 0 }) (va_Pc [.ref ha0] (zRB dC dI cI cQ [(ha0_29, .inl (cI, 60, .inl fa0_29)), (ha0, .inr (12, [.ref ha0_0, .ref ha0_1, .ref ha0_2, .ref ha0_3, .ref ha0_4, .ref ha0_5, .ref ha0_6, .ref ha0_7, .ref ha0_8, .int ia0_9, .int ia0_10, .int ia0_11, .int ia0_12, .int ia0_13, .int ia0_14, .int ia0_15, .ref ha0_16, .ref ha0_17, .ref ha0_18, .ref ha0_19, .int ia0_20, .int ia0_21, .int ia0_22, .ref ha0_23, .int ia0_24, .int ia0_25, .int ia0_26, .int ia0_27, .int ia0_28, .ref ha0_29, .int ia0_30, .int ia0_31, .int ia0_32, .ref ha0_33, .ref ha0_34, .ref ha0_35, .int ia0_36, .int ia0_37]))])) (vp_Si (fun r => 0 ≤ r.toInt ∧ r.toInt ≤ 60 ∧ (r.toInt = zLsA fa0_29 ia0_30.toInt.toNat))) 0 0 (fun _ => False) := by
  refine Met.ofW (cc := cX12_leaps) (maxL := 3) (ret := (some .int)) (by decide) rfl ?_
  intro p e s m args below meth c s₁ B hml hv
  obtain ⟨rfl, hP, hZ⟩ := hv
  obtain ⟨hK, hAO, hN⟩ := id hZ
  have hx := B.exec
  have hb := B.bytes
  have hr := B.returns
  have hts := atoms_spec (ws := vsX12_leaps) B.pre
  have hown : s.vm.findClass RX12 = some m.cls := findClass_of_methodNamed B.named
  have hlocks := B.notSynchronized
  have hl := lv_entry ([.ref ha0]) (n := 3) (Nat.le_of_ble_eq_true rfl)
  rw [lg_entry_eq]
  generalize (lg_sl ([.ref ha0]) ++ List.replicate (3 - (lg_sl ([.ref ha0])).length) Slot.unset).toArray = ls at hl ⊢
  have hl : lv_has ls 3 [(0, .ref ha0)] := hl
  refine lv_iconst (v := 0) hx hb dX12_leaps_0 (by decide) ?_
  refine lv_istore_n (lv' := [(1, .int 0), (0, .ref ha0)]) hx hb dX12_leaps_1 rfl hl (by decide) rfl (fun ls hl => ?_)
  refine lv_iconst (v := 1) hx hb dX12_leaps_2 (by decide) ?_
  refine lv_istore_n (lv' := [(2, .int 1), (1, .int 0), (0, .ref ha0)]) hx hb dX12_leaps_3 rfl hl (by decide) rfl (fun ls hl => ?_)
  have hL27 : ∀ (n : Nat) (v1 : Int32) (v2 : Int32) (ls : Array Slot), 1 ≤ v1.toInt → v1.toInt ≤ 60 → 0 ≤ v2.toInt → v2.toInt ≤ 60 → ((v2 : Int32).toInt = zLsA fa0_29 (v1 : Int32).toInt.toNat) → ((v2 : Int32).toInt < (v1 : Int32).toInt) → ((v1 : Int32).toInt ≤ ia0_30.toInt ∨ (v1 : Int32).toInt = 1) → (60 - v1.toInt).toNat < n → lv_has ls 3 [(2, .int v1), (1, .int v2), (0, .ref ha0)] → W p l e (headSpec vsX12_leaps ({ frames := 0, cells := 0, slots := 0, locals := 0 })).room s m ([.ref ha0] : List Value).toArray below meth c s.heap [] 0 0 (MQ below (vp_Si (fun r => 0 ≤ r.toInt ∧ r.toInt ≤ 60 ∧ (r.toInt = zLsA fa0_29 ia0_30.toInt.toNat))) ([.ref ha0] : List Value).toArray s 0 0 (fun _ => False)) (F0 m 4 ls []) := by
    intro n
    induction n with
    | zero =>
      intro v1 v2 ls hi28_0 hi28_1 hi28_2 hi28_3 hi28_x0 hi28_x1 hi28_x2 hi28_m hl
      exact absurd hi28_m (Nat.not_lt_zero _)
    | succ n ih =>
      intro v1 v2 ls hi28_0 hi28_1 hi28_2 hi28_3 hi28_x0 hi28_x1 hi28_x2 hi28_m hl
      have ih29 := ih
      refine lv_iload_n hx hb dX12_leaps_4 rfl (lv_at hl 0 rfl) ?_
      refine lv_aload_n hx hb dX12_leaps_5 rfl (lv_at hl 2 rfl) ?_
      refine va_get (D := (dC, dI)) (ci := 12) (v := .int ia0_30) (C := RX12) (T := TX12) (N := 38) hx hb hts in_X12_leaps_X12 hown hK hP 1 rfl rfl 30 (by decide) (hts (.fieldLink RX12 202 "EachOnHisCueModel" "nightMany" "I") (by decide +kernel)) (fun _ h9 => h9) rfl dX12_leaps_6 ?_
      refine lv_icmp_ge (tgt := 45) hx hb dX12_leaps_9 (by decide) (fun hc => ?_) (fun hc => ?_)
      · have q30 : ia0_30.toInt ≤ v1.toInt := z_le rfl rfl hc
        refine lv_iload_n hx hb dX12_leaps_45 rfl (lv_at hl 1 rfl) ?_
        exact W.iret (v := v2) hx hb hr (fun t ht hW => ⟨v2, rfl, ⟨by first | decide | omega, by first | decide | omega, (by exact z_lrE (k := v1) (by assumption) (by omega) (by omega) (by omega))⟩, ht⟩) (fun _ h => absurd h List.not_mem_nil) dX12_leaps_46
      · have q31 : v1.toInt < ia0_30.toInt := z_nle rfl rfl hc
        refine lv_iload_n hx hb dX12_leaps_12 rfl (lv_at hl 1 rfl) ?_
        refine lv_aload_n hx hb dX12_leaps_13 rfl (lv_at hl 2 rfl) ?_
        refine va_get (D := (dC, dI)) (ci := 12) (v := .ref ha0_29) (C := RX12) (T := TX12) (N := 38) hx hb hts in_X12_leaps_X12 hown hK hP 1 rfl rfl 29 (by decide) (hts (.fieldLink RX12 62 "EachOnHisCueModel" "night" "[I") (by decide +kernel)) (fun _ h9 => h9) rfl dX12_leaps_14 ?_
        refine lv_iload_n hx hb dX12_leaps_17 rfl (lv_at hl 0 rfl) ?_
        refine va_iald hx hb hK hP 0 0 rfl rfl (z_in (by omega) (by omega)) dX12_leaps_18 ?_
        refine lv_topi (fun y32 ey32 => ?_)
        have gy32 : y32.toInt = (fa0_29 (v1 : Int32).toNatClampNeg).toInt := by rw [ey32]
        refine lv_aload_n hx hb dX12_leaps_19 rfl (lv_at hl 2 rfl) ?_
        refine va_get (D := (dC, dI)) (ci := 12) (v := .ref ha0_29) (C := RX12) (T := TX12) (N := 38) hx hb hts in_X12_leaps_X12 hown hK hP 1 rfl rfl 29 (by decide) (hts (.fieldLink RX12 62 "EachOnHisCueModel" "night" "[I") (by decide +kernel)) (fun _ h9 => h9) rfl dX12_leaps_20 ?_
        refine lv_iload_n hx hb dX12_leaps_23 rfl (lv_at hl 0 rfl) ?_
        refine lv_iconst (v := 1) hx hb dX12_leaps_24 (by decide) ?_
        refine lv_isub hx hb dX12_leaps_25 ?_
        refine lv_topi (fun y33 ey33 => ?_)
        have hy33 : y33.toInt = v1.toInt - 1 := by rw [ey33]; exact z_sub rfl (by decide) (by omega) (by omega)
        refine va_iald hx hb hK hP 0 0 rfl rfl (z_in (by omega) (by omega)) dX12_leaps_26 ?_
        refine lv_topi (fun y34 ey34 => ?_)
        have gy34 : y34.toInt = (fa0_29 (y33 : Int32).toNatClampNeg).toInt := by rw [ey34]
        refine lv_iconst (v := 1) hx hb dX12_leaps_27 (by decide) ?_
        refine lv_iadd hx hb dX12_leaps_28 ?_
        refine lv_topi (fun y35 ey35 => ?_)
        refine lv_icmp_ne (tgt := 36) hx hb dX12_leaps_29 (by decide) (fun hc => ?_) (fun hc => ?_)
        · have q36 : y32.toInt ≠ y35.toInt := z_ne rfl rfl hc
          refine lv_iconst (v := 1) hx hb dX12_leaps_36 (by decide) ?_
          refine lv_iadd hx hb dX12_leaps_37 ?_
          refine lv_topi (fun y37 ey37 => ?_)
          have hy37 : y37.toInt = v2.toInt + 1 := by rw [ey37]; exact z_add rfl (by decide) (by omega) (by omega)
          refine lv_istore_n (lv' := [(1, .int y37), (2, .int v1), (0, .ref ha0)]) hx hb dX12_leaps_38 rfl hl (by decide) rfl (fun ls hl => ?_)
          obtain ⟨y38, ey38⟩ : ∃ y : Int32, y = v1 + 1 := ⟨_, rfl⟩
          refine lv_iinc (v := y38) (lv' := [(2, .int y38), (1, .int y37), (0, .ref ha0)]) hx hb dX12_leaps_39 hl (k := 1) rfl (by rw [ey38]; rfl) (by decide) rfl (fun ls hl => ?_)
          have hy38 : y38.toInt = v1.toInt + 1 := by rw [ey38]; exact z_add rfl (by decide) (by omega) (by omega)
          refine lv_goto (tgt := 4) hx hb dX12_leaps_42 (by decide) ?_
          exact ih29 y38 y37 ls (by first | decide | omega) (by first | decide | omega) (by first | decide | omega) (by first | decide | omega) (z_lrS (by assumption) (by omega) (by omega) ey32 (by omega) ey34 ey35 (by omega)) (by have e0 : (0 : Int32).toInt = 0 := (by decide); have e1 : (1 : Int32).toInt = 1 := (by decide); omega) (by have e0 : (0 : Int32).toInt = 0 := (by decide); have e1 : (1 : Int32).toInt = 1 := (by decide); omega) (by omega) (lv_sub hl [0, 1, 2] rfl)
        · have q39 : y32.toInt = y35.toInt := z_eq rfl rfl hc
          refine lv_iconst (v := 0) hx hb dX12_leaps_32 (by decide) ?_
          refine lv_goto (tgt := 37) hx hb dX12_leaps_33 (by decide) ?_
          refine lv_iadd hx hb dX12_leaps_37 ?_
          refine lv_topi (fun y40 ey40 => ?_)
          have hy40 : y40.toInt = v2.toInt + 0 := by rw [ey40]; exact z_add rfl (by decide) (by omega) (by omega)
          refine lv_istore_n (lv' := [(1, .int y40), (2, .int v1), (0, .ref ha0)]) hx hb dX12_leaps_38 rfl hl (by decide) rfl (fun ls hl => ?_)
          obtain ⟨y41, ey41⟩ : ∃ y : Int32, y = v1 + 1 := ⟨_, rfl⟩
          refine lv_iinc (v := y41) (lv' := [(2, .int y41), (1, .int y40), (0, .ref ha0)]) hx hb dX12_leaps_39 hl (k := 1) rfl (by rw [ey41]; rfl) (by decide) rfl (fun ls hl => ?_)
          have hy41 : y41.toInt = v1.toInt + 1 := by rw [ey41]; exact z_add rfl (by decide) (by omega) (by omega)
          refine lv_goto (tgt := 4) hx hb dX12_leaps_42 (by decide) ?_
          exact ih29 y41 y40 ls (by first | decide | omega) (by first | decide | omega) (by first | decide | omega) (by first | decide | omega) (z_lrS (by assumption) (by omega) (by omega) ey32 (by omega) ey34 ey35 (by omega)) (by have e0 : (0 : Int32).toInt = 0 := (by decide); have e1 : (1 : Int32).toInt = 1 := (by decide); omega) (by have e0 : (0 : Int32).toInt = 0 := (by decide); have e1 : (1 : Int32).toInt = 1 := (by decide); omega) (by omega) (lv_sub hl [0, 1, 2] rfl)
  exact hL27 ((60 - (1 : Int32).toInt).toNat + 1) 1 0 ls (by decide) (by decide) (by decide) (by decide) (z_lrI0 (by decide) (by decide)) (by have e0 : (0 : Int32).toInt = 0 := (by decide); have e1 : (1 : Int32).toInt = 1 := (by decide); omega) (by have e0 : (0 : Int32).toInt = 0 := (by decide); have e1 : (1 : Int32).toInt = 1 := (by decide); omega) (by omega) hl
set_option maxRecDepth 20000 in
theorem edX12_followOf_0 : decode cX12_followOf 0 = .ok (.iconst 0, 1) ∧ decode cX12_followOf 1 = .ok (.istore_n 2, 1) ∧ decode cX12_followOf 2 = .ok (.iconst 1, 1) ∧ decode cX12_followOf 3 = .ok (.istore_n 3, 1) ∧ decode cX12_followOf 4 = .ok (.iload_n 3, 1) ∧ decode cX12_followOf 5 = .ok (.aload_n 0, 1) ∧ decode cX12_followOf 6 = .ok (.getfield 79, 3) ∧ decode cX12_followOf 9 = .ok (.if_icmp .ge 43, 3) ∧ decode cX12_followOf 12 = .ok (.iload_n 2, 1) ∧ decode cX12_followOf 13 = .ok (.aload_n 0, 1) ∧ decode cX12_followOf 14 = .ok (.getfield 13, 3) ∧ decode cX12_followOf 17 = .ok (.aload_n 0, 1) := by decide +kernel
theorem dX12_followOf_0 : decode cX12_followOf 0 = .ok (.iconst 0, 1) := edX12_followOf_0.1
theorem dX12_followOf_1 : decode cX12_followOf 1 = .ok (.istore_n 2, 1) := edX12_followOf_0.2.1
theorem dX12_followOf_2 : decode cX12_followOf 2 = .ok (.iconst 1, 1) := edX12_followOf_0.2.2.1
theorem dX12_followOf_3 : decode cX12_followOf 3 = .ok (.istore_n 3, 1) := edX12_followOf_0.2.2.2.1
theorem dX12_followOf_4 : decode cX12_followOf 4 = .ok (.iload_n 3, 1) := edX12_followOf_0.2.2.2.2.1
theorem dX12_followOf_5 : decode cX12_followOf 5 = .ok (.aload_n 0, 1) := edX12_followOf_0.2.2.2.2.2.1
theorem dX12_followOf_6 : decode cX12_followOf 6 = .ok (.getfield 79, 3) := edX12_followOf_0.2.2.2.2.2.2.1
theorem dX12_followOf_9 : decode cX12_followOf 9 = .ok (.if_icmp .ge 43, 3) := edX12_followOf_0.2.2.2.2.2.2.2.1
theorem dX12_followOf_12 : decode cX12_followOf 12 = .ok (.iload_n 2, 1) := edX12_followOf_0.2.2.2.2.2.2.2.2.1
theorem dX12_followOf_13 : decode cX12_followOf 13 = .ok (.aload_n 0, 1) := edX12_followOf_0.2.2.2.2.2.2.2.2.2.1
theorem dX12_followOf_14 : decode cX12_followOf 14 = .ok (.getfield 13, 3) := edX12_followOf_0.2.2.2.2.2.2.2.2.2.2.1
theorem dX12_followOf_17 : decode cX12_followOf 17 = .ok (.aload_n 0, 1) := edX12_followOf_0.2.2.2.2.2.2.2.2.2.2.2
set_option maxRecDepth 20000 in
theorem edX12_followOf_18 : decode cX12_followOf 18 = .ok (.getfield 22, 3) ∧ decode cX12_followOf 21 = .ok (.iload_n 3, 1) ∧ decode cX12_followOf 22 = .ok (.iaload, 1) ∧ decode cX12_followOf 23 = .ok (.iaload, 1) ∧ decode cX12_followOf 24 = .ok (.iconst 4, 1) ∧ decode cX12_followOf 25 = .ok (.if_icmp .eq 18, 3) ∧ decode cX12_followOf 28 = .ok (.aload_n 0, 1) ∧ decode cX12_followOf 29 = .ok (.iload_n 3, 1) ∧ decode cX12_followOf 30 = .ok (.iload_n 1, 1) ∧ decode cX12_followOf 31 = .ok (.invokevirtual 188, 3) ∧ decode cX12_followOf 34 = .ok (.ifCond .eq 9, 3) ∧ decode cX12_followOf 37 = .ok (.iconst 1, 1) := by decide +kernel
theorem dX12_followOf_18 : decode cX12_followOf 18 = .ok (.getfield 22, 3) := edX12_followOf_18.1
theorem dX12_followOf_21 : decode cX12_followOf 21 = .ok (.iload_n 3, 1) := edX12_followOf_18.2.1
theorem dX12_followOf_22 : decode cX12_followOf 22 = .ok (.iaload, 1) := edX12_followOf_18.2.2.1
theorem dX12_followOf_23 : decode cX12_followOf 23 = .ok (.iaload, 1) := edX12_followOf_18.2.2.2.1
theorem dX12_followOf_24 : decode cX12_followOf 24 = .ok (.iconst 4, 1) := edX12_followOf_18.2.2.2.2.1
theorem dX12_followOf_25 : decode cX12_followOf 25 = .ok (.if_icmp .eq 18, 3) := edX12_followOf_18.2.2.2.2.2.1
theorem dX12_followOf_28 : decode cX12_followOf 28 = .ok (.aload_n 0, 1) := edX12_followOf_18.2.2.2.2.2.2.1
theorem dX12_followOf_29 : decode cX12_followOf 29 = .ok (.iload_n 3, 1) := edX12_followOf_18.2.2.2.2.2.2.2.1
theorem dX12_followOf_30 : decode cX12_followOf 30 = .ok (.iload_n 1, 1) := edX12_followOf_18.2.2.2.2.2.2.2.2.1
theorem dX12_followOf_31 : decode cX12_followOf 31 = .ok (.invokevirtual 188, 3) := edX12_followOf_18.2.2.2.2.2.2.2.2.2.1
theorem dX12_followOf_34 : decode cX12_followOf 34 = .ok (.ifCond .eq 9, 3) := edX12_followOf_18.2.2.2.2.2.2.2.2.2.2.1
theorem dX12_followOf_37 : decode cX12_followOf 37 = .ok (.iconst 1, 1) := edX12_followOf_18.2.2.2.2.2.2.2.2.2.2.2
set_option maxRecDepth 20000 in
theorem edX12_followOf_38 : decode cX12_followOf 38 = .ok (.iload_n 3, 1) ∧ decode cX12_followOf 39 = .ok (.ishl, 1) ∧ decode cX12_followOf 40 = .ok (.goto 4, 3) ∧ decode cX12_followOf 43 = .ok (.iconst 0, 1) ∧ decode cX12_followOf 44 = .ok (.ior, 1) ∧ decode cX12_followOf 45 = .ok (.istore_n 2, 1) ∧ decode cX12_followOf 46 = .ok (.iinc 3 1, 3) ∧ decode cX12_followOf 49 = .ok (.goto (-45), 3) ∧ decode cX12_followOf 52 = .ok (.iload_n 2, 1) ∧ decode cX12_followOf 53 = .ok (.ireturn, 1) := by decide +kernel
theorem dX12_followOf_38 : decode cX12_followOf 38 = .ok (.iload_n 3, 1) := edX12_followOf_38.1
theorem dX12_followOf_39 : decode cX12_followOf 39 = .ok (.ishl, 1) := edX12_followOf_38.2.1
theorem dX12_followOf_40 : decode cX12_followOf 40 = .ok (.goto 4, 3) := edX12_followOf_38.2.2.1
theorem dX12_followOf_43 : decode cX12_followOf 43 = .ok (.iconst 0, 1) := edX12_followOf_38.2.2.2.1
theorem dX12_followOf_44 : decode cX12_followOf 44 = .ok (.ior, 1) := edX12_followOf_38.2.2.2.2.1
theorem dX12_followOf_45 : decode cX12_followOf 45 = .ok (.istore_n 2, 1) := edX12_followOf_38.2.2.2.2.2.1
theorem dX12_followOf_46 : decode cX12_followOf 46 = .ok (.iinc 3 1, 3) := edX12_followOf_38.2.2.2.2.2.2.1
theorem dX12_followOf_49 : decode cX12_followOf 49 = .ok (.goto (-45), 3) := edX12_followOf_38.2.2.2.2.2.2.2.1
theorem dX12_followOf_52 : decode cX12_followOf 52 = .ok (.iload_n 2, 1) := edX12_followOf_38.2.2.2.2.2.2.2.2.1
theorem dX12_followOf_53 : decode cX12_followOf 53 = .ok (.ireturn, 1) := edX12_followOf_38.2.2.2.2.2.2.2.2.2
noncomputable def voX12_followOf : List Cond := [.fieldLink RX12 79 "EachOnHisCueModel" "lines" "I", .fieldLink RX12 13 "EachOnHisCueModel" "kind" "[I", .fieldLink RX12 22 "EachOnHisCueModel" "whose" "[I", .methodLink RX12 188 yX12_isCued, .instanceMethod yX12_isCued, .selects RX12 yX12_isCued yX12_isCued, .initialized RX12]
noncomputable def vsX12_followOf : List Cond := .code yX12_followOf cX12_followOf 4 (some .int) :: (voX12_followOf ++ (vsX12_isCued ++ (wsX120)))
theorem zgX12_followOf : zGd vsX12_followOf := z_gdC rfl (z_gdA (z_gdO (by decide +kernel) : zGd voX12_followOf) (z_gdA zgX12_isCued (zgX12)))
theorem in_X12_followOf_X12 : ∀ w ∈ wsX120, w ∈ vsX12_followOf := fun _ h => List.mem_cons_of_mem _ (List.mem_append_right _ (List.mem_append_right _ (h)))
theorem gw_X12_followOf_X12_isCued : GoodIn vsX12_followOf vsX12_isCued := z_gdI (fun _ h => List.mem_cons_of_mem _ (List.mem_append_right _ (List.mem_append_left _ h))) zgX12_isCued
set_option maxRecDepth 20000 in
theorem gv_X12_followOf_X12_isCued_188 : GoodIn vsX12_followOf (wsV RX12 188 RX12 yX12_isCued vsX12_isCued) := goodIn_app (goodIn_of _ (by decide +kernel)) gw_X12_followOf_X12_isCued
set_option maxHeartbeats 4000000 in
set_option maxRecDepth 100000 in
theorem rX12_followOf (l : Launch) (dC : Nat → ClassId) (dI : Nat → Nat → Nat) (cI cQ : ClassId) (ha0 ha0_1 ha0_2 ha0_4 ha0_5 ha0_6 ha0_8 ha0_0 ha0_3 ha0_7 ha0_16 ha0_17 ha0_18 ha0_19 ha0_23 ha0_29 ha0_33 ha0_34 ha0_35 : Nat) (fa0_1 : Nat → Int32) (fa0_2 : Nat → Int32) (fa0_4 : Nat → Int32) (hBfa0_4 : ∀ k, 0 ≤ (fa0_4 k).toInt ∧ (fa0_4 k).toInt ≤ 4) (fa0_5 : Nat → Int32) (hBfa0_5 : ∀ k, 0 ≤ (fa0_5 k).toInt ∧ (fa0_5 k).toInt ≤ 4) (fa0_6 : Nat → Int32) (hBfa0_6 : ∀ k, 0 ≤ (fa0_6 k).toInt ∧ (fa0_6 k).toInt ≤ 9) (fa0_8 : Nat → Int32) (ia0_9 : Int32) (hia0_9l : 0 ≤ ia0_9.toInt) (hia0_9h : ia0_9.toInt ≤ 5) (ia0_10 : Int32) (hia0_10l : 0 ≤ ia0_10.toInt) (hia0_10h : ia0_10.toInt ≤ 12) (ia0_11 : Int32) (ia0_12 : Int32) (ia0_13 : Int32) (ia0_14 : Int32) (hia0_14l : (-9) ≤ ia0_14.toInt) (hia0_14h : ia0_14.toInt ≤ 11) (ia0_15 : Int32) (ia0_20 : Int32) (hia0_20l : 0 ≤ ia0_20.toInt) (hia0_20h : ia0_20.toInt ≤ 80) (ia0_21 : Int32) (hia0_21l : 0 ≤ ia0_21.toInt) (hia0_21h : ia0_21.toInt ≤ 80) (ia0_22 : Int32) (hia0_22l : 0 ≤ ia0_22.toInt) (hia0_22h : ia0_22.toInt ≤ 40) (ia0_24 : Int32) (hia0_24l : 0 ≤ ia0_24.toInt) (hia0_24h : ia0_24.toInt ≤ 1) (ia0_25 : Int32) (hia0_25l : 0 ≤ ia0_25.toInt) (hia0_25h : ia0_25.toInt ≤ 1) (ia0_26 : Int32) (hia0_26l : 0 ≤ ia0_26.toInt) (hia0_26h : ia0_26.toInt ≤ 300) (ia0_27 : Int32) (hia0_27l : (-9) ≤ ia0_27.toInt) (hia0_27h : ia0_27.toInt ≤ 11) (ia0_28 : Int32) (ia0_30 : Int32) (hia0_30l : 0 ≤ ia0_30.toInt) (hia0_30h : ia0_30.toInt ≤ 60) (ia0_31 : Int32) (ia0_32 : Int32) (hia0_32l : 0 ≤ ia0_32.toInt) (hia0_32h : ia0_32.toInt ≤ 1) (ia0_36 : Int32) (hia0_36l : 0 ≤ ia0_36.toInt) (hia0_36h : ia0_36.toInt ≤ 12) (ia0_37 : Int32) (p1 : Int32) (hp1l : 0 ≤ p1.toInt) (hp1h : p1.toInt ≤ 11) : Met l yX12_followOf vsX12_followOf ({ frames := 3, cells := 0, slots := 0, locals := 71 }) (va_Pc [.ref ha0, .int p1] (zRB dC dI cI cQ [(ha0_1, .inl (cI, 5, .inl fa0_1)), (ha0_2, .inl (cI, 5, .inl fa0_2)), (ha0_4, .inl (cI, 12, .inl fa0_4)), (ha0_5, .inl (cI, 12, .inl fa0_5)), (ha0_6, .inl (cI, 12, .inl fa0_6)), (ha0_8, .inl (cI, 60, .inl fa0_8)), (ha0, .inr (12, [.ref ha0_0, .ref ha0_1, .ref ha0_2, .ref ha0_3, .ref ha0_4, .ref ha0_5, .ref ha0_6, .ref ha0_7, .ref ha0_8, .int ia0_9, .int ia0_10, .int ia0_11, .int ia0_12, .int ia0_13, .int ia0_14, .int ia0_15, .ref ha0_16, .ref ha0_17, .ref ha0_18, .ref ha0_19, .int ia0_20, .int ia0_21, .int ia0_22, .ref ha0_23, .int ia0_24, .int ia0_25, .int ia0_26, .int ia0_27, .int ia0_28, .ref ha0_29, .int ia0_30, .int ia0_31, .int ia0_32, .ref ha0_33, .ref ha0_34, .ref ha0_35, .int ia0_36, .int ia0_37]))])) (vp_Si (fun r => (-2147483648) ≤ r.toInt ∧ r.toInt ≤ 2147483647 ∧ (zBq (zFq fa0_8 fa0_5 ia0_27 ia0_28 fa0_1 fa0_2 fa0_4 fa0_6 p1.toInt) ia0_10.toInt r))) 0 0 (fun _ => False) := by
  refine Met.ofW (cc := cX12_followOf) (maxL := 4) (ret := (some .int)) (by decide) rfl ?_
  intro p e s m args below meth c s₁ B hml hv
  obtain ⟨rfl, hP, hZ⟩ := hv
  obtain ⟨hK, hAO, hN⟩ := id hZ
  have hx := B.exec
  have hb := B.bytes
  have hr := B.returns
  have hts := atoms_spec (ws := vsX12_followOf) B.pre
  have hown : s.vm.findClass RX12 = some m.cls := findClass_of_methodNamed B.named
  have hlocks := B.notSynchronized
  have hl := lv_entry ([.ref ha0, .int p1]) (n := 4) (Nat.le_of_ble_eq_true rfl)
  rw [lg_entry_eq]
  generalize (lg_sl ([.ref ha0, .int p1]) ++ List.replicate (4 - (lg_sl ([.ref ha0, .int p1])).length) Slot.unset).toArray = ls at hl ⊢
  have hl : lv_has ls 4 [(0, .ref ha0), (1, .int p1)] := hl
  refine lv_iconst (v := 0) hx hb dX12_followOf_0 (by decide) ?_
  refine lv_istore_n (lv' := [(2, .int 0), (0, .ref ha0), (1, .int p1)]) hx hb dX12_followOf_1 rfl hl (by decide) rfl (fun ls hl => ?_)
  refine lv_iconst (v := 1) hx hb dX12_followOf_2 (by decide) ?_
  refine lv_istore_n (lv' := [(3, .int 1), (2, .int 0), (0, .ref ha0), (1, .int p1)]) hx hb dX12_followOf_3 rfl hl (by decide) rfl (fun ls hl => ?_)
  have hL131 : ∀ (n : Nat) (v1 : Int32) (v2 : Int32) (ls : Array Slot), 1 ≤ v1.toInt → v1.toInt ≤ 12 → (zBq (zFq fa0_8 fa0_5 ia0_27 ia0_28 fa0_1 fa0_2 fa0_4 fa0_6 p1.toInt) (v1 : Int32).toInt (v2 : Int32)) → ((v1 : Int32).toInt ≤ ia0_10.toInt ∨ (v1 : Int32).toInt = 1) → (12 - v1.toInt).toNat < n → lv_has ls 4 [(3, .int v1), (2, .int v2), (0, .ref ha0), (1, .int p1)] → W p l e (headSpec vsX12_followOf ({ frames := 3, cells := 0, slots := 0, locals := 71 })).room s m ([.ref ha0, .int p1] : List Value).toArray below meth c s.heap [] 0 0 (MQ below (vp_Si (fun r => (-2147483648) ≤ r.toInt ∧ r.toInt ≤ 2147483647 ∧ (zBq (zFq fa0_8 fa0_5 ia0_27 ia0_28 fa0_1 fa0_2 fa0_4 fa0_6 p1.toInt) ia0_10.toInt r))) ([.ref ha0, .int p1] : List Value).toArray s 0 0 (fun _ => False)) (F0 m 4 ls []) := by
    intro n
    induction n with
    | zero =>
      intro v1 v2 ls hi132_0 hi132_1 hi132_x0 hi132_x1 hi132_m hl
      exact absurd hi132_m (Nat.not_lt_zero _)
    | succ n ih =>
      intro v1 v2 ls hi132_0 hi132_1 hi132_x0 hi132_x1 hi132_m hl
      have ih133 := ih
      refine lv_iload_n hx hb dX12_followOf_4 rfl (lv_at hl 0 rfl) ?_
      refine lv_aload_n hx hb dX12_followOf_5 rfl (lv_at hl 2 rfl) ?_
      refine va_get (D := (dC, dI)) (ci := 12) (v := .int ia0_10) (C := RX12) (T := TX12) (N := 38) hx hb hts in_X12_followOf_X12 hown hK hP 6 rfl rfl 10 (by decide) (hts (.fieldLink RX12 79 "EachOnHisCueModel" "lines" "I") (by decide +kernel)) (fun _ h9 => h9) rfl dX12_followOf_6 ?_
      refine lv_icmp_ge (tgt := 52) hx hb dX12_followOf_9 (by decide) (fun hc => ?_) (fun hc => ?_)
      · have q134 : ia0_10.toInt ≤ v1.toInt := z_le rfl rfl hc
        refine lv_iload_n hx hb dX12_followOf_52 rfl (lv_at hl 1 rfl) ?_
        exact W.iret (v := v2) hx hb hr (fun t ht hW => ⟨v2, rfl, ⟨z_lo _, z_hi _, (by exact z_bqE (by assumption) (by omega))⟩, ht⟩) (fun _ h => absurd h List.not_mem_nil) dX12_followOf_53
      · have q135 : v1.toInt < ia0_10.toInt := z_nle rfl rfl hc
        refine lv_iload_n hx hb dX12_followOf_12 rfl (lv_at hl 1 rfl) ?_
        refine lv_aload_n hx hb dX12_followOf_13 rfl (lv_at hl 2 rfl) ?_
        refine va_get (D := (dC, dI)) (ci := 12) (v := .ref ha0_1) (C := RX12) (T := TX12) (N := 38) hx hb hts in_X12_followOf_X12 hown hK hP 6 rfl rfl 1 (by decide) (hts (.fieldLink RX12 13 "EachOnHisCueModel" "kind" "[I") (by decide +kernel)) (fun _ h9 => h9) rfl dX12_followOf_14 ?_
        refine lv_aload_n hx hb dX12_followOf_17 rfl (lv_at hl 2 rfl) ?_
        refine va_get (D := (dC, dI)) (ci := 12) (v := .ref ha0_4) (C := RX12) (T := TX12) (N := 38) hx hb hts in_X12_followOf_X12 hown hK hP 6 rfl rfl 4 (by decide) (hts (.fieldLink RX12 22 "EachOnHisCueModel" "whose" "[I") (by decide +kernel)) (fun _ h9 => h9) rfl dX12_followOf_18 ?_
        refine lv_iload_n hx hb dX12_followOf_21 rfl (lv_at hl 0 rfl) ?_
        refine va_iald hx hb hK hP 2 0 rfl rfl (z_in (by omega) (by omega)) dX12_followOf_22 ?_
        refine lv_topi (fun y136 ey136 => ?_)
        have gy136 : y136.toInt = (fa0_4 (v1 : Int32).toNatClampNeg).toInt := by rw [ey136]
        have hy136 : 0 ≤ y136.toInt ∧ y136.toInt ≤ 4 := by rw [ey136]; exact hBfa0_4 _
        obtain ⟨hy136, hy136_⟩ := hy136
        refine va_iald hx hb hK hP 0 0 rfl rfl (z_in (by omega) (by omega)) dX12_followOf_23 ?_
        refine lv_topi (fun y137 ey137 => ?_)
        have gy137 : y137.toInt = (fa0_1 (y136 : Int32).toNatClampNeg).toInt := by rw [ey137]
        refine lv_iconst (v := 4) hx hb dX12_followOf_24 (by decide) ?_
        refine lv_icmp_eq (tgt := 43) hx hb dX12_followOf_25 (by decide) (fun hc => ?_) (fun hc => ?_)
        · have q138 : y137.toInt = 4 := z_eq rfl (by decide) hc
          refine lv_iconst (v := 0) hx hb dX12_followOf_43 (by decide) ?_
          refine lv_ior hx hb dX12_followOf_44 ?_
          refine lv_topi (fun y139 ey139 => ?_)
          refine lv_istore_n (lv' := [(2, .int y139), (3, .int v1), (0, .ref ha0), (1, .int p1)]) hx hb dX12_followOf_45 rfl hl (by decide) rfl (fun ls hl => ?_)
          obtain ⟨y140, ey140⟩ : ∃ y : Int32, y = v1 + 1 := ⟨_, rfl⟩
          refine lv_iinc (v := y140) (lv' := [(3, .int y140), (2, .int y139), (0, .ref ha0), (1, .int p1)]) hx hb dX12_followOf_46 hl (k := 1) rfl (by rw [ey140]; rfl) (by decide) rfl (fun ls hl => ?_)
          have hy140 : y140.toInt = v1.toInt + 1 := by rw [ey140]; exact z_add rfl (by decide) (by omega) (by omega)
          refine lv_goto (tgt := 4) hx hb dX12_followOf_49 (by decide) ?_
          exact ih133 y140 y139 ls (by first | decide | omega) (by first | decide | omega) (z_fqS (by assumption) (by omega) (by omega) (by omega) ey136 ey137 (Or.inr ⟨Or.inl (by omega), ey139⟩)) (by have e0 : (0 : Int32).toInt = 0 := (by decide); have e1 : (1 : Int32).toInt = 1 := (by decide); omega) (by omega) (lv_sub hl [0, 1, 2, 3] rfl)
        · have q141 : y137.toInt ≠ 4 := z_ne rfl (by decide) hc
          refine lv_aload_n hx hb dX12_followOf_28 rfl (lv_at hl 2 rfl) ?_
          refine lv_iload_n hx hb dX12_followOf_29 rfl (lv_at hl 0 rfl) ?_
          refine lv_iload_n hx hb dX12_followOf_30 rfl (lv_at hl 3 rfl) ?_
          refine z_rdi (va_runV (As := [.int v1, .int p1]) (rest := [.int v2]) ⟨hx, hb, hml, hown, hts⟩ (rX12_isCued l dC dI cI cQ ha0 ha0_1 ha0_2 ha0_4 ha0_5 ha0_6 ha0_8 ha0_0 ha0_3 ha0_7 ha0_16 ha0_17 ha0_18 ha0_19 ha0_23 ha0_29 ha0_33 ha0_34 ha0_35 fa0_1 fa0_2 fa0_4 hBfa0_4 fa0_5 hBfa0_5 fa0_6 hBfa0_6 fa0_8 ia0_9 hia0_9l hia0_9h ia0_10 hia0_10l hia0_10h ia0_11 ia0_12 ia0_13 ia0_14 hia0_14l hia0_14h ia0_15 ia0_20 hia0_20l hia0_20h ia0_21 hia0_21l hia0_21h ia0_22 hia0_22l hia0_22h ia0_24 hia0_24l hia0_24h ia0_25 hia0_25l hia0_25h ia0_26 hia0_26l hia0_26h ia0_27 hia0_27l hia0_27h ia0_28 ia0_30 hia0_30l hia0_30h ia0_31 ia0_32 hia0_32l hia0_32h ia0_36 hia0_36l hia0_36h ia0_37 v1 (by first | decide | omega) (by first | decide | omega) p1 hp1l hp1h) (cwV 2 hts gv_X12_followOf_X12_isCued_188 rfl rfl rfl (by decide +kernel) ⟨Nat.le_of_ble_eq_true rfl, Nat.le_of_ble_eq_true rfl⟩) ⟨z_blindR, va_recv hK hP (ci := 12) (q0 := 6) rfl rfl, z_preR hZ hP [0, 1, 2, 3, 4, 5, 6] rfl⟩ rfl rfl hl.1 rfl (lv_room (Nat.le_of_ble_eq_true rfl)) dX12_followOf_31 ⟨Nat.le_of_ble_eq_true rfl, Nat.le_of_ble_eq_true rfl⟩) (fun y142 hy142 => ?_)
          obtain ⟨hy142_0, hy142_1, hy142_2⟩ := hy142
          refine lv_if_eq (tgt := 43) hx hb dX12_followOf_34 (by decide) (fun hc => ?_) (fun hc => ?_)
          · have q143 : y142.toInt = 0 := z_eq rfl (by decide) hc
            refine lv_iconst (v := 0) hx hb dX12_followOf_43 (by decide) ?_
            refine lv_ior hx hb dX12_followOf_44 ?_
            refine lv_topi (fun y144 ey144 => ?_)
            refine lv_istore_n (lv' := [(2, .int y144), (3, .int v1), (0, .ref ha0), (1, .int p1)]) hx hb dX12_followOf_45 rfl hl (by decide) rfl (fun ls hl => ?_)
            obtain ⟨y145, ey145⟩ : ∃ y : Int32, y = v1 + 1 := ⟨_, rfl⟩
            refine lv_iinc (v := y145) (lv' := [(3, .int y145), (2, .int y144), (0, .ref ha0), (1, .int p1)]) hx hb dX12_followOf_46 hl (k := 1) rfl (by rw [ey145]; rfl) (by decide) rfl (fun ls hl => ?_)
            have hy145 : y145.toInt = v1.toInt + 1 := by rw [ey145]; exact z_add rfl (by decide) (by omega) (by omega)
            refine lv_goto (tgt := 4) hx hb dX12_followOf_49 (by decide) ?_
            exact ih133 y145 y144 ls (by first | decide | omega) (by first | decide | omega) (z_fqS (by assumption) (by omega) (by omega) (by omega) ey136 ey137 (Or.inr ⟨Or.inr ⟨_, hy142_2, by omega⟩, ey144⟩)) (by have e0 : (0 : Int32).toInt = 0 := (by decide); have e1 : (1 : Int32).toInt = 1 := (by decide); omega) (by omega) (lv_sub hl [0, 1, 2, 3] rfl)
          · have q146 : y142.toInt ≠ 0 := z_ne rfl (by decide) hc
            refine lv_iconst (v := 1) hx hb dX12_followOf_37 (by decide) ?_
            refine lv_iload_n hx hb dX12_followOf_38 rfl (lv_at hl 0 rfl) ?_
            refine lv_ishl hx hb dX12_followOf_39 ?_
            refine lv_topi (fun y147 ey147 => ?_)
            refine lv_goto (tgt := 44) hx hb dX12_followOf_40 (by decide) ?_
            refine lv_ior hx hb dX12_followOf_44 ?_
            refine lv_topi (fun y148 ey148 => ?_)
            refine lv_istore_n (lv' := [(2, .int y148), (3, .int v1), (0, .ref ha0), (1, .int p1)]) hx hb dX12_followOf_45 rfl hl (by decide) rfl (fun ls hl => ?_)
            obtain ⟨y149, ey149⟩ : ∃ y : Int32, y = v1 + 1 := ⟨_, rfl⟩
            refine lv_iinc (v := y149) (lv' := [(3, .int y149), (2, .int y148), (0, .ref ha0), (1, .int p1)]) hx hb dX12_followOf_46 hl (k := 1) rfl (by rw [ey149]; rfl) (by decide) rfl (fun ls hl => ?_)
            have hy149 : y149.toInt = v1.toInt + 1 := by rw [ey149]; exact z_add rfl (by decide) (by omega) (by omega)
            refine lv_goto (tgt := 4) hx hb dX12_followOf_49 (by decide) ?_
            exact ih133 y149 y148 ls (by first | decide | omega) (by first | decide | omega) (z_fqS (by assumption) (by omega) (by omega) (by omega) ey136 ey137 (Or.inl ⟨by omega, _, hy142_2, by omega, _, ey147, ey148⟩)) (by have e0 : (0 : Int32).toInt = 0 := (by decide); have e1 : (1 : Int32).toInt = 1 := (by decide); omega) (by omega) (lv_sub hl [0, 1, 2, 3] rfl)
  exact hL131 ((12 - (1 : Int32).toInt).toNat + 1) 1 0 ls (by decide) (by decide) (z_bq0 (by decide)) (by have e0 : (0 : Int32).toInt = 0 := (by decide); have e1 : (1 : Int32).toInt = 1 := (by decide); omega) (by omega) hl
set_option maxRecDepth 20000 in
theorem edX12_stepsFrom_0 : decode cX12_stepsFrom 0 = .ok (.iconst 0, 1) ∧ decode cX12_stepsFrom 1 = .ok (.istore_n 2, 1) ∧ decode cX12_stepsFrom 2 = .ok (.iconst 0, 1) ∧ decode cX12_stepsFrom 3 = .ok (.istore_n 3, 1) ∧ decode cX12_stepsFrom 4 = .ok (.iload_n 3, 1) ∧ decode cX12_stepsFrom 5 = .ok (.aload_n 0, 1) ∧ decode cX12_stepsFrom 6 = .ok (.getfield 79, 3) ∧ decode cX12_stepsFrom 9 = .ok (.if_icmp .ge 30, 3) ∧ decode cX12_stepsFrom 12 = .ok (.iload_n 2, 1) ∧ decode cX12_stepsFrom 13 = .ok (.iload_n 1, 1) ∧ decode cX12_stepsFrom 14 = .ok (.iload_n 3, 1) ∧ decode cX12_stepsFrom 15 = .ok (.ishr, 1) := by decide +kernel
theorem dX12_stepsFrom_0 : decode cX12_stepsFrom 0 = .ok (.iconst 0, 1) := edX12_stepsFrom_0.1
theorem dX12_stepsFrom_1 : decode cX12_stepsFrom 1 = .ok (.istore_n 2, 1) := edX12_stepsFrom_0.2.1
theorem dX12_stepsFrom_2 : decode cX12_stepsFrom 2 = .ok (.iconst 0, 1) := edX12_stepsFrom_0.2.2.1
theorem dX12_stepsFrom_3 : decode cX12_stepsFrom 3 = .ok (.istore_n 3, 1) := edX12_stepsFrom_0.2.2.2.1
theorem dX12_stepsFrom_4 : decode cX12_stepsFrom 4 = .ok (.iload_n 3, 1) := edX12_stepsFrom_0.2.2.2.2.1
theorem dX12_stepsFrom_5 : decode cX12_stepsFrom 5 = .ok (.aload_n 0, 1) := edX12_stepsFrom_0.2.2.2.2.2.1
theorem dX12_stepsFrom_6 : decode cX12_stepsFrom 6 = .ok (.getfield 79, 3) := edX12_stepsFrom_0.2.2.2.2.2.2.1
theorem dX12_stepsFrom_9 : decode cX12_stepsFrom 9 = .ok (.if_icmp .ge 30, 3) := edX12_stepsFrom_0.2.2.2.2.2.2.2.1
theorem dX12_stepsFrom_12 : decode cX12_stepsFrom 12 = .ok (.iload_n 2, 1) := edX12_stepsFrom_0.2.2.2.2.2.2.2.2.1
theorem dX12_stepsFrom_13 : decode cX12_stepsFrom 13 = .ok (.iload_n 1, 1) := edX12_stepsFrom_0.2.2.2.2.2.2.2.2.2.1
theorem dX12_stepsFrom_14 : decode cX12_stepsFrom 14 = .ok (.iload_n 3, 1) := edX12_stepsFrom_0.2.2.2.2.2.2.2.2.2.2.1
theorem dX12_stepsFrom_15 : decode cX12_stepsFrom 15 = .ok (.ishr, 1) := edX12_stepsFrom_0.2.2.2.2.2.2.2.2.2.2.2
set_option maxRecDepth 20000 in
theorem edX12_stepsFrom_16 : decode cX12_stepsFrom 16 = .ok (.iconst 1, 1) ∧ decode cX12_stepsFrom 17 = .ok (.iand, 1) ∧ decode cX12_stepsFrom 18 = .ok (.iconst 1, 1) ∧ decode cX12_stepsFrom 19 = .ok (.if_icmp .ne 11, 3) ∧ decode cX12_stepsFrom 22 = .ok (.aload_n 0, 1) ∧ decode cX12_stepsFrom 23 = .ok (.iload_n 3, 1) ∧ decode cX12_stepsFrom 24 = .ok (.invokevirtual 220, 3) ∧ decode cX12_stepsFrom 27 = .ok (.goto 4, 3) ∧ decode cX12_stepsFrom 30 = .ok (.iconst 0, 1) ∧ decode cX12_stepsFrom 31 = .ok (.ior, 1) ∧ decode cX12_stepsFrom 32 = .ok (.istore_n 2, 1) ∧ decode cX12_stepsFrom 33 = .ok (.iinc 3 1, 3) := by decide +kernel
theorem dX12_stepsFrom_16 : decode cX12_stepsFrom 16 = .ok (.iconst 1, 1) := edX12_stepsFrom_16.1
theorem dX12_stepsFrom_17 : decode cX12_stepsFrom 17 = .ok (.iand, 1) := edX12_stepsFrom_16.2.1
theorem dX12_stepsFrom_18 : decode cX12_stepsFrom 18 = .ok (.iconst 1, 1) := edX12_stepsFrom_16.2.2.1
theorem dX12_stepsFrom_19 : decode cX12_stepsFrom 19 = .ok (.if_icmp .ne 11, 3) := edX12_stepsFrom_16.2.2.2.1
theorem dX12_stepsFrom_22 : decode cX12_stepsFrom 22 = .ok (.aload_n 0, 1) := edX12_stepsFrom_16.2.2.2.2.1
theorem dX12_stepsFrom_23 : decode cX12_stepsFrom 23 = .ok (.iload_n 3, 1) := edX12_stepsFrom_16.2.2.2.2.2.1
theorem dX12_stepsFrom_24 : decode cX12_stepsFrom 24 = .ok (.invokevirtual 220, 3) := edX12_stepsFrom_16.2.2.2.2.2.2.1
theorem dX12_stepsFrom_27 : decode cX12_stepsFrom 27 = .ok (.goto 4, 3) := edX12_stepsFrom_16.2.2.2.2.2.2.2.1
theorem dX12_stepsFrom_30 : decode cX12_stepsFrom 30 = .ok (.iconst 0, 1) := edX12_stepsFrom_16.2.2.2.2.2.2.2.2.1
theorem dX12_stepsFrom_31 : decode cX12_stepsFrom 31 = .ok (.ior, 1) := edX12_stepsFrom_16.2.2.2.2.2.2.2.2.2.1
theorem dX12_stepsFrom_32 : decode cX12_stepsFrom 32 = .ok (.istore_n 2, 1) := edX12_stepsFrom_16.2.2.2.2.2.2.2.2.2.2.1
theorem dX12_stepsFrom_33 : decode cX12_stepsFrom 33 = .ok (.iinc 3 1, 3) := edX12_stepsFrom_16.2.2.2.2.2.2.2.2.2.2.2
set_option maxRecDepth 20000 in
theorem edX12_stepsFrom_36 : decode cX12_stepsFrom 36 = .ok (.goto (-32), 3) ∧ decode cX12_stepsFrom 39 = .ok (.iload_n 2, 1) ∧ decode cX12_stepsFrom 40 = .ok (.ireturn, 1) := by decide +kernel
theorem dX12_stepsFrom_36 : decode cX12_stepsFrom 36 = .ok (.goto (-32), 3) := edX12_stepsFrom_36.1
theorem dX12_stepsFrom_39 : decode cX12_stepsFrom 39 = .ok (.iload_n 2, 1) := edX12_stepsFrom_36.2.1
theorem dX12_stepsFrom_40 : decode cX12_stepsFrom 40 = .ok (.ireturn, 1) := edX12_stepsFrom_36.2.2
noncomputable def voX12_stepsFrom : List Cond := [.fieldLink RX12 79 "EachOnHisCueModel" "lines" "I", .methodLink RX12 220 yX12_followOf, .instanceMethod yX12_followOf, .selects RX12 yX12_followOf yX12_followOf, .initialized RX12]
noncomputable def vsX12_stepsFrom : List Cond := .code yX12_stepsFrom cX12_stepsFrom 4 (some .int) :: (voX12_stepsFrom ++ (vsX12_followOf ++ (wsX120)))
theorem zgX12_stepsFrom : zGd vsX12_stepsFrom := z_gdC rfl (z_gdA (z_gdO (by decide +kernel) : zGd voX12_stepsFrom) (z_gdA zgX12_followOf (zgX12)))
theorem in_X12_stepsFrom_X12 : ∀ w ∈ wsX120, w ∈ vsX12_stepsFrom := fun _ h => List.mem_cons_of_mem _ (List.mem_append_right _ (List.mem_append_right _ (h)))
theorem gw_X12_stepsFrom_X12_followOf : GoodIn vsX12_stepsFrom vsX12_followOf := z_gdI (fun _ h => List.mem_cons_of_mem _ (List.mem_append_right _ (List.mem_append_left _ h))) zgX12_followOf
set_option maxRecDepth 20000 in
theorem gv_X12_stepsFrom_X12_followOf_220 : GoodIn vsX12_stepsFrom (wsV RX12 220 RX12 yX12_followOf vsX12_followOf) := goodIn_app (goodIn_of _ (by decide +kernel)) gw_X12_stepsFrom_X12_followOf
set_option maxHeartbeats 4000000 in
set_option maxRecDepth 100000 in
theorem rX12_stepsFrom (l : Launch) (dC : Nat → ClassId) (dI : Nat → Nat → Nat) (cI cQ : ClassId) (ha0 ha0_1 ha0_2 ha0_4 ha0_5 ha0_6 ha0_8 ha0_0 ha0_3 ha0_7 ha0_16 ha0_17 ha0_18 ha0_19 ha0_23 ha0_29 ha0_33 ha0_34 ha0_35 : Nat) (fa0_1 : Nat → Int32) (fa0_2 : Nat → Int32) (fa0_4 : Nat → Int32) (hBfa0_4 : ∀ k, 0 ≤ (fa0_4 k).toInt ∧ (fa0_4 k).toInt ≤ 4) (fa0_5 : Nat → Int32) (hBfa0_5 : ∀ k, 0 ≤ (fa0_5 k).toInt ∧ (fa0_5 k).toInt ≤ 4) (fa0_6 : Nat → Int32) (hBfa0_6 : ∀ k, 0 ≤ (fa0_6 k).toInt ∧ (fa0_6 k).toInt ≤ 9) (fa0_8 : Nat → Int32) (ia0_9 : Int32) (hia0_9l : 0 ≤ ia0_9.toInt) (hia0_9h : ia0_9.toInt ≤ 5) (ia0_10 : Int32) (hia0_10l : 0 ≤ ia0_10.toInt) (hia0_10h : ia0_10.toInt ≤ 12) (ia0_11 : Int32) (ia0_12 : Int32) (ia0_13 : Int32) (ia0_14 : Int32) (hia0_14l : (-9) ≤ ia0_14.toInt) (hia0_14h : ia0_14.toInt ≤ 11) (ia0_15 : Int32) (ia0_20 : Int32) (hia0_20l : 0 ≤ ia0_20.toInt) (hia0_20h : ia0_20.toInt ≤ 80) (ia0_21 : Int32) (hia0_21l : 0 ≤ ia0_21.toInt) (hia0_21h : ia0_21.toInt ≤ 80) (ia0_22 : Int32) (hia0_22l : 0 ≤ ia0_22.toInt) (hia0_22h : ia0_22.toInt ≤ 40) (ia0_24 : Int32) (hia0_24l : 0 ≤ ia0_24.toInt) (hia0_24h : ia0_24.toInt ≤ 1) (ia0_25 : Int32) (hia0_25l : 0 ≤ ia0_25.toInt) (hia0_25h : ia0_25.toInt ≤ 1) (ia0_26 : Int32) (hia0_26l : 0 ≤ ia0_26.toInt) (hia0_26h : ia0_26.toInt ≤ 300) (ia0_27 : Int32) (hia0_27l : (-9) ≤ ia0_27.toInt) (hia0_27h : ia0_27.toInt ≤ 11) (ia0_28 : Int32) (ia0_30 : Int32) (hia0_30l : 0 ≤ ia0_30.toInt) (hia0_30h : ia0_30.toInt ≤ 60) (ia0_31 : Int32) (ia0_32 : Int32) (hia0_32l : 0 ≤ ia0_32.toInt) (hia0_32h : ia0_32.toInt ≤ 1) (ia0_36 : Int32) (hia0_36l : 0 ≤ ia0_36.toInt) (hia0_36h : ia0_36.toInt ≤ 12) (ia0_37 : Int32) (p1 : Int32) : Met l yX12_stepsFrom vsX12_stepsFrom ({ frames := 4, cells := 0, slots := 0, locals := 94 }) (va_Pc [.ref ha0, .int p1] (zRB dC dI cI cQ [(ha0_1, .inl (cI, 5, .inl fa0_1)), (ha0_2, .inl (cI, 5, .inl fa0_2)), (ha0_4, .inl (cI, 12, .inl fa0_4)), (ha0_5, .inl (cI, 12, .inl fa0_5)), (ha0_6, .inl (cI, 12, .inl fa0_6)), (ha0_8, .inl (cI, 60, .inl fa0_8)), (ha0, .inr (12, [.ref ha0_0, .ref ha0_1, .ref ha0_2, .ref ha0_3, .ref ha0_4, .ref ha0_5, .ref ha0_6, .ref ha0_7, .ref ha0_8, .int ia0_9, .int ia0_10, .int ia0_11, .int ia0_12, .int ia0_13, .int ia0_14, .int ia0_15, .ref ha0_16, .ref ha0_17, .ref ha0_18, .ref ha0_19, .int ia0_20, .int ia0_21, .int ia0_22, .ref ha0_23, .int ia0_24, .int ia0_25, .int ia0_26, .int ia0_27, .int ia0_28, .ref ha0_29, .int ia0_30, .int ia0_31, .int ia0_32, .ref ha0_33, .ref ha0_34, .ref ha0_35, .int ia0_36, .int ia0_37]))])) (vp_Si (fun r => (-2147483648) ≤ r.toInt ∧ r.toInt ≤ 2147483647)) 0 0 (fun _ => False) := by
  refine Met.ofW (cc := cX12_stepsFrom) (maxL := 4) (ret := (some .int)) (by decide) rfl ?_
  intro p e s m args below meth c s₁ B hml hv
  obtain ⟨rfl, hP, hZ⟩ := hv
  obtain ⟨hK, hAO, hN⟩ := id hZ
  have hx := B.exec
  have hb := B.bytes
  have hr := B.returns
  have hts := atoms_spec (ws := vsX12_stepsFrom) B.pre
  have hown : s.vm.findClass RX12 = some m.cls := findClass_of_methodNamed B.named
  have hlocks := B.notSynchronized
  have hp1l := z_lo p1
  have hp1h := z_hi p1
  have hl := lv_entry ([.ref ha0, .int p1]) (n := 4) (Nat.le_of_ble_eq_true rfl)
  rw [lg_entry_eq]
  generalize (lg_sl ([.ref ha0, .int p1]) ++ List.replicate (4 - (lg_sl ([.ref ha0, .int p1])).length) Slot.unset).toArray = ls at hl ⊢
  have hl : lv_has ls 4 [(0, .ref ha0), (1, .int p1)] := hl
  refine lv_iconst (v := 0) hx hb dX12_stepsFrom_0 (by decide) ?_
  refine lv_istore_n (lv' := [(2, .int 0), (0, .ref ha0), (1, .int p1)]) hx hb dX12_stepsFrom_1 rfl hl (by decide) rfl (fun ls hl => ?_)
  refine lv_iconst (v := 0) hx hb dX12_stepsFrom_2 (by decide) ?_
  refine lv_istore_n (lv' := [(3, .int 0), (2, .int 0), (0, .ref ha0), (1, .int p1)]) hx hb dX12_stepsFrom_3 rfl hl (by decide) rfl (fun ls hl => ?_)
  have hL91 : ∀ (n : Nat) (v1 : Int32) (v2 : Int32) (ls : Array Slot), 0 ≤ v1.toInt → v1.toInt ≤ 12 → (12 - v1.toInt).toNat < n → lv_has ls 4 [(3, .int v1), (2, .int v2), (0, .ref ha0), (1, .int p1)] → W p l e (headSpec vsX12_stepsFrom ({ frames := 4, cells := 0, slots := 0, locals := 94 })).room s m ([.ref ha0, .int p1] : List Value).toArray below meth c s.heap [] 0 0 (MQ below (vp_Si (fun r => (-2147483648) ≤ r.toInt ∧ r.toInt ≤ 2147483647)) ([.ref ha0, .int p1] : List Value).toArray s 0 0 (fun _ => False)) (F0 m 4 ls []) := by
    intro n
    induction n with
    | zero =>
      intro v1 v2 ls hi92_0 hi92_1 hi92_m hl
      exact absurd hi92_m (Nat.not_lt_zero _)
    | succ n ih =>
      intro v1 v2 ls hi92_0 hi92_1 hi92_m hl
      have ih93 := ih
      refine lv_iload_n hx hb dX12_stepsFrom_4 rfl (lv_at hl 0 rfl) ?_
      refine lv_aload_n hx hb dX12_stepsFrom_5 rfl (lv_at hl 2 rfl) ?_
      refine va_get (D := (dC, dI)) (ci := 12) (v := .int ia0_10) (C := RX12) (T := TX12) (N := 38) hx hb hts in_X12_stepsFrom_X12 hown hK hP 6 rfl rfl 10 (by decide) (hts (.fieldLink RX12 79 "EachOnHisCueModel" "lines" "I") (by decide +kernel)) (fun _ h9 => h9) rfl dX12_stepsFrom_6 ?_
      refine lv_icmp_ge (tgt := 39) hx hb dX12_stepsFrom_9 (by decide) (fun hc => ?_) (fun hc => ?_)
      · have q94 : ia0_10.toInt ≤ v1.toInt := z_le rfl rfl hc
        refine lv_iload_n hx hb dX12_stepsFrom_39 rfl (lv_at hl 1 rfl) ?_
        exact W.iret (v := v2) hx hb hr (fun t ht hW => ⟨v2, rfl, ⟨z_lo _, z_hi _⟩, ht⟩) (fun _ h => absurd h List.not_mem_nil) dX12_stepsFrom_40
      · have q95 : v1.toInt < ia0_10.toInt := z_nle rfl rfl hc
        refine lv_iload_n hx hb dX12_stepsFrom_12 rfl (lv_at hl 1 rfl) ?_
        refine lv_iload_n hx hb dX12_stepsFrom_13 rfl (lv_at hl 3 rfl) ?_
        refine lv_iload_n hx hb dX12_stepsFrom_14 rfl (lv_at hl 0 rfl) ?_
        refine lv_ishr hx hb dX12_stepsFrom_15 ?_
        refine lv_topi (fun y96 ey96 => ?_)
        refine lv_iconst (v := 1) hx hb dX12_stepsFrom_16 (by decide) ?_
        refine lv_iand hx hb dX12_stepsFrom_17 ?_
        refine lv_topi (fun y97 ey97 => ?_)
        have hy97 : 0 ≤ y97.toInt ∧ y97.toInt ≤ 1 := by rw [ey97]; exact z_and1 _
        obtain ⟨hy97, hy97_⟩ := hy97
        refine lv_iconst (v := 1) hx hb dX12_stepsFrom_18 (by decide) ?_
        refine lv_icmp_ne (tgt := 30) hx hb dX12_stepsFrom_19 (by decide) (fun hc => ?_) (fun hc => ?_)
        · have q98 : y97.toInt ≠ 1 := z_ne rfl (by decide) hc
          refine lv_iconst (v := 0) hx hb dX12_stepsFrom_30 (by decide) ?_
          refine lv_ior hx hb dX12_stepsFrom_31 ?_
          refine lv_topi (fun y99 ey99 => ?_)
          refine lv_istore_n (lv' := [(2, .int y99), (3, .int v1), (0, .ref ha0), (1, .int p1)]) hx hb dX12_stepsFrom_32 rfl hl (by decide) rfl (fun ls hl => ?_)
          obtain ⟨y100, ey100⟩ : ∃ y : Int32, y = v1 + 1 := ⟨_, rfl⟩
          refine lv_iinc (v := y100) (lv' := [(3, .int y100), (2, .int y99), (0, .ref ha0), (1, .int p1)]) hx hb dX12_stepsFrom_33 hl (k := 1) rfl (by rw [ey100]; rfl) (by decide) rfl (fun ls hl => ?_)
          have hy100 : y100.toInt = v1.toInt + 1 := by rw [ey100]; exact z_add rfl (by decide) (by omega) (by omega)
          refine lv_goto (tgt := 4) hx hb dX12_stepsFrom_36 (by decide) ?_
          exact ih93 y100 y99 ls (by first | decide | omega) (by first | decide | omega) (by omega) (lv_sub hl [0, 1, 2, 3] rfl)
        · have q101 : y97.toInt = 1 := z_eq rfl (by decide) hc
          refine lv_aload_n hx hb dX12_stepsFrom_22 rfl (lv_at hl 2 rfl) ?_
          refine lv_iload_n hx hb dX12_stepsFrom_23 rfl (lv_at hl 0 rfl) ?_
          refine z_rdi (va_runV (As := [.int v1]) (rest := [.int v2]) ⟨hx, hb, hml, hown, hts⟩ (rX12_followOf l dC dI cI cQ ha0 ha0_1 ha0_2 ha0_4 ha0_5 ha0_6 ha0_8 ha0_0 ha0_3 ha0_7 ha0_16 ha0_17 ha0_18 ha0_19 ha0_23 ha0_29 ha0_33 ha0_34 ha0_35 fa0_1 fa0_2 fa0_4 hBfa0_4 fa0_5 hBfa0_5 fa0_6 hBfa0_6 fa0_8 ia0_9 hia0_9l hia0_9h ia0_10 hia0_10l hia0_10h ia0_11 ia0_12 ia0_13 ia0_14 hia0_14l hia0_14h ia0_15 ia0_20 hia0_20l hia0_20h ia0_21 hia0_21l hia0_21h ia0_22 hia0_22l hia0_22h ia0_24 hia0_24l hia0_24h ia0_25 hia0_25l hia0_25h ia0_26 hia0_26l hia0_26h ia0_27 hia0_27l hia0_27h ia0_28 ia0_30 hia0_30l hia0_30h ia0_31 ia0_32 hia0_32l hia0_32h ia0_36 hia0_36l hia0_36h ia0_37 v1 (by first | decide | omega) (by first | decide | omega)) (cwV 1 hts gv_X12_stepsFrom_X12_followOf_220 rfl rfl rfl (by decide +kernel) ⟨Nat.le_of_ble_eq_true rfl, Nat.le_of_ble_eq_true rfl⟩) ⟨z_blindR, va_recv hK hP (ci := 12) (q0 := 6) rfl rfl, z_preR hZ hP [0, 1, 2, 3, 4, 5, 6] rfl⟩ rfl rfl hl.1 rfl (lv_room (Nat.le_of_ble_eq_true rfl)) dX12_stepsFrom_24 ⟨Nat.le_of_ble_eq_true rfl, Nat.le_of_ble_eq_true rfl⟩) (fun y102 hy102 => ?_)
          obtain ⟨hy102_0, hy102_1, hy102_2⟩ := hy102
          refine lv_goto (tgt := 31) hx hb dX12_stepsFrom_27 (by decide) ?_
          refine lv_ior hx hb dX12_stepsFrom_31 ?_
          refine lv_topi (fun y103 ey103 => ?_)
          refine lv_istore_n (lv' := [(2, .int y103), (3, .int v1), (0, .ref ha0), (1, .int p1)]) hx hb dX12_stepsFrom_32 rfl hl (by decide) rfl (fun ls hl => ?_)
          obtain ⟨y104, ey104⟩ : ∃ y : Int32, y = v1 + 1 := ⟨_, rfl⟩
          refine lv_iinc (v := y104) (lv' := [(3, .int y104), (2, .int y103), (0, .ref ha0), (1, .int p1)]) hx hb dX12_stepsFrom_33 hl (k := 1) rfl (by rw [ey104]; rfl) (by decide) rfl (fun ls hl => ?_)
          have hy104 : y104.toInt = v1.toInt + 1 := by rw [ey104]; exact z_add rfl (by decide) (by omega) (by omega)
          refine lv_goto (tgt := 4) hx hb dX12_stepsFrom_36 (by decide) ?_
          exact ih93 y104 y103 ls (by first | decide | omega) (by first | decide | omega) (by omega) (lv_sub hl [0, 1, 2, 3] rfl)
  exact hL91 ((12 - (0 : Int32).toInt).toNat + 1) 0 0 ls (by decide) (by decide) (by omega) hl
set_option maxRecDepth 20000 in
theorem edX12_shortest_0 : decode cX12_shortest 0 = .ok (.iconst 1, 1) ∧ decode cX12_shortest 1 = .ok (.istore_n 1, 1) ∧ decode cX12_shortest 2 = .ok (.iconst 0, 1) ∧ decode cX12_shortest 3 = .ok (.istore_n 2, 1) ∧ decode cX12_shortest 4 = .ok (.iload_n 2, 1) ∧ decode cX12_shortest 5 = .ok (.bipush 12, 2) ∧ decode cX12_shortest 7 = .ok (.if_icmp .ge 33, 3) ∧ decode cX12_shortest 10 = .ok (.iload_n 1, 1) ∧ decode cX12_shortest 11 = .ok (.aload_n 0, 1) ∧ decode cX12_shortest 12 = .ok (.getfield 79, 3) ∧ decode cX12_shortest 15 = .ok (.iconst 1, 1) ∧ decode cX12_shortest 16 = .ok (.isub, 1) := by decide +kernel
theorem dX12_shortest_0 : decode cX12_shortest 0 = .ok (.iconst 1, 1) := edX12_shortest_0.1
theorem dX12_shortest_1 : decode cX12_shortest 1 = .ok (.istore_n 1, 1) := edX12_shortest_0.2.1
theorem dX12_shortest_2 : decode cX12_shortest 2 = .ok (.iconst 0, 1) := edX12_shortest_0.2.2.1
theorem dX12_shortest_3 : decode cX12_shortest 3 = .ok (.istore_n 2, 1) := edX12_shortest_0.2.2.2.1
theorem dX12_shortest_4 : decode cX12_shortest 4 = .ok (.iload_n 2, 1) := edX12_shortest_0.2.2.2.2.1
theorem dX12_shortest_5 : decode cX12_shortest 5 = .ok (.bipush 12, 2) := edX12_shortest_0.2.2.2.2.2.1
theorem dX12_shortest_7 : decode cX12_shortest 7 = .ok (.if_icmp .ge 33, 3) := edX12_shortest_0.2.2.2.2.2.2.1
theorem dX12_shortest_10 : decode cX12_shortest 10 = .ok (.iload_n 1, 1) := edX12_shortest_0.2.2.2.2.2.2.2.1
theorem dX12_shortest_11 : decode cX12_shortest 11 = .ok (.aload_n 0, 1) := edX12_shortest_0.2.2.2.2.2.2.2.2.1
theorem dX12_shortest_12 : decode cX12_shortest 12 = .ok (.getfield 79, 3) := edX12_shortest_0.2.2.2.2.2.2.2.2.2.1
theorem dX12_shortest_15 : decode cX12_shortest 15 = .ok (.iconst 1, 1) := edX12_shortest_0.2.2.2.2.2.2.2.2.2.2.1
theorem dX12_shortest_16 : decode cX12_shortest 16 = .ok (.isub, 1) := edX12_shortest_0.2.2.2.2.2.2.2.2.2.2.2
set_option maxRecDepth 20000 in
theorem edX12_shortest_17 : decode cX12_shortest 17 = .ok (.ishr, 1) ∧ decode cX12_shortest 18 = .ok (.iconst 1, 1) ∧ decode cX12_shortest 19 = .ok (.iand, 1) ∧ decode cX12_shortest 20 = .ok (.iconst 1, 1) ∧ decode cX12_shortest 21 = .ok (.if_icmp .ne 5, 3) ∧ decode cX12_shortest 24 = .ok (.iload_n 2, 1) ∧ decode cX12_shortest 25 = .ok (.ireturn, 1) ∧ decode cX12_shortest 26 = .ok (.iload_n 1, 1) ∧ decode cX12_shortest 27 = .ok (.aload_n 0, 1) ∧ decode cX12_shortest 28 = .ok (.iload_n 1, 1) ∧ decode cX12_shortest 29 = .ok (.invokevirtual 223, 3) ∧ decode cX12_shortest 32 = .ok (.ior, 1) := by decide +kernel
theorem dX12_shortest_17 : decode cX12_shortest 17 = .ok (.ishr, 1) := edX12_shortest_17.1
theorem dX12_shortest_18 : decode cX12_shortest 18 = .ok (.iconst 1, 1) := edX12_shortest_17.2.1
theorem dX12_shortest_19 : decode cX12_shortest 19 = .ok (.iand, 1) := edX12_shortest_17.2.2.1
theorem dX12_shortest_20 : decode cX12_shortest 20 = .ok (.iconst 1, 1) := edX12_shortest_17.2.2.2.1
theorem dX12_shortest_21 : decode cX12_shortest 21 = .ok (.if_icmp .ne 5, 3) := edX12_shortest_17.2.2.2.2.1
theorem dX12_shortest_24 : decode cX12_shortest 24 = .ok (.iload_n 2, 1) := edX12_shortest_17.2.2.2.2.2.1
theorem dX12_shortest_25 : decode cX12_shortest 25 = .ok (.ireturn, 1) := edX12_shortest_17.2.2.2.2.2.2.1
theorem dX12_shortest_26 : decode cX12_shortest 26 = .ok (.iload_n 1, 1) := edX12_shortest_17.2.2.2.2.2.2.2.1
theorem dX12_shortest_27 : decode cX12_shortest 27 = .ok (.aload_n 0, 1) := edX12_shortest_17.2.2.2.2.2.2.2.2.1
theorem dX12_shortest_28 : decode cX12_shortest 28 = .ok (.iload_n 1, 1) := edX12_shortest_17.2.2.2.2.2.2.2.2.2.1
theorem dX12_shortest_29 : decode cX12_shortest 29 = .ok (.invokevirtual 223, 3) := edX12_shortest_17.2.2.2.2.2.2.2.2.2.2.1
theorem dX12_shortest_32 : decode cX12_shortest 32 = .ok (.ior, 1) := edX12_shortest_17.2.2.2.2.2.2.2.2.2.2.2
set_option maxRecDepth 20000 in
theorem edX12_shortest_33 : decode cX12_shortest 33 = .ok (.istore_n 1, 1) ∧ decode cX12_shortest 34 = .ok (.iinc 2 1, 3) ∧ decode cX12_shortest 37 = .ok (.goto (-33), 3) ∧ decode cX12_shortest 40 = .ok (.bipush (-9), 2) ∧ decode cX12_shortest 42 = .ok (.ireturn, 1) := by decide +kernel
theorem dX12_shortest_33 : decode cX12_shortest 33 = .ok (.istore_n 1, 1) := edX12_shortest_33.1
theorem dX12_shortest_34 : decode cX12_shortest 34 = .ok (.iinc 2 1, 3) := edX12_shortest_33.2.1
theorem dX12_shortest_37 : decode cX12_shortest 37 = .ok (.goto (-33), 3) := edX12_shortest_33.2.2.1
theorem dX12_shortest_40 : decode cX12_shortest 40 = .ok (.bipush (-9), 2) := edX12_shortest_33.2.2.2.1
theorem dX12_shortest_42 : decode cX12_shortest 42 = .ok (.ireturn, 1) := edX12_shortest_33.2.2.2.2
noncomputable def voX12_shortest : List Cond := [.fieldLink RX12 79 "EachOnHisCueModel" "lines" "I", .methodLink RX12 223 yX12_stepsFrom, .instanceMethod yX12_stepsFrom, .selects RX12 yX12_stepsFrom yX12_stepsFrom, .initialized RX12]
noncomputable def vsX12_shortest : List Cond := .code yX12_shortest cX12_shortest 3 (some .int) :: (voX12_shortest ++ (vsX12_stepsFrom ++ (wsX120)))
theorem zgX12_shortest : zGd vsX12_shortest := z_gdC rfl (z_gdA (z_gdO (by decide +kernel) : zGd voX12_shortest) (z_gdA zgX12_stepsFrom (zgX12)))
theorem in_X12_shortest_X12 : ∀ w ∈ wsX120, w ∈ vsX12_shortest := fun _ h => List.mem_cons_of_mem _ (List.mem_append_right _ (List.mem_append_right _ (h)))
theorem gw_X12_shortest_X12_stepsFrom : GoodIn vsX12_shortest vsX12_stepsFrom := z_gdI (fun _ h => List.mem_cons_of_mem _ (List.mem_append_right _ (List.mem_append_left _ h))) zgX12_stepsFrom
set_option maxRecDepth 20000 in
theorem gv_X12_shortest_X12_stepsFrom_223 : GoodIn vsX12_shortest (wsV RX12 223 RX12 yX12_stepsFrom vsX12_stepsFrom) := goodIn_app (goodIn_of _ (by decide +kernel)) gw_X12_shortest_X12_stepsFrom
set_option maxHeartbeats 4000000 in
set_option maxRecDepth 100000 in
theorem rX12_shortest (l : Launch) (dC : Nat → ClassId) (dI : Nat → Nat → Nat) (cI cQ : ClassId) (ha0 ha0_1 ha0_2 ha0_4 ha0_5 ha0_6 ha0_8 ha0_0 ha0_3 ha0_7 ha0_16 ha0_17 ha0_18 ha0_19 ha0_23 ha0_29 ha0_33 ha0_34 ha0_35 : Nat) (fa0_1 : Nat → Int32) (fa0_2 : Nat → Int32) (fa0_4 : Nat → Int32) (hBfa0_4 : ∀ k, 0 ≤ (fa0_4 k).toInt ∧ (fa0_4 k).toInt ≤ 4) (fa0_5 : Nat → Int32) (hBfa0_5 : ∀ k, 0 ≤ (fa0_5 k).toInt ∧ (fa0_5 k).toInt ≤ 4) (fa0_6 : Nat → Int32) (hBfa0_6 : ∀ k, 0 ≤ (fa0_6 k).toInt ∧ (fa0_6 k).toInt ≤ 9) (fa0_8 : Nat → Int32) (ia0_9 : Int32) (hia0_9l : 0 ≤ ia0_9.toInt) (hia0_9h : ia0_9.toInt ≤ 5) (ia0_10 : Int32) (hia0_10l : 0 ≤ ia0_10.toInt) (hia0_10h : ia0_10.toInt ≤ 12) (ia0_11 : Int32) (ia0_12 : Int32) (ia0_13 : Int32) (ia0_14 : Int32) (hia0_14l : (-9) ≤ ia0_14.toInt) (hia0_14h : ia0_14.toInt ≤ 11) (ia0_15 : Int32) (ia0_20 : Int32) (hia0_20l : 0 ≤ ia0_20.toInt) (hia0_20h : ia0_20.toInt ≤ 80) (ia0_21 : Int32) (hia0_21l : 0 ≤ ia0_21.toInt) (hia0_21h : ia0_21.toInt ≤ 80) (ia0_22 : Int32) (hia0_22l : 0 ≤ ia0_22.toInt) (hia0_22h : ia0_22.toInt ≤ 40) (ia0_24 : Int32) (hia0_24l : 0 ≤ ia0_24.toInt) (hia0_24h : ia0_24.toInt ≤ 1) (ia0_25 : Int32) (hia0_25l : 0 ≤ ia0_25.toInt) (hia0_25h : ia0_25.toInt ≤ 1) (ia0_26 : Int32) (hia0_26l : 0 ≤ ia0_26.toInt) (hia0_26h : ia0_26.toInt ≤ 300) (ia0_27 : Int32) (hia0_27l : (-9) ≤ ia0_27.toInt) (hia0_27h : ia0_27.toInt ≤ 11) (ia0_28 : Int32) (ia0_30 : Int32) (hia0_30l : 0 ≤ ia0_30.toInt) (hia0_30h : ia0_30.toInt ≤ 60) (ia0_31 : Int32) (ia0_32 : Int32) (hia0_32l : 0 ≤ ia0_32.toInt) (hia0_32h : ia0_32.toInt ≤ 1) (ia0_36 : Int32) (hia0_36l : 0 ≤ ia0_36.toInt) (hia0_36h : ia0_36.toInt ≤ 12) (ia0_37 : Int32) : Met l yX12_shortest vsX12_shortest ({ frames := 5, cells := 0, slots := 0, locals := 117 }) (va_Pc [.ref ha0] (zRB dC dI cI cQ [(ha0_1, .inl (cI, 5, .inl fa0_1)), (ha0_2, .inl (cI, 5, .inl fa0_2)), (ha0_4, .inl (cI, 12, .inl fa0_4)), (ha0_5, .inl (cI, 12, .inl fa0_5)), (ha0_6, .inl (cI, 12, .inl fa0_6)), (ha0_8, .inl (cI, 60, .inl fa0_8)), (ha0, .inr (12, [.ref ha0_0, .ref ha0_1, .ref ha0_2, .ref ha0_3, .ref ha0_4, .ref ha0_5, .ref ha0_6, .ref ha0_7, .ref ha0_8, .int ia0_9, .int ia0_10, .int ia0_11, .int ia0_12, .int ia0_13, .int ia0_14, .int ia0_15, .ref ha0_16, .ref ha0_17, .ref ha0_18, .ref ha0_19, .int ia0_20, .int ia0_21, .int ia0_22, .ref ha0_23, .int ia0_24, .int ia0_25, .int ia0_26, .int ia0_27, .int ia0_28, .ref ha0_29, .int ia0_30, .int ia0_31, .int ia0_32, .ref ha0_33, .ref ha0_34, .ref ha0_35, .int ia0_36, .int ia0_37]))])) (vp_Si (fun r => (-9) ≤ r.toInt ∧ r.toInt ≤ 11)) 0 0 (fun _ => False) := by
  refine Met.ofW (cc := cX12_shortest) (maxL := 3) (ret := (some .int)) (by decide) rfl ?_
  intro p e s m args below meth c s₁ B hml hv
  obtain ⟨rfl, hP, hZ⟩ := hv
  obtain ⟨hK, hAO, hN⟩ := id hZ
  have hx := B.exec
  have hb := B.bytes
  have hr := B.returns
  have hts := atoms_spec (ws := vsX12_shortest) B.pre
  have hown : s.vm.findClass RX12 = some m.cls := findClass_of_methodNamed B.named
  have hlocks := B.notSynchronized
  have hl := lv_entry ([.ref ha0]) (n := 3) (Nat.le_of_ble_eq_true rfl)
  rw [lg_entry_eq]
  generalize (lg_sl ([.ref ha0]) ++ List.replicate (3 - (lg_sl ([.ref ha0])).length) Slot.unset).toArray = ls at hl ⊢
  have hl : lv_has ls 3 [(0, .ref ha0)] := hl
  refine lv_iconst (v := 1) hx hb dX12_shortest_0 (by decide) ?_
  refine lv_istore_n (lv' := [(1, .int 1), (0, .ref ha0)]) hx hb dX12_shortest_1 rfl hl (by decide) rfl (fun ls hl => ?_)
  refine lv_iconst (v := 0) hx hb dX12_shortest_2 (by decide) ?_
  refine lv_istore_n (lv' := [(2, .int 0), (1, .int 1), (0, .ref ha0)]) hx hb dX12_shortest_3 rfl hl (by decide) rfl (fun ls hl => ?_)
  have hL83 : ∀ (n : Nat) (v1 : Int32) (v2 : Int32) (ls : Array Slot), 0 ≤ v1.toInt → v1.toInt ≤ 12 → (12 - v1.toInt).toNat < n → lv_has ls 3 [(2, .int v1), (1, .int v2), (0, .ref ha0)] → W p l e (headSpec vsX12_shortest ({ frames := 5, cells := 0, slots := 0, locals := 117 })).room s m ([.ref ha0] : List Value).toArray below meth c s.heap [] 0 0 (MQ below (vp_Si (fun r => (-9) ≤ r.toInt ∧ r.toInt ≤ 11)) ([.ref ha0] : List Value).toArray s 0 0 (fun _ => False)) (F0 m 4 ls []) := by
    intro n
    induction n with
    | zero =>
      intro v1 v2 ls hi84_0 hi84_1 hi84_m hl
      exact absurd hi84_m (Nat.not_lt_zero _)
    | succ n ih =>
      intro v1 v2 ls hi84_0 hi84_1 hi84_m hl
      have ih85 := ih
      refine lv_iload_n hx hb dX12_shortest_4 rfl (lv_at hl 0 rfl) ?_
      refine lv_bipush (v := 12) hx hb dX12_shortest_5 (by decide) ?_
      refine lv_icmp_ge (tgt := 40) hx hb dX12_shortest_7 (by decide) (fun hc => ?_) (fun hc => ?_)
      · have q86 : 12 ≤ v1.toInt := z_le (by decide) rfl hc
        refine lv_bipush (v := (-9)) hx hb dX12_shortest_40 (by decide) ?_
        exact W.iret (v := (-9)) hx hb hr (fun t ht hW => ⟨(-9), rfl, ⟨by first | decide | omega, by first | decide | omega⟩, ht⟩) (fun _ h => absurd h List.not_mem_nil) dX12_shortest_42
      · have q87 : v1.toInt < 12 := z_nle (by decide) rfl hc
        refine lv_iload_n hx hb dX12_shortest_10 rfl (lv_at hl 1 rfl) ?_
        refine lv_aload_n hx hb dX12_shortest_11 rfl (lv_at hl 2 rfl) ?_
        refine va_get (D := (dC, dI)) (ci := 12) (v := .int ia0_10) (C := RX12) (T := TX12) (N := 38) hx hb hts in_X12_shortest_X12 hown hK hP 6 rfl rfl 10 (by decide) (hts (.fieldLink RX12 79 "EachOnHisCueModel" "lines" "I") (by decide +kernel)) (fun _ h9 => h9) rfl dX12_shortest_12 ?_
        refine lv_iconst (v := 1) hx hb dX12_shortest_15 (by decide) ?_
        refine lv_isub hx hb dX12_shortest_16 ?_
        refine lv_topi (fun y88 ey88 => ?_)
        have hy88 : y88.toInt = ia0_10.toInt - 1 := by rw [ey88]; exact z_sub rfl (by decide) (by omega) (by omega)
        refine lv_ishr hx hb dX12_shortest_17 ?_
        refine lv_topi (fun y89 ey89 => ?_)
        refine lv_iconst (v := 1) hx hb dX12_shortest_18 (by decide) ?_
        refine lv_iand hx hb dX12_shortest_19 ?_
        refine lv_topi (fun y90 ey90 => ?_)
        have hy90 : 0 ≤ y90.toInt ∧ y90.toInt ≤ 1 := by rw [ey90]; exact z_and1 _
        obtain ⟨hy90, hy90_⟩ := hy90
        refine lv_iconst (v := 1) hx hb dX12_shortest_20 (by decide) ?_
        refine lv_icmp_ne (tgt := 26) hx hb dX12_shortest_21 (by decide) (fun hc => ?_) (fun hc => ?_)
        · have q91 : y90.toInt ≠ 1 := z_ne rfl (by decide) hc
          refine lv_iload_n hx hb dX12_shortest_26 rfl (lv_at hl 1 rfl) ?_
          refine lv_aload_n hx hb dX12_shortest_27 rfl (lv_at hl 2 rfl) ?_
          refine lv_iload_n hx hb dX12_shortest_28 rfl (lv_at hl 1 rfl) ?_
          refine z_rdi (va_runV (As := [.int v2]) (rest := [.int v2]) ⟨hx, hb, hml, hown, hts⟩ (rX12_stepsFrom l dC dI cI cQ ha0 ha0_1 ha0_2 ha0_4 ha0_5 ha0_6 ha0_8 ha0_0 ha0_3 ha0_7 ha0_16 ha0_17 ha0_18 ha0_19 ha0_23 ha0_29 ha0_33 ha0_34 ha0_35 fa0_1 fa0_2 fa0_4 hBfa0_4 fa0_5 hBfa0_5 fa0_6 hBfa0_6 fa0_8 ia0_9 hia0_9l hia0_9h ia0_10 hia0_10l hia0_10h ia0_11 ia0_12 ia0_13 ia0_14 hia0_14l hia0_14h ia0_15 ia0_20 hia0_20l hia0_20h ia0_21 hia0_21l hia0_21h ia0_22 hia0_22l hia0_22h ia0_24 hia0_24l hia0_24h ia0_25 hia0_25l hia0_25h ia0_26 hia0_26l hia0_26h ia0_27 hia0_27l hia0_27h ia0_28 ia0_30 hia0_30l hia0_30h ia0_31 ia0_32 hia0_32l hia0_32h ia0_36 hia0_36l hia0_36h ia0_37 v2) (cwV 1 hts gv_X12_shortest_X12_stepsFrom_223 rfl rfl rfl (by decide +kernel) ⟨Nat.le_of_ble_eq_true rfl, Nat.le_of_ble_eq_true rfl⟩) ⟨z_blindR, va_recv hK hP (ci := 12) (q0 := 6) rfl rfl, z_preR hZ hP [0, 1, 2, 3, 4, 5, 6] rfl⟩ rfl rfl hl.1 rfl (lv_room (Nat.le_of_ble_eq_true rfl)) dX12_shortest_29 ⟨Nat.le_of_ble_eq_true rfl, Nat.le_of_ble_eq_true rfl⟩) (fun y92 hy92 => ?_)
          obtain ⟨hy92_0, hy92_1⟩ := hy92
          refine lv_ior hx hb dX12_shortest_32 ?_
          refine lv_topi (fun y93 ey93 => ?_)
          refine lv_istore_n (lv' := [(1, .int y93), (2, .int v1), (0, .ref ha0)]) hx hb dX12_shortest_33 rfl hl (by decide) rfl (fun ls hl => ?_)
          obtain ⟨y94, ey94⟩ : ∃ y : Int32, y = v1 + 1 := ⟨_, rfl⟩
          refine lv_iinc (v := y94) (lv' := [(2, .int y94), (1, .int y93), (0, .ref ha0)]) hx hb dX12_shortest_34 hl (k := 1) rfl (by rw [ey94]; rfl) (by decide) rfl (fun ls hl => ?_)
          have hy94 : y94.toInt = v1.toInt + 1 := by rw [ey94]; exact z_add rfl (by decide) (by omega) (by omega)
          refine lv_goto (tgt := 4) hx hb dX12_shortest_37 (by decide) ?_
          exact ih85 y94 y93 ls (by first | decide | omega) (by first | decide | omega) (by omega) (lv_sub hl [0, 1, 2] rfl)
        · have q95 : y90.toInt = 1 := z_eq rfl (by decide) hc
          refine lv_iload_n hx hb dX12_shortest_24 rfl (lv_at hl 0 rfl) ?_
          exact W.iret (v := v1) hx hb hr (fun t ht hW => ⟨v1, rfl, ⟨by first | decide | omega, by first | decide | omega⟩, ht⟩) (fun _ h => absurd h List.not_mem_nil) dX12_shortest_25
  exact hL83 ((12 - (0 : Int32).toInt).toNat + 1) 0 1 ls (by decide) (by decide) (by omega) hl
