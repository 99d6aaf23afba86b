set_option maxRecDepth 20000 in
theorem edX2_firstOtherThanSaid_0 : decode cX2_firstOtherThanSaid 0 = .ok (.aload_n 0, 1) ∧ decode cX2_firstOtherThanSaid 1 = .ok (.getfield 21, 3) ∧ decode cX2_firstOtherThanSaid 4 = .ok (.invokevirtual 70, 3) ∧ decode cX2_firstOtherThanSaid 7 = .ok (.iconst 0, 1) ∧ decode cX2_firstOtherThanSaid 8 = .ok (.istore 4, 2) ∧ decode cX2_firstOtherThanSaid 10 = .ok (.iload 4, 2) ∧ decode cX2_firstOtherThanSaid 12 = .ok (.iload_n 3, 1) ∧ decode cX2_firstOtherThanSaid 13 = .ok (.if_icmp .ge 51, 3) ∧ decode cX2_firstOtherThanSaid 16 = .ok (.iload 4, 2) ∧ decode cX2_firstOtherThanSaid 18 = .ok (.aload_n 2, 1) ∧ decode cX2_firstOtherThanSaid 19 = .ok (.arraylength, 1) ∧ decode cX2_firstOtherThanSaid 20 = .ok (.if_icmp .ge 44, 3) := by decide +kernel
theorem dX2_firstOtherThanSaid_0 : decode cX2_firstOtherThanSaid 0 = .ok (.aload_n 0, 1) := edX2_firstOtherThanSaid_0.1
theorem dX2_firstOtherThanSaid_1 : decode cX2_firstOtherThanSaid 1 = .ok (.getfield 21, 3) := edX2_firstOtherThanSaid_0.2.1
theorem dX2_firstOtherThanSaid_4 : decode cX2_firstOtherThanSaid 4 = .ok (.invokevirtual 70, 3) := edX2_firstOtherThanSaid_0.2.2.1
theorem dX2_firstOtherThanSaid_7 : decode cX2_firstOtherThanSaid 7 = .ok (.iconst 0, 1) := edX2_firstOtherThanSaid_0.2.2.2.1
theorem dX2_firstOtherThanSaid_8 : decode cX2_firstOtherThanSaid 8 = .ok (.istore 4, 2) := edX2_firstOtherThanSaid_0.2.2.2.2.1
theorem dX2_firstOtherThanSaid_10 : decode cX2_firstOtherThanSaid 10 = .ok (.iload 4, 2) := edX2_firstOtherThanSaid_0.2.2.2.2.2.1
theorem dX2_firstOtherThanSaid_12 : decode cX2_firstOtherThanSaid 12 = .ok (.iload_n 3, 1) := edX2_firstOtherThanSaid_0.2.2.2.2.2.2.1
theorem dX2_firstOtherThanSaid_13 : decode cX2_firstOtherThanSaid 13 = .ok (.if_icmp .ge 51, 3) := edX2_firstOtherThanSaid_0.2.2.2.2.2.2.2.1
theorem dX2_firstOtherThanSaid_16 : decode cX2_firstOtherThanSaid 16 = .ok (.iload 4, 2) := edX2_firstOtherThanSaid_0.2.2.2.2.2.2.2.2.1
theorem dX2_firstOtherThanSaid_18 : decode cX2_firstOtherThanSaid 18 = .ok (.aload_n 2, 1) := edX2_firstOtherThanSaid_0.2.2.2.2.2.2.2.2.2.1
theorem dX2_firstOtherThanSaid_19 : decode cX2_firstOtherThanSaid 19 = .ok (.arraylength, 1) := edX2_firstOtherThanSaid_0.2.2.2.2.2.2.2.2.2.2.1
theorem dX2_firstOtherThanSaid_20 : decode cX2_firstOtherThanSaid 20 = .ok (.if_icmp .ge 44, 3) := edX2_firstOtherThanSaid_0.2.2.2.2.2.2.2.2.2.2.2
set_option maxRecDepth 20000 in
theorem edX2_firstOtherThanSaid_23 : decode cX2_firstOtherThanSaid 23 = .ok (.aload_n 0, 1) ∧ decode cX2_firstOtherThanSaid 24 = .ok (.aload_n 1, 1) ∧ decode cX2_firstOtherThanSaid 25 = .ok (.aload_n 0, 1) ∧ decode cX2_firstOtherThanSaid 26 = .ok (.getfield 21, 3) ∧ decode cX2_firstOtherThanSaid 29 = .ok (.bipush (-9), 2) ∧ decode cX2_firstOtherThanSaid 31 = .ok (.invokevirtual 73, 3) ∧ decode cX2_firstOtherThanSaid 34 = .ok (.istore 5, 2) ∧ decode cX2_firstOtherThanSaid 36 = .ok (.aload_n 2, 1) ∧ decode cX2_firstOtherThanSaid 37 = .ok (.iload 4, 2) ∧ decode cX2_firstOtherThanSaid 39 = .ok (.iaload, 1) ∧ decode cX2_firstOtherThanSaid 40 = .ok (.iload 5, 2) ∧ decode cX2_firstOtherThanSaid 42 = .ok (.if_icmp .eq 6, 3) := by decide +kernel
theorem dX2_firstOtherThanSaid_23 : decode cX2_firstOtherThanSaid 23 = .ok (.aload_n 0, 1) := edX2_firstOtherThanSaid_23.1
theorem dX2_firstOtherThanSaid_24 : decode cX2_firstOtherThanSaid 24 = .ok (.aload_n 1, 1) := edX2_firstOtherThanSaid_23.2.1
theorem dX2_firstOtherThanSaid_25 : decode cX2_firstOtherThanSaid 25 = .ok (.aload_n 0, 1) := edX2_firstOtherThanSaid_23.2.2.1
theorem dX2_firstOtherThanSaid_26 : decode cX2_firstOtherThanSaid 26 = .ok (.getfield 21, 3) := edX2_firstOtherThanSaid_23.2.2.2.1
theorem dX2_firstOtherThanSaid_29 : decode cX2_firstOtherThanSaid 29 = .ok (.bipush (-9), 2) := edX2_firstOtherThanSaid_23.2.2.2.2.1
theorem dX2_firstOtherThanSaid_31 : decode cX2_firstOtherThanSaid 31 = .ok (.invokevirtual 73, 3) := edX2_firstOtherThanSaid_23.2.2.2.2.2.1
theorem dX2_firstOtherThanSaid_34 : decode cX2_firstOtherThanSaid 34 = .ok (.istore 5, 2) := edX2_firstOtherThanSaid_23.2.2.2.2.2.2.1
theorem dX2_firstOtherThanSaid_36 : decode cX2_firstOtherThanSaid 36 = .ok (.aload_n 2, 1) := edX2_firstOtherThanSaid_23.2.2.2.2.2.2.2.1
theorem dX2_firstOtherThanSaid_37 : decode cX2_firstOtherThanSaid 37 = .ok (.iload 4, 2) := edX2_firstOtherThanSaid_23.2.2.2.2.2.2.2.2.1
theorem dX2_firstOtherThanSaid_39 : decode cX2_firstOtherThanSaid 39 = .ok (.iaload, 1) := edX2_firstOtherThanSaid_23.2.2.2.2.2.2.2.2.2.1
theorem dX2_firstOtherThanSaid_40 : decode cX2_firstOtherThanSaid 40 = .ok (.iload 5, 2) := edX2_firstOtherThanSaid_23.2.2.2.2.2.2.2.2.2.2.1
theorem dX2_firstOtherThanSaid_42 : decode cX2_firstOtherThanSaid 42 = .ok (.if_icmp .eq 6, 3) := edX2_firstOtherThanSaid_23.2.2.2.2.2.2.2.2.2.2.2
set_option maxRecDepth 20000 in
theorem edX2_firstOtherThanSaid_45 : decode cX2_firstOtherThanSaid 45 = .ok (.iload 4, 2) ∧ decode cX2_firstOtherThanSaid 47 = .ok (.ireturn, 1) ∧ decode cX2_firstOtherThanSaid 48 = .ok (.aload_n 1, 1) ∧ decode cX2_firstOtherThanSaid 49 = .ok (.aload_n 0, 1) ∧ decode cX2_firstOtherThanSaid 50 = .ok (.getfield 21, 3) ∧ decode cX2_firstOtherThanSaid 53 = .ok (.iload 5, 2) ∧ decode cX2_firstOtherThanSaid 55 = .ok (.invokevirtual 76, 3) ∧ decode cX2_firstOtherThanSaid 58 = .ok (.iinc 4 1, 3) ∧ decode cX2_firstOtherThanSaid 61 = .ok (.goto (-51), 3) ∧ decode cX2_firstOtherThanSaid 64 = .ok (.bipush (-9), 2) ∧ decode cX2_firstOtherThanSaid 66 = .ok (.ireturn, 1) := by decide +kernel
theorem dX2_firstOtherThanSaid_45 : decode cX2_firstOtherThanSaid 45 = .ok (.iload 4, 2) := edX2_firstOtherThanSaid_45.1
theorem dX2_firstOtherThanSaid_47 : decode cX2_firstOtherThanSaid 47 = .ok (.ireturn, 1) := edX2_firstOtherThanSaid_45.2.1
theorem dX2_firstOtherThanSaid_48 : decode cX2_firstOtherThanSaid 48 = .ok (.aload_n 1, 1) := edX2_firstOtherThanSaid_45.2.2.1
theorem dX2_firstOtherThanSaid_49 : decode cX2_firstOtherThanSaid 49 = .ok (.aload_n 0, 1) := edX2_firstOtherThanSaid_45.2.2.2.1
theorem dX2_firstOtherThanSaid_50 : decode cX2_firstOtherThanSaid 50 = .ok (.getfield 21, 3) := edX2_firstOtherThanSaid_45.2.2.2.2.1
theorem dX2_firstOtherThanSaid_53 : decode cX2_firstOtherThanSaid 53 = .ok (.iload 5, 2) := edX2_firstOtherThanSaid_45.2.2.2.2.2.1
theorem dX2_firstOtherThanSaid_55 : decode cX2_firstOtherThanSaid 55 = .ok (.invokevirtual 76, 3) := edX2_firstOtherThanSaid_45.2.2.2.2.2.2.1
theorem dX2_firstOtherThanSaid_58 : decode cX2_firstOtherThanSaid 58 = .ok (.iinc 4 1, 3) := edX2_firstOtherThanSaid_45.2.2.2.2.2.2.2.1
theorem dX2_firstOtherThanSaid_61 : decode cX2_firstOtherThanSaid 61 = .ok (.goto (-51), 3) := edX2_firstOtherThanSaid_45.2.2.2.2.2.2.2.2.1
theorem dX2_firstOtherThanSaid_64 : decode cX2_firstOtherThanSaid 64 = .ok (.bipush (-9), 2) := edX2_firstOtherThanSaid_45.2.2.2.2.2.2.2.2.2.1
theorem dX2_firstOtherThanSaid_66 : decode cX2_firstOtherThanSaid 66 = .ok (.ireturn, 1) := edX2_firstOtherThanSaid_45.2.2.2.2.2.2.2.2.2.2
noncomputable def voX2_firstOtherThanSaid : List Cond := [.fieldLink RX2 21 "EachOnHisCue$Evening" "saying" "LEachOnHisCue$Saying;", .methodLink RX2 70 yX9_forget, .instanceMethod yX9_forget, .selects RX9 yX9_forget yX9_forget, .initialized RX9, .methodLink RX2 73 yX2_nextLine, .instanceMethod yX2_nextLine, .selects RX2 yX2_nextLine yX2_nextLine, .initialized RX2, .methodLink RX2 76 yX7_speak, .instanceMethod yX7_speak, .selects RX7 yX7_speak yX7_speak, .initialized RX7]
noncomputable def vsX2_firstOtherThanSaid : List Cond := .code yX2_firstOtherThanSaid cX2_firstOtherThanSaid 6 (some .int) :: (voX2_firstOtherThanSaid ++ (vsX9_forget ++ (vsX2_nextLine ++ (vsX7_speak ++ (wsX20)))))
theorem zgX2_firstOtherThanSaid : zGd vsX2_firstOtherThanSaid := z_gdC rfl (z_gdA (z_gdO (by decide +kernel) : zGd voX2_firstOtherThanSaid) (z_gdA zgX9_forget (z_gdA zgX2_nextLine (z_gdA zgX7_speak (zgX2)))))
theorem in_X2_firstOtherThanSaid_X2 : ∀ w ∈ wsX20, w ∈ vsX2_firstOtherThanSaid := fun _ h => List.mem_cons_of_mem _ (List.mem_append_right _ (List.mem_append_right _ (List.mem_append_right _ (List.mem_append_right _ (h)))))
theorem gw_X2_firstOtherThanSaid_X9_forget : GoodIn vsX2_firstOtherThanSaid vsX9_forget := z_gdI (fun _ h => List.mem_cons_of_mem _ (List.mem_append_right _ (List.mem_append_left _ h))) zgX9_forget
set_option maxRecDepth 20000 in
theorem gv_X2_firstOtherThanSaid_X9_forget_70 : GoodIn vsX2_firstOtherThanSaid (wsV RX2 70 RX9 yX9_forget vsX9_forget) := goodIn_app (goodIn_of _ (by decide +kernel)) gw_X2_firstOtherThanSaid_X9_forget
theorem gw_X2_firstOtherThanSaid_X2_nextLine : GoodIn vsX2_firstOtherThanSaid vsX2_nextLine := z_gdI (fun _ h => List.mem_cons_of_mem _ (List.mem_append_right _ (List.mem_append_right _ (List.mem_append_left _ h)))) zgX2_nextLine
set_option maxRecDepth 20000 in
theorem gv_X2_firstOtherThanSaid_X2_nextLine_73 : GoodIn vsX2_firstOtherThanSaid (wsV RX2 73 RX2 yX2_nextLine vsX2_nextLine) := goodIn_app (goodIn_of _ (by decide +kernel)) gw_X2_firstOtherThanSaid_X2_nextLine
theorem gw_X2_firstOtherThanSaid_X7_speak : GoodIn vsX2_firstOtherThanSaid vsX7_speak := z_gdI (fun _ h => List.mem_cons_of_mem _ (List.mem_append_right _ (List.mem_append_right _ (List.mem_append_right _ (List.mem_append_left _ h))))) zgX7_speak
set_option maxRecDepth 20000 in
theorem gv_X2_firstOtherThanSaid_X7_speak_76 : GoodIn vsX2_firstOtherThanSaid (wsV RX2 76 RX7 yX7_speak vsX7_speak) := goodIn_app (goodIn_of _ (by decide +kernel)) gw_X2_firstOtherThanSaid_X7_speak
set_option maxHeartbeats 4000000 in
set_option maxRecDepth 100000 in
theorem wX2_firstOtherThanSaid (l : Launch) (dC : Nat → ClassId) (dI : Nat → Nat → Nat) (cI cQ : ClassId) (ha0 ha1 ha2 ha0_0_0 ha0_0 ha0_1 ha1_0 ha1_1 ha1_2 ha1_4 ha1_5 ha1_6 ha1_7 ha1_11 : Nat) (PL : Nat → Nat → Int32 → Prop) (fa0_0_0 : Nat → Int32) (ia0_0_1 : Int32) (hia0_0_1l : 0 ≤ ia0_0_1.toInt) (hia0_0_1h : ia0_0_1.toInt ≤ 12) (ia0_1_0 : Int32) (ia0_1_1 : Int32) (ia0_1_2 : Int32) (ia0_1_3 : Int32) (ia0_1_4 : Int32) (ia0_2 : Int32) (ga1_0 : Nat → ZQ) (hPLga1_0 : zHp PL ga1_0) (fa1_1 : Nat → Int32) (fa1_2 : Nat → Int32) (fa1_4 : Nat → Int32) (ia1_3 : Int32) (hia1_3l : 0 ≤ ia1_3.toInt) (hia1_3h : ia1_3.toInt ≤ 5) (ia1_8 : Int32) (ia1_9 : Int32) (hia1_9l : 0 ≤ ia1_9.toInt) (hia1_9h : ia1_9.toInt ≤ 12) (ia1_10 : Int32) (fa2 : Nat → Int32) (p3 : Int32) (sz : Nat) : Met l yX2_firstOtherThanSaid vsX2_firstOtherThanSaid ({ frames := 5, cells := 0, slots := 0, locals := 119 }) (va_Pc [.ref ha0, .ref ha1, .ref ha2, .int p3] (zBP dC dI cI cQ PL [(ha0_0_0, .inl (cI, 12, .inl fa0_0_0)), (ha0_0, .inr (5, [.ref ha0_0_0, .int ia0_0_1])), (ha0_1, .inr (9, [.int ia0_1_0, .int ia0_1_1, .int ia0_1_2, .int ia0_1_3, .int ia0_1_4])), (ha0, .inr (2, [.ref ha0_0, .ref ha0_1, .int ia0_2])), (ha1_0, .inl (cQ, 5, .inr (.inr (.inr (.inr (fun i => (ga1_0 i).1)))))), (ha1_1, .inl (cI, 5, .inl fa1_1)), (ha1_2, .inl (cI, 5, .inl fa1_2)), (ha1_4, .inl (cI, 12, .inl fa1_4)), (ha1, .inr (7, [.ref ha1_0, .ref ha1_1, .ref ha1_2, .int ia1_3, .ref ha1_4, .ref ha1_5, .ref ha1_6, .ref ha1_7, .int ia1_8, .int ia1_9, .int ia1_10, .ref ha1_11])), (ha2, .inl (cI, 12, .inl fa2))] sz)) (zWi dC dI (va_A [(ha0_0_0, .inl (cI, 12, .inl fa0_0_0)), (ha0_0, .inr (5, [.ref ha0_0_0, .int ia0_0_1])), (ha0_1, .inr (9, [.int ia0_1_0, .int ia0_1_1, .int ia0_1_2, .int ia0_1_3, .int ia0_1_4])), (ha0, .inr (2, [.ref ha0_0, .ref ha0_1, .int ia0_2])), (ha1_0, .inl (cQ, 5, .inr (.inr (.inr (.inr (fun i => (ga1_0 i).1)))))), (ha1_1, .inl (cI, 5, .inl fa1_1)), (ha1_2, .inl (cI, 5, .inl fa1_2)), (ha1_4, .inl (cI, 12, .inl fa1_4)), (ha1, .inr (7, [.ref ha1_0, .ref ha1_1, .ref ha1_2, .int ia1_3, .ref ha1_4, .ref ha1_5, .ref ha1_6, .ref ha1_7, .int ia1_8, .int ia1_9, .int ia1_10, .ref ha1_11])), (ha2, .inl (cI, 12, .inl fa2))] sz) (fun u => [(ha0_0_0, .inl (cI, 12, .inl fa0_0_0)), (ha0_0, .inr (5, [.ref ha0_0_0, .int ia0_0_1])), (ha0_1, .inr (9, [.int (u.1 0), .int (u.1 1), .int (u.1 2), .int (u.1 3), .int (u.1 4)])), (ha0, .inr (2, [.ref ha0_0, .ref ha0_1, .int ia0_2])), (ha1_0, .inl (cQ, 5, .inr (.inr (.inr (.inr (fun i => (ga1_0 i).1)))))), (ha1_1, .inl (cI, 5, .inl fa1_1)), (ha1_2, .inl (cI, 5, .inl fa1_2)), (ha1_4, .inl (cI, 12, .inl fa1_4)), (ha1, .inr (7, [.ref ha1_0, .ref ha1_1, .ref ha1_2, .int ia1_3, .ref ha1_4, .ref ha1_5, .ref ha1_6, .ref ha1_7, .int ia1_8, .int ia1_9, .int ia1_10, .ref ha1_11])), (ha2, .inl (cI, 12, .inl fa2))]) (fun r u => ((-2147483648) ≤ (u.1 0).toInt ∧ (u.1 0).toInt ≤ 2147483647) ∧ ((-2147483648) ≤ (u.1 1).toInt ∧ (u.1 1).toInt ≤ 2147483647) ∧ ((-2147483648) ≤ (u.1 2).toInt ∧ (u.1 2).toInt ≤ 2147483647) ∧ ((-2147483648) ≤ (u.1 3).toInt ∧ (u.1 3).toInt ≤ 2147483647) ∧ ((-2147483648) ≤ (u.1 4).toInt ∧ (u.1 4).toInt ≤ 2147483647) ∧ ((-9) ≤ r.toInt ∧ r.toInt ≤ 11) ∧ True)) 0 0 (va_A [(ha0_0_0, .inl (cI, 12, .inl fa0_0_0)), (ha0_0, .inr (5, [.ref ha0_0_0, .int ia0_0_1])), (ha0_1, .inr (9, [.int ia0_1_0, .int ia0_1_1, .int ia0_1_2, .int ia0_1_3, .int ia0_1_4])), (ha0, .inr (2, [.ref ha0_0, .ref ha0_1, .int ia0_2])), (ha1_0, .inl (cQ, 5, .inr (.inr (.inr (.inr (fun i => (ga1_0 i).1)))))), (ha1_1, .inl (cI, 5, .inl fa1_1)), (ha1_2, .inl (cI, 5, .inl fa1_2)), (ha1_4, .inl (cI, 12, .inl fa1_4)), (ha1, .inr (7, [.ref ha1_0, .ref ha1_1, .ref ha1_2, .int ia1_3, .ref ha1_4, .ref ha1_5, .ref ha1_6, .ref ha1_7, .int ia1_8, .int ia1_9, .int ia1_10, .ref ha1_11])), (ha2, .inl (cI, 12, .inl fa2))] sz) := by
  refine Met.ofW (cc := cX2_firstOtherThanSaid) (maxL := 6) (ret := (some .int)) (by decide) rfl ?_
  intro p e s m args below meth c s₁ B hml hv
  obtain ⟨rfl, ⟨hsz, hP, hZ, hD0⟩, hPl0, hPlN⟩ := hv
  obtain ⟨hK, hAO, hN⟩ := id hZ
  have hx := B.exec
  have hb := B.bytes
  have hr := B.returns
  have hts := atoms_spec (ws := vsX2_firstOtherThanSaid) B.pre
  have hown : s.vm.findClass RX2 = some m.cls := findClass_of_methodNamed B.named
  have hlocks := B.notSynchronized
  subst hsz
  have hD := hD0.self (sz := s.heap.size)
  have hPlA := z_plA hPlN
  generalize hAe : va_A [(ha0_0_0, .inl (cI, 12, .inl fa0_0_0)), (ha0_0, .inr (5, [.ref ha0_0_0, .int ia0_0_1])), (ha0_1, .inr (9, [.int ia0_1_0, .int ia0_1_1, .int ia0_1_2, .int ia0_1_3, .int ia0_1_4])), (ha0, .inr (2, [.ref ha0_0, .ref ha0_1, .int ia0_2])), (ha1_0, .inl (cQ, 5, .inr (.inr (.inr (.inr (fun i => (ga1_0 i).1)))))), (ha1_1, .inl (cI, 5, .inl fa1_1)), (ha1_2, .inl (cI, 5, .inl fa1_2)), (ha1_4, .inl (cI, 12, .inl fa1_4)), (ha1, .inr (7, [.ref ha1_0, .ref ha1_1, .ref ha1_2, .int ia1_3, .ref ha1_4, .ref ha1_5, .ref ha1_6, .ref ha1_7, .int ia1_8, .int ia1_9, .int ia1_10, .ref ha1_11])), (ha2, .inl (cI, 12, .inl fa2))] s.heap.size = A at hD hPlA ⊢
  have hA : ∀ q : Nat, s.heap.size ≤ q → A q := fun q h => by rw [← hAe]; exact Or.inr h
  have hS : va_S A s.heap s.heap [] := va_S.rf
  have hP : va_P (dC, dI) vwCl [(ha0_0_0, .inl (cI, 12, .inl fa0_0_0)), (ha0_0, .inr (5, [.ref ha0_0_0, .int ia0_0_1])), (ha0_1, .inr (9, [.int ia0_1_0, .int ia0_1_1, .int ia0_1_2, .int ia0_1_3, .int ia0_1_4])), (ha0, .inr (2, [.ref ha0_0, .ref ha0_1, .int ia0_2])), (ha1_0, .inl (cQ, 5, .inr (.inr (.inr (.inr (fun i => (ga1_0 i).1)))))), (ha1_1, .inl (cI, 5, .inl fa1_1)), (ha1_2, .inl (cI, 5, .inl fa1_2)), (ha1_4, .inl (cI, 12, .inl fa1_4)), (ha1, .inr (7, [.ref ha1_0, .ref ha1_1, .ref ha1_2, .int ia1_3, .ref ha1_4, .ref ha1_5, .ref ha1_6, .ref ha1_7, .int ia1_8, .int ia1_9, .int ia1_10, .ref ha1_11])), (ha2, .inl (cI, 12, .inl fa2))] s.heap := hP
  have hp3l := z_lo p3
  have hp3h := z_hi p3
  have hl := lv_entry ([.ref ha0, .ref ha1, .ref ha2, .int p3]) (n := 6) (Nat.le_of_ble_eq_true rfl)
  rw [lg_entry_eq]
  generalize (lg_sl ([.ref ha0, .ref ha1, .ref ha2, .int p3]) ++ List.replicate (6 - (lg_sl ([.ref ha0, .ref ha1, .ref ha2, .int p3])).length) Slot.unset).toArray = ls at hl ⊢
  have hl : lv_has ls 6 [(0, .ref ha0), (1, .ref ha1), (2, .ref ha2), (3, .int p3)] := hl
  refine lv_aload_n hx hb dX2_firstOtherThanSaid_0 rfl (lv_at hl 0 rfl) ?_
  refine va_get (D := (dC, dI)) (ci := 2) (v := .ref ha0_1) (C := RX2) (T := TX2) (N := 3) hx hb hts in_X2_firstOtherThanSaid_X2 hown hK hP 3 rfl rfl 1 (by decide) (hts (.fieldLink RX2 21 "EachOnHisCue$Evening" "saying" "LEachOnHisCue$Saying;") (by decide +kernel)) (fun _ h9 => h9) rfl dX2_firstOtherThanSaid_1 ?_
  refine z_cwv (wc := [(ha0_1, .inr (9, [.int ia0_1_0, .int ia0_1_1, .int ia0_1_2, .int ia0_1_3, .int ia0_1_4]))]) (wr := [(ha0_0_0, .inl (cI, 12, .inl fa0_0_0)), (ha0_0, .inr (5, [.ref ha0_0_0, .int ia0_0_1])), (ha0, .inr (2, [.ref ha0_0, .ref ha0_1, .int ia0_2])), (ha1_0, .inl (cQ, 5, .inr (.inr (.inr (.inr (fun i => (ga1_0 i).1)))))), (ha1_1, .inl (cI, 5, .inl fa1_1)), (ha1_2, .inl (cI, 5, .inl fa1_2)), (ha1_4, .inl (cI, 12, .inl fa1_4)), (ha1, .inr (7, [.ref ha1_0, .ref ha1_1, .ref ha1_2, .int ia1_3, .ref ha1_4, .ref ha1_5, .ref ha1_6, .ref ha1_7, .int ia1_8, .int ia1_9, .int ia1_10, .ref ha1_11])), (ha2, .inl (cI, 12, .inl fa2))]) (w1 := fun u2 => [(ha0_1, .inr (9, [.int 0, .int 0, .int (-9), .int 0, .int 0]))]) (va_runV (As := []) (rest := []) ⟨hx, hb, hml, hown, hts⟩ (wX9_forget l dC dI cI cQ ha0_1 ia0_1_0 ia0_1_1 ia0_1_2 ia0_1_3 ia0_1_4 s.heap.size) (cwV 0 hts gv_X2_firstOtherThanSaid_X9_forget_70 rfl rfl rfl (by decide +kernel) ⟨Nat.le_of_ble_eq_true rfl, Nat.le_of_ble_eq_true rfl⟩) ⟨z_blind, va_recv hK hP (ci := 9) (q0 := 2) rfl rfl, z_pre hZ hP hD [2] rfl (by decide +kernel)⟩ rfl rfl hl.1 rfl (lv_room (Nat.le_of_ble_eq_true rfl)) dX2_firstOtherThanSaid_4 ⟨Nat.le_of_ble_eq_true rfl, Nat.le_of_ble_eq_true rfl⟩) hP hD hS hA [2] [0, 1, 3, 4, 5, 6, 7, 8, 9] rfl rfl (by decide +kernel) (by decide +kernel) (fun u2 H locs hpo hP hD hS => ?_)
  have hP : va_P (dC, dI) vwCl [(ha0_0_0, .inl (cI, 12, .inl fa0_0_0)), (ha0_0, .inr (5, [.ref ha0_0_0, .int ia0_0_1])), (ha0, .inr (2, [.ref ha0_0, .ref ha0_1, .int ia0_2])), (ha1_0, .inl (cQ, 5, .inr (.inr (.inr (.inr (fun i => (ga1_0 i).1)))))), (ha1_1, .inl (cI, 5, .inl fa1_1)), (ha1_2, .inl (cI, 5, .inl fa1_2)), (ha1_4, .inl (cI, 12, .inl fa1_4)), (ha1, .inr (7, [.ref ha1_0, .ref ha1_1, .ref ha1_2, .int ia1_3, .ref ha1_4, .ref ha1_5, .ref ha1_6, .ref ha1_7, .int ia1_8, .int ia1_9, .int ia1_10, .ref ha1_11])), (ha2, .inl (cI, 12, .inl fa2)), (ha0_1, .inr (9, [.int 0, .int 0, .int (-9), .int 0, .int 0]))] H := hP
  have hD : va_D A [(ha0_0_0, .inl (cI, 12, .inl fa0_0_0)), (ha0_0, .inr (5, [.ref ha0_0_0, .int ia0_0_1])), (ha0, .inr (2, [.ref ha0_0, .ref ha0_1, .int ia0_2])), (ha1_0, .inl (cQ, 5, .inr (.inr (.inr (.inr (fun i => (ga1_0 i).1)))))), (ha1_1, .inl (cI, 5, .inl fa1_1)), (ha1_2, .inl (cI, 5, .inl fa1_2)), (ha1_4, .inl (cI, 12, .inl fa1_4)), (ha1, .inr (7, [.ref ha1_0, .ref ha1_1, .ref ha1_2, .int ia1_3, .ref ha1_4, .ref ha1_5, .ref ha1_6, .ref ha1_7, .int ia1_8, .int ia1_9, .int ia1_10, .ref ha1_11])), (ha2, .inl (cI, 12, .inl fa2)), (ha0_1, .inr (9, [.int 0, .int 0, .int (-9), .int 0, .int 0]))] := hD
  have hy1po := hpo
  refine lv_iconst (v := 0) hx hb dX2_firstOtherThanSaid_7 (by decide) ?_
  refine lv_istore (lv' := [(4, .int 0), (0, .ref ha0), (1, .ref ha1), (2, .ref ha2), (3, .int p3)]) hx hb dX2_firstOtherThanSaid_8 hl (by decide) rfl (fun ls hl => ?_)
  have hL153 : ∀ (n : Nat) (v3 : Int32) (v20 : Int32) (v21 : Int32) (v22 : Int32) (v23 : Int32) (v24 : Int32) (H : Heap) (locs : List Loc) (ls : Array Slot), 0 ≤ v3.toInt → v3.toInt ≤ 12 → (12 - v3.toInt).toNat < n → lv_has ls 6 [(4, .int v3), (0, .ref ha0), (1, .ref ha1), (2, .ref ha2), (3, .int p3)] → va_P (dC, dI) vwCl [(ha0_0_0, .inl (cI, 12, .inl fa0_0_0)), (ha0_0, .inr (5, [.ref ha0_0_0, .int ia0_0_1])), (ha0, .inr (2, [.ref ha0_0, .ref ha0_1, .int ia0_2])), (ha1_0, .inl (cQ, 5, .inr (.inr (.inr (.inr (fun i => (ga1_0 i).1)))))), (ha1_1, .inl (cI, 5, .inl fa1_1)), (ha1_2, .inl (cI, 5, .inl fa1_2)), (ha1_4, .inl (cI, 12, .inl fa1_4)), (ha1, .inr (7, [.ref ha1_0, .ref ha1_1, .ref ha1_2, .int ia1_3, .ref ha1_4, .ref ha1_5, .ref ha1_6, .ref ha1_7, .int ia1_8, .int ia1_9, .int ia1_10, .ref ha1_11])), (ha2, .inl (cI, 12, .inl fa2)), (ha0_1, .inr (9, [.int v20, .int v21, .int v22, .int v23, .int v24]))] H → va_D A [(ha0_0_0, .inl (cI, 12, .inl fa0_0_0)), (ha0_0, .inr (5, [.ref ha0_0_0, .int ia0_0_1])), (ha0, .inr (2, [.ref ha0_0, .ref ha0_1, .int ia0_2])), (ha1_0, .inl (cQ, 5, .inr (.inr (.inr (.inr (fun i => (ga1_0 i).1)))))), (ha1_1, .inl (cI, 5, .inl fa1_1)), (ha1_2, .inl (cI, 5, .inl fa1_2)), (ha1_4, .inl (cI, 12, .inl fa1_4)), (ha1, .inr (7, [.ref ha1_0, .ref ha1_1, .ref ha1_2, .int ia1_3, .ref ha1_4, .ref ha1_5, .ref ha1_6, .ref ha1_7, .int ia1_8, .int ia1_9, .int ia1_10, .ref ha1_11])), (ha2, .inl (cI, 12, .inl fa2)), (ha0_1, .inr (9, [.int v20, .int v21, .int v22, .int v23, .int v24]))] → va_S A s.heap H locs → W p l e (headSpec vsX2_firstOtherThanSaid ({ frames := 5, cells := 0, slots := 0, locals := 119 })).room s m ([.ref ha0, .ref ha1, .ref ha2, .int p3] : List Value).toArray below meth c H locs 0 0 (MQ below (zWi dC dI (A) (fun u => [(ha0_0_0, .inl (cI, 12, .inl fa0_0_0)), (ha0_0, .inr (5, [.ref ha0_0_0, .int ia0_0_1])), (ha0_1, .inr (9, [.int (u.1 0), .int (u.1 1), .int (u.1 2), .int (u.1 3), .int (u.1 4)])), (ha0, .inr (2, [.ref ha0_0, .ref ha0_1, .int ia0_2])), (ha1_0, .inl (cQ, 5, .inr (.inr (.inr (.inr (fun i => (ga1_0 i).1)))))), (ha1_1, .inl (cI, 5, .inl fa1_1)), (ha1_2, .inl (cI, 5, .inl fa1_2)), (ha1_4, .inl (cI, 12, .inl fa1_4)), (ha1, .inr (7, [.ref ha1_0, .ref ha1_1, .ref ha1_2, .int ia1_3, .ref ha1_4, .ref ha1_5, .ref ha1_6, .ref ha1_7, .int ia1_8, .int ia1_9, .int ia1_10, .ref ha1_11])), (ha2, .inl (cI, 12, .inl fa2))]) (fun r u => ((-2147483648) ≤ (u.1 0).toInt ∧ (u.1 0).toInt ≤ 2147483647) ∧ ((-2147483648) ≤ (u.1 1).toInt ∧ (u.1 1).toInt ≤ 2147483647) ∧ ((-2147483648) ≤ (u.1 2).toInt ∧ (u.1 2).toInt ≤ 2147483647) ∧ ((-2147483648) ≤ (u.1 3).toInt ∧ (u.1 3).toInt ≤ 2147483647) ∧ ((-2147483648) ≤ (u.1 4).toInt ∧ (u.1 4).toInt ≤ 2147483647) ∧ ((-9) ≤ r.toInt ∧ r.toInt ≤ 11) ∧ True)) ([.ref ha0, .ref ha1, .ref ha2, .int p3] : List Value).toArray s 0 0 A) (F0 m 10 ls []) := by
    intro n
    induction n with
    | zero =>
      intro v3 v20 v21 v22 v23 v24 H locs ls hi154_0 hi154_1 hi154_m hl hP hD hS
      exact absurd hi154_m (Nat.not_lt_zero _)
    | succ n ih =>
      intro v3 v20 v21 v22 v23 v24 H locs ls hi154_0 hi154_1 hi154_m hl hP hD hS
      have ih155 := ih
      refine lv_iload hx hb dX2_firstOtherThanSaid_10 (lv_at hl 0 rfl) ?_
      refine lv_iload_n hx hb dX2_firstOtherThanSaid_12 rfl (lv_at hl 4 rfl) ?_
      refine lv_icmp_ge (tgt := 64) hx hb dX2_firstOtherThanSaid_13 (by decide) (fun hc => ?_) (fun hc => ?_)
      · have q156 : p3.toInt ≤ v3.toInt := z_le rfl rfl hc
        refine lv_bipush (v := (-9)) hx hb dX2_firstOtherThanSaid_64 (by decide) ?_
        have hP9 := hP.sub (ws' := [(ha0_0_0, .inl (cI, 12, .inl fa0_0_0)), (ha0_0, .inr (5, [.ref ha0_0_0, .int ia0_0_1])), (ha0_1, .inr (9, [.int v20, .int v21, .int v22, .int v23, .int v24])), (ha0, .inr (2, [.ref ha0_0, .ref ha0_1, .int ia0_2])), (ha1_0, .inl (cQ, 5, .inr (.inr (.inr (.inr (fun i => (ga1_0 i).1)))))), (ha1_1, .inl (cI, 5, .inl fa1_1)), (ha1_2, .inl (cI, 5, .inl fa1_2)), (ha1_4, .inl (cI, 12, .inl fa1_4)), (ha1, .inr (7, [.ref ha1_0, .ref ha1_1, .ref ha1_2, .int ia1_3, .ref ha1_4, .ref ha1_5, .ref ha1_6, .ref ha1_7, .int ia1_8, .int ia1_9, .int ia1_10, .ref ha1_11])), (ha2, .inl (cI, 12, .inl fa2))]) [0, 1, 9, 2, 3, 4, 5, 6, 7, 8] rfl
        have hD9 := hD.sub (ws' := [(ha0_0_0, .inl (cI, 12, .inl fa0_0_0)), (ha0_0, .inr (5, [.ref ha0_0_0, .int ia0_0_1])), (ha0_1, .inr (9, [.int v20, .int v21, .int v22, .int v23, .int v24])), (ha0, .inr (2, [.ref ha0_0, .ref ha0_1, .int ia0_2])), (ha1_0, .inl (cQ, 5, .inr (.inr (.inr (.inr (fun i => (ga1_0 i).1)))))), (ha1_1, .inl (cI, 5, .inl fa1_1)), (ha1_2, .inl (cI, 5, .inl fa1_2)), (ha1_4, .inl (cI, 12, .inl fa1_4)), (ha1, .inr (7, [.ref ha1_0, .ref ha1_1, .ref ha1_2, .int ia1_3, .ref ha1_4, .ref ha1_5, .ref ha1_6, .ref ha1_7, .int ia1_8, .int ia1_9, .int ia1_10, .ref ha1_11])), (ha2, .inl (cI, 12, .inl fa2))]) [0, 1, 9, 2, 3, 4, 5, 6, 7, 8] (by decide) rfl
        exact W.iret (v := (-9)) hx hb hr (fun t ht hW => ⟨⟨(-9), (fun k => [v20, v21, v22, v23, v24].getD k 0, fun k => [].getD k (fun _ => 0)), rfl, (show ((-2147483648) ≤ (v20 : Int32).toInt ∧ (v20 : Int32).toInt ≤ 2147483647) ∧ ((-2147483648) ≤ (v21 : Int32).toInt ∧ (v21 : Int32).toInt ≤ 2147483647) ∧ ((-2147483648) ≤ (v22 : Int32).toInt ∧ (v22 : Int32).toInt ≤ 2147483647) ∧ ((-2147483648) ≤ (v23 : Int32).toInt ∧ (v23 : Int32).toInt ≤ 2147483647) ∧ ((-2147483648) ≤ (v24 : Int32).toInt ∧ (v24 : Int32).toInt ≤ 2147483647) ∧ ((-9) ≤ ((-9) : Int32).toInt ∧ ((-9) : Int32).toInt ≤ 11) ∧ (True) from ⟨⟨(z_lo v20), (z_hi v20)⟩, ⟨(z_lo v21), (z_hi v21)⟩, ⟨(z_lo v22), (z_hi v22)⟩, ⟨(z_lo v23), (z_hi v23)⟩, ⟨(z_lo v24), (z_hi v24)⟩, ⟨by first | decide | omega, by first | decide | omega⟩, trivial⟩), by rw [ht]; exact hP9, hD9⟩, hS.F ht⟩) hS.2.2 dX2_firstOtherThanSaid_66
      · have q157 : v3.toInt < p3.toInt := z_nle rfl rfl hc
        refine lv_iload hx hb dX2_firstOtherThanSaid_16 (lv_at hl 0 rfl) ?_
        refine lv_aload_n hx hb dX2_firstOtherThanSaid_18 rfl (lv_at hl 3 rfl) ?_
        refine va_alen hx hb hK hP 8 0 rfl rfl (v := 12) rfl dX2_firstOtherThanSaid_19 ?_
        refine lv_icmp_ge (tgt := 64) hx hb dX2_firstOtherThanSaid_20 (by decide) (fun hc => ?_) (fun hc => ?_)
        · have q158 : 12 ≤ v3.toInt := z_le (by decide) rfl hc
          refine lv_bipush (v := (-9)) hx hb dX2_firstOtherThanSaid_64 (by decide) ?_
          have hP9 := hP.sub (ws' := [(ha0_0_0, .inl (cI, 12, .inl fa0_0_0)), (ha0_0, .inr (5, [.ref ha0_0_0, .int ia0_0_1])), (ha0_1, .inr (9, [.int v20, .int v21, .int v22, .int v23, .int v24])), (ha0, .inr (2, [.ref ha0_0, .ref ha0_1, .int ia0_2])), (ha1_0, .inl (cQ, 5, .inr (.inr (.inr (.inr (fun i => (ga1_0 i).1)))))), (ha1_1, .inl (cI, 5, .inl fa1_1)), (ha1_2, .inl (cI, 5, .inl fa1_2)), (ha1_4, .inl (cI, 12, .inl fa1_4)), (ha1, .inr (7, [.ref ha1_0, .ref ha1_1, .ref ha1_2, .int ia1_3, .ref ha1_4, .ref ha1_5, .ref ha1_6, .ref ha1_7, .int ia1_8, .int ia1_9, .int ia1_10, .ref ha1_11])), (ha2, .inl (cI, 12, .inl fa2))]) [0, 1, 9, 2, 3, 4, 5, 6, 7, 8] rfl
          have hD9 := hD.sub (ws' := [(ha0_0_0, .inl (cI, 12, .inl fa0_0_0)), (ha0_0, .inr (5, [.ref ha0_0_0, .int ia0_0_1])), (ha0_1, .inr (9, [.int v20, .int v21, .int v22, .int v23, .int v24])), (ha0, .inr (2, [.ref ha0_0, .ref ha0_1, .int ia0_2])), (ha1_0, .inl (cQ, 5, .inr (.inr (.inr (.inr (fun i => (ga1_0 i).1)))))), (ha1_1, .inl (cI, 5, .inl fa1_1)), (ha1_2, .inl (cI, 5, .inl fa1_2)), (ha1_4, .inl (cI, 12, .inl fa1_4)), (ha1, .inr (7, [.ref ha1_0, .ref ha1_1, .ref ha1_2, .int ia1_3, .ref ha1_4, .ref ha1_5, .ref ha1_6, .ref ha1_7, .int ia1_8, .int ia1_9, .int ia1_10, .ref ha1_11])), (ha2, .inl (cI, 12, .inl fa2))]) [0, 1, 9, 2, 3, 4, 5, 6, 7, 8] (by decide) rfl
          exact W.iret (v := (-9)) hx hb hr (fun t ht hW => ⟨⟨(-9), (fun k => [v20, v21, v22, v23, v24].getD k 0, fun k => [].getD k (fun _ => 0)), rfl, (show ((-2147483648) ≤ (v20 : Int32).toInt ∧ (v20 : Int32).toInt ≤ 2147483647) ∧ ((-2147483648) ≤ (v21 : Int32).toInt ∧ (v21 : Int32).toInt ≤ 2147483647) ∧ ((-2147483648) ≤ (v22 : Int32).toInt ∧ (v22 : Int32).toInt ≤ 2147483647) ∧ ((-2147483648) ≤ (v23 : Int32).toInt ∧ (v23 : Int32).toInt ≤ 2147483647) ∧ ((-2147483648) ≤ (v24 : Int32).toInt ∧ (v24 : Int32).toInt ≤ 2147483647) ∧ ((-9) ≤ ((-9) : Int32).toInt ∧ ((-9) : Int32).toInt ≤ 11) ∧ (True) from ⟨⟨(z_lo v20), (z_hi v20)⟩, ⟨(z_lo v21), (z_hi v21)⟩, ⟨(z_lo v22), (z_hi v22)⟩, ⟨(z_lo v23), (z_hi v23)⟩, ⟨(z_lo v24), (z_hi v24)⟩, ⟨by first | decide | omega, by first | decide | omega⟩, trivial⟩), by rw [ht]; exact hP9, hD9⟩, hS.F ht⟩) hS.2.2 dX2_firstOtherThanSaid_66
        · have q159 : v3.toInt < 12 := z_nle (by decide) rfl hc
          refine lv_aload_n hx hb dX2_firstOtherThanSaid_23 rfl (lv_at hl 1 rfl) ?_
          refine lv_aload_n hx hb dX2_firstOtherThanSaid_24 rfl (lv_at hl 2 rfl) ?_
          refine lv_aload_n hx hb dX2_firstOtherThanSaid_25 rfl (lv_at hl 1 rfl) ?_
          refine va_get (D := (dC, dI)) (ci := 2) (v := .ref ha0_1) (C := RX2) (T := TX2) (N := 3) hx hb hts in_X2_firstOtherThanSaid_X2 hown hK hP 2 rfl rfl 1 (by decide) (hts (.fieldLink RX2 21 "EachOnHisCue$Evening" "saying" "LEachOnHisCue$Saying;") (by decide +kernel)) (fun _ h9 => h9) rfl dX2_firstOtherThanSaid_26 ?_
          refine lv_bipush (v := (-9)) hx hb dX2_firstOtherThanSaid_29 (by decide) ?_
          have hPl := z_plS hPl0 hPlA hS
          refine z_rdi (va_runV (As := [.ref ha1, .ref ha0_1, .int (-9)]) (rest := []) ⟨hx, hb, hml, hown, hts⟩ (rX2_nextLine l dC dI cI cQ ha0 ha1 ha0_1 ha0_0_0 ha0_0 ha1_0 ha1_1 ha1_2 ha0_1 ha1_4 ha1_5 ha1_6 ha1_7 ha1_11 PL fa0_0_0 ia0_0_1 hia0_0_1l hia0_0_1h ia0_2 ga1_0 hPLga1_0 fa1_1 fa1_2 ia1_3 hia1_3l hia1_3h ia1_8 ia1_9 hia1_9l hia1_9h ia1_10 v20 v21 v22 v23 v24 (-9)) (cwV 3 hts gv_X2_firstOtherThanSaid_X2_nextLine_73 rfl rfl rfl (by decide +kernel) ⟨Nat.le_of_ble_eq_true rfl, Nat.le_of_ble_eq_true rfl⟩) ⟨z_blindRP, va_recv hK hP (ci := 2) (q0 := 2) rfl rfl, z_preRP hZ hP hPl [0, 1, 2, 3, 4, 5, 7, 9] rfl⟩ rfl rfl hl.1 rfl (lv_room (Nat.le_of_ble_eq_true rfl)) dX2_firstOtherThanSaid_31 ⟨Nat.le_of_ble_eq_true rfl, Nat.le_of_ble_eq_true rfl⟩) (fun y160 hy160 => ?_)
          obtain ⟨hy160_0, hy160_1, hy160_2⟩ := hy160
          try simp only [show (-9 : Int32).toInt = -9 from by decide] at hy160_2
          refine lv_istore (lv' := [(5, .int y160), (4, .int v3), (0, .ref ha0), (1, .ref ha1), (2, .ref ha2), (3, .int p3)]) hx hb dX2_firstOtherThanSaid_34 hl (by decide) rfl (fun ls hl => ?_)
          refine lv_aload_n hx hb dX2_firstOtherThanSaid_36 rfl (lv_at hl 4 rfl) ?_
          refine lv_iload hx hb dX2_firstOtherThanSaid_37 (lv_at hl 1 rfl) ?_
          refine va_iald hx hb hK hP 8 0 rfl rfl (z_in (by omega) (by omega)) dX2_firstOtherThanSaid_39 ?_
          refine lv_topi (fun y161 ey161 => ?_)
          have gy161 : y161.toInt = (fa2 (v3 : Int32).toNatClampNeg).toInt := by rw [ey161]
          refine lv_iload hx hb dX2_firstOtherThanSaid_40 (lv_at hl 0 rfl) ?_
          refine lv_icmp_eq (tgt := 48) hx hb dX2_firstOtherThanSaid_42 (by decide) (fun hc => ?_) (fun hc => ?_)
          · have q162 : y161.toInt = y160.toInt := z_eq rfl rfl hc
            refine lv_aload_n hx hb dX2_firstOtherThanSaid_48 rfl (lv_at hl 3 rfl) ?_
            refine lv_aload_n hx hb dX2_firstOtherThanSaid_49 rfl (lv_at hl 2 rfl) ?_
            refine va_get (D := (dC, dI)) (ci := 2) (v := .ref ha0_1) (C := RX2) (T := TX2) (N := 3) hx hb hts in_X2_firstOtherThanSaid_X2 hown hK hP 2 rfl rfl 1 (by decide) (hts (.fieldLink RX2 21 "EachOnHisCue$Evening" "saying" "LEachOnHisCue$Saying;") (by decide +kernel)) (fun _ h9 => h9) rfl dX2_firstOtherThanSaid_50 ?_
            refine lv_iload hx hb dX2_firstOtherThanSaid_53 (lv_at hl 0 rfl) ?_
            refine z_cwv (wc := [(ha1_4, .inl (cI, 12, .inl fa1_4)), (ha1, .inr (7, [.ref ha1_0, .ref ha1_1, .ref ha1_2, .int ia1_3, .ref ha1_4, .ref ha1_5, .ref ha1_6, .ref ha1_7, .int ia1_8, .int ia1_9, .int ia1_10, .ref ha1_11])), (ha0_1, .inr (9, [.int v20, .int v21, .int v22, .int v23, .int v24]))]) (wr := [(ha0_0_0, .inl (cI, 12, .inl fa0_0_0)), (ha0_0, .inr (5, [.ref ha0_0_0, .int ia0_0_1])), (ha0, .inr (2, [.ref ha0_0, .ref ha0_1, .int ia0_2])), (ha1_0, .inl (cQ, 5, .inr (.inr (.inr (.inr (fun i => (ga1_0 i).1)))))), (ha1_1, .inl (cI, 5, .inl fa1_1)), (ha1_2, .inl (cI, 5, .inl fa1_2)), (ha2, .inl (cI, 12, .inl fa2))]) (w1 := fun u164 => [(ha1_4, .inl (cI, 12, .inl fa1_4)), (ha1, .inr (7, [.ref ha1_0, .ref ha1_1, .ref ha1_2, .int ia1_3, .ref ha1_4, .ref ha1_5, .ref ha1_6, .ref ha1_7, .int ia1_8, .int ia1_9, .int ia1_10, .ref ha1_11])), (ha0_1, .inr (9, [.int (u164.1 0), .int (u164.1 1), .int (u164.1 2), .int (u164.1 3), .int (u164.1 4)]))]) (va_runV (As := [.ref ha0_1, .int y160]) (rest := []) ⟨hx, hb, hml, hown, hts⟩ (wX7_speak l dC dI cI cQ ha1 ha0_1 ha1_4 ha1_0 ha1_1 ha1_2 ha1_5 ha1_6 ha1_7 ha1_11 fa1_4 ia1_3 hia1_3l hia1_3h ia1_8 ia1_9 hia1_9l hia1_9h ia1_10 v20 v21 v22 v23 v24 y160 H.size) (cwV 2 hts gv_X2_firstOtherThanSaid_X7_speak_76 rfl rfl rfl (by decide +kernel) ⟨Nat.le_of_ble_eq_true rfl, Nat.le_of_ble_eq_true rfl⟩) ⟨z_blind, va_recv hK hP (ci := 7) (q0 := 7) rfl rfl, z_pre hZ hP hD [6, 7, 9] rfl (by decide +kernel)⟩ rfl rfl hl.1 rfl (lv_room (Nat.le_of_ble_eq_true rfl)) dX2_firstOtherThanSaid_55 ⟨Nat.le_of_ble_eq_true rfl, Nat.le_of_ble_eq_true rfl⟩) hP hD hS hA [6, 7, 9] [0, 1, 2, 3, 4, 5, 8] rfl rfl (by decide +kernel) (by decide +kernel) (fun u164 H locs hpo hP hD hS => ?_)
            generalize hgw165 : u164.1 0 = w165 at hP hD hpo
            generalize hgw166 : u164.1 1 = w166 at hP hD hpo
            generalize hgw167 : u164.1 2 = w167 at hP hD hpo
            generalize hgw168 : u164.1 3 = w168 at hP hD hpo
            generalize hgw169 : u164.1 4 = w169 at hP hD hpo
            have hP : va_P (dC, dI) vwCl [(ha0_0_0, .inl (cI, 12, .inl fa0_0_0)), (ha0_0, .inr (5, [.ref ha0_0_0, .int ia0_0_1])), (ha0, .inr (2, [.ref ha0_0, .ref ha0_1, .int ia0_2])), (ha1_0, .inl (cQ, 5, .inr (.inr (.inr (.inr (fun i => (ga1_0 i).1)))))), (ha1_1, .inl (cI, 5, .inl fa1_1)), (ha1_2, .inl (cI, 5, .inl fa1_2)), (ha2, .inl (cI, 12, .inl fa2)), (ha1_4, .inl (cI, 12, .inl fa1_4)), (ha1, .inr (7, [.ref ha1_0, .ref ha1_1, .ref ha1_2, .int ia1_3, .ref ha1_4, .ref ha1_5, .ref ha1_6, .ref ha1_7, .int ia1_8, .int ia1_9, .int ia1_10, .ref ha1_11])), (ha0_1, .inr (9, [.int w165, .int w166, .int w167, .int w168, .int w169]))] H := hP
            have hD : va_D A [(ha0_0_0, .inl (cI, 12, .inl fa0_0_0)), (ha0_0, .inr (5, [.ref ha0_0_0, .int ia0_0_1])), (ha0, .inr (2, [.ref ha0_0, .ref ha0_1, .int ia0_2])), (ha1_0, .inl (cQ, 5, .inr (.inr (.inr (.inr (fun i => (ga1_0 i).1)))))), (ha1_1, .inl (cI, 5, .inl fa1_1)), (ha1_2, .inl (cI, 5, .inl fa1_2)), (ha2, .inl (cI, 12, .inl fa2)), (ha1_4, .inl (cI, 12, .inl fa1_4)), (ha1, .inr (7, [.ref ha1_0, .ref ha1_1, .ref ha1_2, .int ia1_3, .ref ha1_4, .ref ha1_5, .ref ha1_6, .ref ha1_7, .int ia1_8, .int ia1_9, .int ia1_10, .ref ha1_11])), (ha0_1, .inr (9, [.int w165, .int w166, .int w167, .int w168, .int w169]))] := hD
            obtain ⟨hw165p, hw166p, hw167p, hw168p, hw169p, hy163po⟩ := hpo
            obtain ⟨hw165l, hw165h⟩ := hw165p
            obtain ⟨hw166l, hw166h⟩ := hw166p
            obtain ⟨hw167l, hw167h⟩ := hw167p
            obtain ⟨hw168l, hw168h⟩ := hw168p
            obtain ⟨hw169l, hw169h⟩ := hw169p
            obtain ⟨y170, ey170⟩ : ∃ y : Int32, y = v3 + 1 := ⟨_, rfl⟩
            refine lv_iinc (v := y170) (lv' := [(4, .int y170), (5, .int y160), (0, .ref ha0), (1, .ref ha1), (2, .ref ha2), (3, .int p3)]) hx hb dX2_firstOtherThanSaid_58 hl (k := 1) rfl (by rw [ey170]; rfl) (by decide) rfl (fun ls hl => ?_)
            have hy170 : y170.toInt = v3.toInt + 1 := by rw [ey170]; exact z_add rfl (by decide) (by omega) (by omega)
            refine lv_goto (tgt := 10) hx hb dX2_firstOtherThanSaid_61 (by decide) ?_
            exact ih155 y170 w165 w166 w167 w168 w169 _ _ ls (by first | decide | omega) (by first | decide | omega) (by omega) (lv_sub hl [0, 2, 3, 4, 5] rfl) (hP.sub [0, 1, 2, 3, 4, 5, 7, 8, 6, 9] rfl) (hD.sub [0, 1, 2, 3, 4, 5, 7, 8, 6, 9] (by decide +kernel) rfl) hS
          · have q171 : y161.toInt ≠ y160.toInt := z_ne rfl rfl hc
            refine lv_iload hx hb dX2_firstOtherThanSaid_45 (lv_at hl 1 rfl) ?_
            have hP9 := hP.sub (ws' := [(ha0_0_0, .inl (cI, 12, .inl fa0_0_0)), (ha0_0, .inr (5, [.ref ha0_0_0, .int ia0_0_1])), (ha0_1, .inr (9, [.int v20, .int v21, .int v22, .int v23, .int v24])), (ha0, .inr (2, [.ref ha0_0, .ref ha0_1, .int ia0_2])), (ha1_0, .inl (cQ, 5, .inr (.inr (.inr (.inr (fun i => (ga1_0 i).1)))))), (ha1_1, .inl (cI, 5, .inl fa1_1)), (ha1_2, .inl (cI, 5, .inl fa1_2)), (ha1_4, .inl (cI, 12, .inl fa1_4)), (ha1, .inr (7, [.ref ha1_0, .ref ha1_1, .ref ha1_2, .int ia1_3, .ref ha1_4, .ref ha1_5, .ref ha1_6, .ref ha1_7, .int ia1_8, .int ia1_9, .int ia1_10, .ref ha1_11])), (ha2, .inl (cI, 12, .inl fa2))]) [0, 1, 9, 2, 3, 4, 5, 6, 7, 8] rfl
            have hD9 := hD.sub (ws' := [(ha0_0_0, .inl (cI, 12, .inl fa0_0_0)), (ha0_0, .inr (5, [.ref ha0_0_0, .int ia0_0_1])), (ha0_1, .inr (9, [.int v20, .int v21, .int v22, .int v23, .int v24])), (ha0, .inr (2, [.ref ha0_0, .ref ha0_1, .int ia0_2])), (ha1_0, .inl (cQ, 5, .inr (.inr (.inr (.inr (fun i => (ga1_0 i).1)))))), (ha1_1, .inl (cI, 5, .inl fa1_1)), (ha1_2, .inl (cI, 5, .inl fa1_2)), (ha1_4, .inl (cI, 12, .inl fa1_4)), (ha1, .inr (7, [.ref ha1_0, .ref ha1_1, .ref ha1_2, .int ia1_3, .ref ha1_4, .ref ha1_5, .ref ha1_6, .ref ha1_7, .int ia1_8, .int ia1_9, .int ia1_10, .ref ha1_11])), (ha2, .inl (cI, 12, .inl fa2))]) [0, 1, 9, 2, 3, 4, 5, 6, 7, 8] (by decide) rfl
            exact W.iret (v := v3) hx hb hr (fun t ht hW => ⟨⟨v3, (fun k => [v20, v21, v22, v23, v24].getD k 0, fun k => [].getD k (fun _ => 0)), rfl, (show ((-2147483648) ≤ (v20 : Int32).toInt ∧ (v20 : Int32).toInt ≤ 2147483647) ∧ ((-2147483648) ≤ (v21 : Int32).toInt ∧ (v21 : Int32).toInt ≤ 2147483647) ∧ ((-2147483648) ≤ (v22 : Int32).toInt ∧ (v22 : Int32).toInt ≤ 2147483647) ∧ ((-2147483648) ≤ (v23 : Int32).toInt ∧ (v23 : Int32).toInt ≤ 2147483647) ∧ ((-2147483648) ≤ (v24 : Int32).toInt ∧ (v24 : Int32).toInt ≤ 2147483647) ∧ ((-9) ≤ (v3 : Int32).toInt ∧ (v3 : Int32).toInt ≤ 11) ∧ (True) from ⟨⟨(z_lo v20), (z_hi v20)⟩, ⟨(z_lo v21), (z_hi v21)⟩, ⟨(z_lo v22), (z_hi v22)⟩, ⟨(z_lo v23), (z_hi v23)⟩, ⟨(z_lo v24), (z_hi v24)⟩, ⟨by first | decide | omega, by first | decide | omega⟩, trivial⟩), by rw [ht]; exact hP9, hD9⟩, hS.F ht⟩) hS.2.2 dX2_firstOtherThanSaid_47
  exact hL153 ((12 - (0 : Int32).toInt).toNat + 1) 0 0 0 (-9) 0 0 _ _ ls (by decide) (by decide) (by omega) hl hP hD hS
set_option maxRecDepth 20000 in
theorem edX2_drawnLine_0 : decode cX2_drawnLine 0 = .ok (.iconst 0, 1) ∧ decode cX2_drawnLine 1 = .ok (.istore_n 2, 1) ∧ decode cX2_drawnLine 2 = .ok (.iconst 0, 1) ∧ decode cX2_drawnLine 3 = .ok (.istore_n 3, 1) ∧ decode cX2_drawnLine 4 = .ok (.iload_n 3, 1) ∧ decode cX2_drawnLine 5 = .ok (.aload_n 1, 1) ∧ decode cX2_drawnLine 6 = .ok (.getfield 59, 3) ∧ decode cX2_drawnLine 9 = .ok (.if_icmp .ge 27, 3) ∧ decode cX2_drawnLine 12 = .ok (.aload_n 0, 1) ∧ decode cX2_drawnLine 13 = .ok (.aload_n 1, 1) ∧ decode cX2_drawnLine 14 = .ok (.aload_n 0, 1) ∧ decode cX2_drawnLine 15 = .ok (.getfield 21, 3) := by decide +kernel
theorem dX2_drawnLine_0 : decode cX2_drawnLine 0 = .ok (.iconst 0, 1) := edX2_drawnLine_0.1
theorem dX2_drawnLine_1 : decode cX2_drawnLine 1 = .ok (.istore_n 2, 1) := edX2_drawnLine_0.2.1
theorem dX2_drawnLine_2 : decode cX2_drawnLine 2 = .ok (.iconst 0, 1) := edX2_drawnLine_0.2.2.1
theorem dX2_drawnLine_3 : decode cX2_drawnLine 3 = .ok (.istore_n 3, 1) := edX2_drawnLine_0.2.2.2.1
theorem dX2_drawnLine_4 : decode cX2_drawnLine 4 = .ok (.iload_n 3, 1) := edX2_drawnLine_0.2.2.2.2.1
theorem dX2_drawnLine_5 : decode cX2_drawnLine 5 = .ok (.aload_n 1, 1) := edX2_drawnLine_0.2.2.2.2.2.1
theorem dX2_drawnLine_6 : decode cX2_drawnLine 6 = .ok (.getfield 59, 3) := edX2_drawnLine_0.2.2.2.2.2.2.1
theorem dX2_drawnLine_9 : decode cX2_drawnLine 9 = .ok (.if_icmp .ge 27, 3) := edX2_drawnLine_0.2.2.2.2.2.2.2.1
theorem dX2_drawnLine_12 : decode cX2_drawnLine 12 = .ok (.aload_n 0, 1) := edX2_drawnLine_0.2.2.2.2.2.2.2.2.1
theorem dX2_drawnLine_13 : decode cX2_drawnLine 13 = .ok (.aload_n 1, 1) := edX2_drawnLine_0.2.2.2.2.2.2.2.2.2.1
theorem dX2_drawnLine_14 : decode cX2_drawnLine 14 = .ok (.aload_n 0, 1) := edX2_drawnLine_0.2.2.2.2.2.2.2.2.2.2.1
theorem dX2_drawnLine_15 : decode cX2_drawnLine 15 = .ok (.getfield 21, 3) := edX2_drawnLine_0.2.2.2.2.2.2.2.2.2.2.2
set_option maxRecDepth 20000 in
theorem edX2_drawnLine_18 : decode cX2_drawnLine 18 = .ok (.iload_n 3, 1) ∧ decode cX2_drawnLine 19 = .ok (.invokevirtual 62, 3) ∧ decode cX2_drawnLine 22 = .ok (.bipush (-9), 2) ∧ decode cX2_drawnLine 24 = .ok (.if_icmp .eq 6, 3) ∧ decode cX2_drawnLine 27 = .ok (.iinc 2 1, 3) ∧ decode cX2_drawnLine 30 = .ok (.iinc 3 1, 3) ∧ decode cX2_drawnLine 33 = .ok (.goto (-29), 3) ∧ decode cX2_drawnLine 36 = .ok (.iload_n 2, 1) ∧ decode cX2_drawnLine 37 = .ok (.iconst 2, 1) ∧ decode cX2_drawnLine 38 = .ok (.if_icmp .lt 11, 3) ∧ decode cX2_drawnLine 41 = .ok (.aload_n 0, 1) ∧ decode cX2_drawnLine 42 = .ok (.iload_n 2, 1) := by decide +kernel
theorem dX2_drawnLine_18 : decode cX2_drawnLine 18 = .ok (.iload_n 3, 1) := edX2_drawnLine_18.1
theorem dX2_drawnLine_19 : decode cX2_drawnLine 19 = .ok (.invokevirtual 62, 3) := edX2_drawnLine_18.2.1
theorem dX2_drawnLine_22 : decode cX2_drawnLine 22 = .ok (.bipush (-9), 2) := edX2_drawnLine_18.2.2.1
theorem dX2_drawnLine_24 : decode cX2_drawnLine 24 = .ok (.if_icmp .eq 6, 3) := edX2_drawnLine_18.2.2.2.1
theorem dX2_drawnLine_27 : decode cX2_drawnLine 27 = .ok (.iinc 2 1, 3) := edX2_drawnLine_18.2.2.2.2.1
theorem dX2_drawnLine_30 : decode cX2_drawnLine 30 = .ok (.iinc 3 1, 3) := edX2_drawnLine_18.2.2.2.2.2.1
theorem dX2_drawnLine_33 : decode cX2_drawnLine 33 = .ok (.goto (-29), 3) := edX2_drawnLine_18.2.2.2.2.2.2.1
theorem dX2_drawnLine_36 : decode cX2_drawnLine 36 = .ok (.iload_n 2, 1) := edX2_drawnLine_18.2.2.2.2.2.2.2.1
theorem dX2_drawnLine_37 : decode cX2_drawnLine 37 = .ok (.iconst 2, 1) := edX2_drawnLine_18.2.2.2.2.2.2.2.2.1
theorem dX2_drawnLine_38 : decode cX2_drawnLine 38 = .ok (.if_icmp .lt 11, 3) := edX2_drawnLine_18.2.2.2.2.2.2.2.2.2.1
theorem dX2_drawnLine_41 : decode cX2_drawnLine 41 = .ok (.aload_n 0, 1) := edX2_drawnLine_18.2.2.2.2.2.2.2.2.2.2.1
theorem dX2_drawnLine_42 : decode cX2_drawnLine 42 = .ok (.iload_n 2, 1) := edX2_drawnLine_18.2.2.2.2.2.2.2.2.2.2.2
set_option maxRecDepth 20000 in
theorem edX2_drawnLine_43 : decode cX2_drawnLine 43 = .ok (.invokevirtual 90, 3) ∧ decode cX2_drawnLine 46 = .ok (.goto 4, 3) ∧ decode cX2_drawnLine 49 = .ok (.iconst 0, 1) ∧ decode cX2_drawnLine 50 = .ok (.istore_n 3, 1) ∧ decode cX2_drawnLine 51 = .ok (.iconst 0, 1) ∧ decode cX2_drawnLine 52 = .ok (.istore 4, 2) ∧ decode cX2_drawnLine 54 = .ok (.iload 4, 2) ∧ decode cX2_drawnLine 56 = .ok (.aload_n 1, 1) ∧ decode cX2_drawnLine 57 = .ok (.getfield 59, 3) ∧ decode cX2_drawnLine 60 = .ok (.if_icmp .ge 46, 3) ∧ decode cX2_drawnLine 63 = .ok (.aload_n 0, 1) ∧ decode cX2_drawnLine 64 = .ok (.aload_n 1, 1) := by decide +kernel
theorem dX2_drawnLine_43 : decode cX2_drawnLine 43 = .ok (.invokevirtual 90, 3) := edX2_drawnLine_43.1
theorem dX2_drawnLine_46 : decode cX2_drawnLine 46 = .ok (.goto 4, 3) := edX2_drawnLine_43.2.1
theorem dX2_drawnLine_49 : decode cX2_drawnLine 49 = .ok (.iconst 0, 1) := edX2_drawnLine_43.2.2.1
theorem dX2_drawnLine_50 : decode cX2_drawnLine 50 = .ok (.istore_n 3, 1) := edX2_drawnLine_43.2.2.2.1
theorem dX2_drawnLine_51 : decode cX2_drawnLine 51 = .ok (.iconst 0, 1) := edX2_drawnLine_43.2.2.2.2.1
theorem dX2_drawnLine_52 : decode cX2_drawnLine 52 = .ok (.istore 4, 2) := edX2_drawnLine_43.2.2.2.2.2.1
theorem dX2_drawnLine_54 : decode cX2_drawnLine 54 = .ok (.iload 4, 2) := edX2_drawnLine_43.2.2.2.2.2.2.1
theorem dX2_drawnLine_56 : decode cX2_drawnLine 56 = .ok (.aload_n 1, 1) := edX2_drawnLine_43.2.2.2.2.2.2.2.1
theorem dX2_drawnLine_57 : decode cX2_drawnLine 57 = .ok (.getfield 59, 3) := edX2_drawnLine_43.2.2.2.2.2.2.2.2.1
theorem dX2_drawnLine_60 : decode cX2_drawnLine 60 = .ok (.if_icmp .ge 46, 3) := edX2_drawnLine_43.2.2.2.2.2.2.2.2.2.1
theorem dX2_drawnLine_63 : decode cX2_drawnLine 63 = .ok (.aload_n 0, 1) := edX2_drawnLine_43.2.2.2.2.2.2.2.2.2.2.1
theorem dX2_drawnLine_64 : decode cX2_drawnLine 64 = .ok (.aload_n 1, 1) := edX2_drawnLine_43.2.2.2.2.2.2.2.2.2.2.2
set_option maxRecDepth 20000 in
theorem edX2_drawnLine_65 : decode cX2_drawnLine 65 = .ok (.aload_n 0, 1) ∧ decode cX2_drawnLine 66 = .ok (.getfield 21, 3) ∧ decode cX2_drawnLine 69 = .ok (.iload 4, 2) ∧ decode cX2_drawnLine 71 = .ok (.invokevirtual 62, 3) ∧ decode cX2_drawnLine 74 = .ok (.istore 5, 2) ∧ decode cX2_drawnLine 76 = .ok (.iload 5, 2) ∧ decode cX2_drawnLine 78 = .ok (.bipush (-9), 2) ∧ decode cX2_drawnLine 80 = .ok (.if_icmp .eq 10, 3) ∧ decode cX2_drawnLine 83 = .ok (.iload_n 3, 1) ∧ decode cX2_drawnLine 84 = .ok (.ifCond .ne 6, 3) ∧ decode cX2_drawnLine 87 = .ok (.iload 5, 2) ∧ decode cX2_drawnLine 89 = .ok (.ireturn, 1) := by decide +kernel
theorem dX2_drawnLine_65 : decode cX2_drawnLine 65 = .ok (.aload_n 0, 1) := edX2_drawnLine_65.1
theorem dX2_drawnLine_66 : decode cX2_drawnLine 66 = .ok (.getfield 21, 3) := edX2_drawnLine_65.2.1
theorem dX2_drawnLine_69 : decode cX2_drawnLine 69 = .ok (.iload 4, 2) := edX2_drawnLine_65.2.2.1
theorem dX2_drawnLine_71 : decode cX2_drawnLine 71 = .ok (.invokevirtual 62, 3) := edX2_drawnLine_65.2.2.2.1
theorem dX2_drawnLine_74 : decode cX2_drawnLine 74 = .ok (.istore 5, 2) := edX2_drawnLine_65.2.2.2.2.1
theorem dX2_drawnLine_76 : decode cX2_drawnLine 76 = .ok (.iload 5, 2) := edX2_drawnLine_65.2.2.2.2.2.1
theorem dX2_drawnLine_78 : decode cX2_drawnLine 78 = .ok (.bipush (-9), 2) := edX2_drawnLine_65.2.2.2.2.2.2.1
theorem dX2_drawnLine_80 : decode cX2_drawnLine 80 = .ok (.if_icmp .eq 10, 3) := edX2_drawnLine_65.2.2.2.2.2.2.2.1
theorem dX2_drawnLine_83 : decode cX2_drawnLine 83 = .ok (.iload_n 3, 1) := edX2_drawnLine_65.2.2.2.2.2.2.2.2.1
theorem dX2_drawnLine_84 : decode cX2_drawnLine 84 = .ok (.ifCond .ne 6, 3) := edX2_drawnLine_65.2.2.2.2.2.2.2.2.2.1
theorem dX2_drawnLine_87 : decode cX2_drawnLine 87 = .ok (.iload 5, 2) := edX2_drawnLine_65.2.2.2.2.2.2.2.2.2.2.1
theorem dX2_drawnLine_89 : decode cX2_drawnLine 89 = .ok (.ireturn, 1) := edX2_drawnLine_65.2.2.2.2.2.2.2.2.2.2.2
set_option maxRecDepth 20000 in
theorem edX2_drawnLine_90 : decode cX2_drawnLine 90 = .ok (.iload 5, 2) ∧ decode cX2_drawnLine 92 = .ok (.bipush (-9), 2) ∧ decode cX2_drawnLine 94 = .ok (.if_icmp .eq 6, 3) ∧ decode cX2_drawnLine 97 = .ok (.iinc 3 (-1), 3) ∧ decode cX2_drawnLine 100 = .ok (.iinc 4 1, 3) ∧ decode cX2_drawnLine 103 = .ok (.goto (-49), 3) ∧ decode cX2_drawnLine 106 = .ok (.bipush (-9), 2) ∧ decode cX2_drawnLine 108 = .ok (.ireturn, 1) := by decide +kernel
theorem dX2_drawnLine_90 : decode cX2_drawnLine 90 = .ok (.iload 5, 2) := edX2_drawnLine_90.1
theorem dX2_drawnLine_92 : decode cX2_drawnLine 92 = .ok (.bipush (-9), 2) := edX2_drawnLine_90.2.1
theorem dX2_drawnLine_94 : decode cX2_drawnLine 94 = .ok (.if_icmp .eq 6, 3) := edX2_drawnLine_90.2.2.1
theorem dX2_drawnLine_97 : decode cX2_drawnLine 97 = .ok (.iinc 3 (-1), 3) := edX2_drawnLine_90.2.2.2.1
theorem dX2_drawnLine_100 : decode cX2_drawnLine 100 = .ok (.iinc 4 1, 3) := edX2_drawnLine_90.2.2.2.2.1
theorem dX2_drawnLine_103 : decode cX2_drawnLine 103 = .ok (.goto (-49), 3) := edX2_drawnLine_90.2.2.2.2.2.1
theorem dX2_drawnLine_106 : decode cX2_drawnLine 106 = .ok (.bipush (-9), 2) := edX2_drawnLine_90.2.2.2.2.2.2.1
theorem dX2_drawnLine_108 : decode cX2_drawnLine 108 = .ok (.ireturn, 1) := edX2_drawnLine_90.2.2.2.2.2.2.2
noncomputable def voX2_drawnLine : List Cond := [.fieldLink RX2 59 "EachOnHisCue$Play" "players" "I", .fieldLink RX2 21 "EachOnHisCue$Evening" "saying" "LEachOnHisCue$Saying;", .methodLink RX2 62 yX2_comesWith, .instanceMethod yX2_comesWith, .selects RX2 yX2_comesWith yX2_comesWith, .initialized RX2, .methodLink RX2 90 yX2_draw, .instanceMethod yX2_draw, .selects RX2 yX2_draw yX2_draw]
noncomputable def vsX2_drawnLine : List Cond := .code yX2_drawnLine cX2_drawnLine 6 (some .int) :: (voX2_drawnLine ++ (vsX2_comesWith ++ (vsX2_draw ++ (wsX20 ++ (wsX70)))))
theorem zgX2_drawnLine : zGd vsX2_drawnLine := z_gdC rfl (z_gdA (z_gdO (by decide +kernel) : zGd voX2_drawnLine) (z_gdA zgX2_comesWith (z_gdA zgX2_draw (z_gdA zgX2 (zgX7)))))
theorem in_X2_drawnLine_X2 : ∀ w ∈ wsX20, w ∈ vsX2_drawnLine := fun _ h => List.mem_cons_of_mem _ (List.mem_append_right _ (List.mem_append_right _ (List.mem_append_right _ (List.mem_append_left _ h))))
theorem in_X2_drawnLine_X7 : ∀ w ∈ wsX70, w ∈ vsX2_drawnLine := fun _ h => List.mem_cons_of_mem _ (List.mem_append_right _ (List.mem_append_right _ (List.mem_append_right _ (List.mem_append_right _ (h)))))
theorem gw_X2_drawnLine_X2_comesWith : GoodIn vsX2_drawnLine vsX2_comesWith := z_gdI (fun _ h => List.mem_cons_of_mem _ (List.mem_append_right _ (List.mem_append_left _ h))) zgX2_comesWith
set_option maxRecDepth 20000 in
theorem gv_X2_drawnLine_X2_comesWith_62 : GoodIn vsX2_drawnLine (wsV RX2 62 RX2 yX2_comesWith vsX2_comesWith) := goodIn_app (goodIn_of _ (by decide +kernel)) gw_X2_drawnLine_X2_comesWith
theorem gw_X2_drawnLine_X2_draw : GoodIn vsX2_drawnLine vsX2_draw := z_gdI (fun _ h => List.mem_cons_of_mem _ (List.mem_append_right _ (List.mem_append_right _ (List.mem_append_left _ h)))) zgX2_draw
set_option maxRecDepth 20000 in
theorem gv_X2_drawnLine_X2_draw_90 : GoodIn vsX2_drawnLine (wsV RX2 90 RX2 yX2_draw vsX2_draw) := goodIn_app (goodIn_of _ (by decide +kernel)) gw_X2_drawnLine_X2_draw
set_option maxHeartbeats 4000000 in
set_option maxRecDepth 100000 in
theorem wX2_drawnLine (l : Launch) (dC : Nat → ClassId) (dI : Nat → Nat → Nat) (cI cQ : ClassId) (ha0 ha1 ha0_0_0 ha0_0 ha0_1 ha1_0 ha1_2 ha1_1 ha1_4 ha1_5 ha1_6 ha1_7 ha1_11 : Nat) (PL : Nat → Nat → Int32 → Prop) (fa0_0_0 : Nat → Int32) (ia0_0_1 : Int32) (hia0_0_1l : 0 ≤ ia0_0_1.toInt) (hia0_0_1h : ia0_0_1.toInt ≤ 12) (ia0_1_0 : Int32) (ia0_1_1 : Int32) (ia0_1_2 : Int32) (ia0_1_3 : Int32) (ia0_1_4 : Int32) (ia0_2 : Int32) (ga1_0 : Nat → ZQ) (hPLga1_0 : zHp PL ga1_0) (fa1_2 : Nat → Int32) (ia1_3 : Int32) (hia1_3l : 0 ≤ ia1_3.toInt) (hia1_3h : ia1_3.toInt ≤ 5) (ia1_8 : Int32) (ia1_9 : Int32) (hia1_9l : 0 ≤ ia1_9.toInt) (hia1_9h : ia1_9.toInt ≤ 12) (ia1_10 : Int32) (sz : Nat) : Met l yX2_drawnLine vsX2_drawnLine ({ frames := 4, cells := 0, slots := 0, locals := 92 }) (va_Pc [.ref ha0, .ref ha1] (zBP dC dI cI cQ PL [(ha0_0_0, .inl (cI, 12, .inl fa0_0_0)), (ha0_0, .inr (5, [.ref ha0_0_0, .int ia0_0_1])), (ha0_1, .inr (9, [.int ia0_1_0, .int ia0_1_1, .int ia0_1_2, .int ia0_1_3, .int ia0_1_4])), (ha0, .inr (2, [.ref ha0_0, .ref ha0_1, .int ia0_2])), (ha1_0, .inl (cQ, 5, .inr (.inr (.inr (.inr (fun i => (ga1_0 i).1)))))), (ha1_2, .inl (cI, 5, .inl fa1_2)), (ha1, .inr (7, [.ref ha1_0, .ref ha1_1, .ref ha1_2, .int ia1_3, .ref ha1_4, .ref ha1_5, .ref ha1_6, .ref ha1_7, .int ia1_8, .int ia1_9, .int ia1_10, .ref ha1_11]))] sz)) (zWi dC dI (va_A [(ha0_0_0, .inl (cI, 12, .inl fa0_0_0)), (ha0_0, .inr (5, [.ref ha0_0_0, .int ia0_0_1])), (ha0_1, .inr (9, [.int ia0_1_0, .int ia0_1_1, .int ia0_1_2, .int ia0_1_3, .int ia0_1_4])), (ha0, .inr (2, [.ref ha0_0, .ref ha0_1, .int ia0_2])), (ha1_0, .inl (cQ, 5, .inr (.inr (.inr (.inr (fun i => (ga1_0 i).1)))))), (ha1_2, .inl (cI, 5, .inl fa1_2)), (ha1, .inr (7, [.ref ha1_0, .ref ha1_1, .ref ha1_2, .int ia1_3, .ref ha1_4, .ref ha1_5, .ref ha1_6, .ref ha1_7, .int ia1_8, .int ia1_9, .int ia1_10, .ref ha1_11]))] sz) (fun u => [(ha0_0_0, .inl (cI, 12, .inl fa0_0_0)), (ha0_0, .inr (5, [.ref ha0_0_0, .int ia0_0_1])), (ha0_1, .inr (9, [.int ia0_1_0, .int ia0_1_1, .int ia0_1_2, .int ia0_1_3, .int ia0_1_4])), (ha0, .inr (2, [.ref ha0_0, .ref ha0_1, .int (u.1 0)])), (ha1_0, .inl (cQ, 5, .inr (.inr (.inr (.inr (fun i => (ga1_0 i).1)))))), (ha1_2, .inl (cI, 5, .inl fa1_2)), (ha1, .inr (7, [.ref ha1_0, .ref ha1_1, .ref ha1_2, .int ia1_3, .ref ha1_4, .ref ha1_5, .ref ha1_6, .ref ha1_7, .int ia1_8, .int ia1_9, .int ia1_10, .ref ha1_11]))]) (fun r u => ((-2147483648) ≤ (u.1 0).toInt ∧ (u.1 0).toInt ≤ 2147483647) ∧ ((-9) ≤ r.toInt ∧ r.toInt ≤ 11) ∧ True)) 0 0 (va_A [(ha0_0_0, .inl (cI, 12, .inl fa0_0_0)), (ha0_0, .inr (5, [.ref ha0_0_0, .int ia0_0_1])), (ha0_1, .inr (9, [.int ia0_1_0, .int ia0_1_1, .int ia0_1_2, .int ia0_1_3, .int ia0_1_4])), (ha0, .inr (2, [.ref ha0_0, .ref ha0_1, .int ia0_2])), (ha1_0, .inl (cQ, 5, .inr (.inr (.inr (.inr (fun i => (ga1_0 i).1)))))), (ha1_2, .inl (cI, 5, .inl fa1_2)), (ha1, .inr (7, [.ref ha1_0, .ref ha1_1, .ref ha1_2, .int ia1_3, .ref ha1_4, .ref ha1_5, .ref ha1_6, .ref ha1_7, .int ia1_8, .int ia1_9, .int ia1_10, .ref ha1_11]))] sz) := by
  refine Met.ofW (cc := cX2_drawnLine) (maxL := 6) (ret := (some .int)) (by decide) rfl ?_
  intro p e s m args below meth c s₁ B hml hv
  obtain ⟨rfl, ⟨hsz, hP, hZ, hD0⟩, hPl0, hPlN⟩ := hv
  obtain ⟨hK, hAO, hN⟩ := id hZ
  have hx := B.exec
  have hb := B.bytes
  have hr := B.returns
  have hts := atoms_spec (ws := vsX2_drawnLine) B.pre
  have hown : s.vm.findClass RX2 = some m.cls := findClass_of_methodNamed B.named
  have hlocks := B.notSynchronized
  subst hsz
  have hD := hD0.self (sz := s.heap.size)
  have hPlA := z_plA hPlN
  generalize hAe : va_A [(ha0_0_0, .inl (cI, 12, .inl fa0_0_0)), (ha0_0, .inr (5, [.ref ha0_0_0, .int ia0_0_1])), (ha0_1, .inr (9, [.int ia0_1_0, .int ia0_1_1, .int ia0_1_2, .int ia0_1_3, .int ia0_1_4])), (ha0, .inr (2, [.ref ha0_0, .ref ha0_1, .int ia0_2])), (ha1_0, .inl (cQ, 5, .inr (.inr (.inr (.inr (fun i => (ga1_0 i).1)))))), (ha1_2, .inl (cI, 5, .inl fa1_2)), (ha1, .inr (7, [.ref ha1_0, .ref ha1_1, .ref ha1_2, .int ia1_3, .ref ha1_4, .ref ha1_5, .ref ha1_6, .ref ha1_7, .int ia1_8, .int ia1_9, .int ia1_10, .ref ha1_11]))] s.heap.size = A at hD hPlA ⊢
  have hA : ∀ q : Nat, s.heap.size ≤ q → A q := fun q h => by rw [← hAe]; exact Or.inr h
  have hS : va_S A s.heap s.heap [] := va_S.rf
  have hP : va_P (dC, dI) vwCl [(ha0_0_0, .inl (cI, 12, .inl fa0_0_0)), (ha0_0, .inr (5, [.ref ha0_0_0, .int ia0_0_1])), (ha0_1, .inr (9, [.int ia0_1_0, .int ia0_1_1, .int ia0_1_2, .int ia0_1_3, .int ia0_1_4])), (ha0, .inr (2, [.ref ha0_0, .ref ha0_1, .int ia0_2])), (ha1_0, .inl (cQ, 5, .inr (.inr (.inr (.inr (fun i => (ga1_0 i).1)))))), (ha1_2, .inl (cI, 5, .inl fa1_2)), (ha1, .inr (7, [.ref ha1_0, .ref ha1_1, .ref ha1_2, .int ia1_3, .ref ha1_4, .ref ha1_5, .ref ha1_6, .ref ha1_7, .int ia1_8, .int ia1_9, .int ia1_10, .ref ha1_11]))] s.heap := hP
  have hl := lv_entry ([.ref ha0, .ref ha1]) (n := 6) (Nat.le_of_ble_eq_true rfl)
  rw [lg_entry_eq]
  generalize (lg_sl ([.ref ha0, .ref ha1]) ++ List.replicate (6 - (lg_sl ([.ref ha0, .ref ha1])).length) Slot.unset).toArray = ls at hl ⊢
  have hl : lv_has ls 6 [(0, .ref ha0), (1, .ref ha1)] := hl
  refine lv_iconst (v := 0) hx hb dX2_drawnLine_0 (by decide) ?_
  refine lv_istore_n (lv' := [(2, .int 0), (0, .ref ha0), (1, .ref ha1)]) hx hb dX2_drawnLine_1 rfl hl (by decide) rfl (fun ls hl => ?_)
  refine lv_iconst (v := 0) hx hb dX2_drawnLine_2 (by decide) ?_
  refine lv_istore_n (lv' := [(3, .int 0), (2, .int 0), (0, .ref ha0), (1, .ref ha1)]) hx hb dX2_drawnLine_3 rfl hl (by decide) rfl (fun ls hl => ?_)
  have hL2786 : ∀ (n : Nat) (v1 : Int32) (v2 : Int32) (H : Heap) (locs : List Loc) (ls : Array Slot), 0 ≤ v1.toInt → v1.toInt ≤ 5 → (5 - v1.toInt).toNat < n → lv_has ls 6 [(3, .int v1), (2, .int v2), (0, .ref ha0), (1, .ref ha1)] → va_P (dC, dI) vwCl [(ha0_0_0, .inl (cI, 12, .inl fa0_0_0)), (ha0_0, .inr (5, [.ref ha0_0_0, .int ia0_0_1])), (ha0_1, .inr (9, [.int ia0_1_0, .int ia0_1_1, .int ia0_1_2, .int ia0_1_3, .int ia0_1_4])), (ha0, .inr (2, [.ref ha0_0, .ref ha0_1, .int ia0_2])), (ha1_0, .inl (cQ, 5, .inr (.inr (.inr (.inr (fun i => (ga1_0 i).1)))))), (ha1_2, .inl (cI, 5, .inl fa1_2)), (ha1, .inr (7, [.ref ha1_0, .ref ha1_1, .ref ha1_2, .int ia1_3, .ref ha1_4, .ref ha1_5, .ref ha1_6, .ref ha1_7, .int ia1_8, .int ia1_9, .int ia1_10, .ref ha1_11]))] H → va_D A [(ha0_0_0, .inl (cI, 12, .inl fa0_0_0)), (ha0_0, .inr (5, [.ref ha0_0_0, .int ia0_0_1])), (ha0_1, .inr (9, [.int ia0_1_0, .int ia0_1_1, .int ia0_1_2, .int ia0_1_3, .int ia0_1_4])), (ha0, .inr (2, [.ref ha0_0, .ref ha0_1, .int ia0_2])), (ha1_0, .inl (cQ, 5, .inr (.inr (.inr (.inr (fun i => (ga1_0 i).1)))))), (ha1_2, .inl (cI, 5, .inl fa1_2)), (ha1, .inr (7, [.ref ha1_0, .ref ha1_1, .ref ha1_2, .int ia1_3, .ref ha1_4, .ref ha1_5, .ref ha1_6, .ref ha1_7, .int ia1_8, .int ia1_9, .int ia1_10, .ref ha1_11]))] → va_S A s.heap H locs → W p l e (headSpec vsX2_drawnLine ({ frames := 4, cells := 0, slots := 0, locals := 92 })).room s m ([.ref ha0, .ref ha1] : List Value).toArray below meth c H locs 0 0 (MQ below (zWi dC dI (A) (fun u => [(ha0_0_0, .inl (cI, 12, .inl fa0_0_0)), (ha0_0, .inr (5, [.ref ha0_0_0, .int ia0_0_1])), (ha0_1, .inr (9, [.int ia0_1_0, .int ia0_1_1, .int ia0_1_2, .int ia0_1_3, .int ia0_1_4])), (ha0, .inr (2, [.ref ha0_0, .ref ha0_1, .int (u.1 0)])), (ha1_0, .inl (cQ, 5, .inr (.inr (.inr (.inr (fun i => (ga1_0 i).1)))))), (ha1_2, .inl (cI, 5, .inl fa1_2)), (ha1, .inr (7, [.ref ha1_0, .ref ha1_1, .ref ha1_2, .int ia1_3, .ref ha1_4, .ref ha1_5, .ref ha1_6, .ref ha1_7, .int ia1_8, .int ia1_9, .int ia1_10, .ref ha1_11]))]) (fun r u => ((-2147483648) ≤ (u.1 0).toInt ∧ (u.1 0).toInt ≤ 2147483647) ∧ ((-9) ≤ r.toInt ∧ r.toInt ≤ 11) ∧ True)) ([.ref ha0, .ref ha1] : List Value).toArray s 0 0 A) (F0 m 4 ls []) := by
    intro n
    induction n with
    | zero =>
      intro v1 v2 H locs ls hi2787_0 hi2787_1 hi2787_m hl hP hD hS
      exact absurd hi2787_m (Nat.not_lt_zero _)
    | succ n ih =>
      intro v1 v2 H locs ls hi2787_0 hi2787_1 hi2787_m hl hP hD hS
      have ih2788 := ih
      refine lv_iload_n hx hb dX2_drawnLine_4 rfl (lv_at hl 0 rfl) ?_
      refine lv_aload_n hx hb dX2_drawnLine_5 rfl (lv_at hl 3 rfl) ?_
      refine va_get (D := (dC, dI)) (ci := 7) (v := .int ia1_3) (C := RX7) (T := TX7) (N := 12) hx hb hts in_X2_drawnLine_X7 hown hK hP 6 rfl rfl 3 (by decide) (hts (.fieldLink RX2 59 "EachOnHisCue$Play" "players" "I") (by decide +kernel)) (fun _ h9 => h9) rfl dX2_drawnLine_6 ?_
      refine lv_icmp_ge (tgt := 36) hx hb dX2_drawnLine_9 (by decide) (fun hc => ?_) (fun hc => ?_)
      · have q2789 : ia1_3.toInt ≤ v1.toInt := z_le rfl rfl hc
        refine lv_iload_n hx hb dX2_drawnLine_36 rfl (lv_at hl 1 rfl) ?_
        refine lv_iconst (v := 2) hx hb dX2_drawnLine_37 (by decide) ?_
        refine lv_icmp_lt (tgt := 49) hx hb dX2_drawnLine_38 (by decide) (fun hc => ?_) (fun hc => ?_)
        · have q2790 : v2.toInt < 2 := z_lt rfl (by decide) hc
          refine lv_iconst (v := 0) hx hb dX2_drawnLine_49 (by decide) ?_
          refine lv_istore_n (lv' := [(3, .int 0), (2, .int v2), (0, .ref ha0), (1, .ref ha1)]) hx hb dX2_drawnLine_50 rfl hl (by decide) rfl (fun ls hl => ?_)
          refine lv_iconst (v := 0) hx hb dX2_drawnLine_51 (by decide) ?_
          refine lv_istore (lv' := [(4, .int 0), (3, .int 0), (2, .int v2), (0, .ref ha0), (1, .ref ha1)]) hx hb dX2_drawnLine_52 hl (by decide) rfl (fun ls hl => ?_)
          have hL2843 : ∀ (n : Nat) (v2791 : Int32) (v2792 : Int32) (H : Heap) (locs : List Loc) (ls : Array Slot), 0 ≤ v2791.toInt → v2791.toInt ≤ 5 → 0 ≤ v2792.toInt → v2792.toInt ≤ 0 → (5 - v2791.toInt).toNat < n → lv_has ls 6 [(4, .int v2791), (3, .int v2792), (2, .int v2), (0, .ref ha0), (1, .ref ha1)] → va_P (dC, dI) vwCl [(ha0_0_0, .inl (cI, 12, .inl fa0_0_0)), (ha0_0, .inr (5, [.ref ha0_0_0, .int ia0_0_1])), (ha0_1, .inr (9, [.int ia0_1_0, .int ia0_1_1, .int ia0_1_2, .int ia0_1_3, .int ia0_1_4])), (ha0, .inr (2, [.ref ha0_0, .ref ha0_1, .int ia0_2])), (ha1_0, .inl (cQ, 5, .inr (.inr (.inr (.inr (fun i => (ga1_0 i).1)))))), (ha1_2, .inl (cI, 5, .inl fa1_2)), (ha1, .inr (7, [.ref ha1_0, .ref ha1_1, .ref ha1_2, .int ia1_3, .ref ha1_4, .ref ha1_5, .ref ha1_6, .ref ha1_7, .int ia1_8, .int ia1_9, .int ia1_10, .ref ha1_11]))] H → va_D A [(ha0_0_0, .inl (cI, 12, .inl fa0_0_0)), (ha0_0, .inr (5, [.ref ha0_0_0, .int ia0_0_1])), (ha0_1, .inr (9, [.int ia0_1_0, .int ia0_1_1, .int ia0_1_2, .int ia0_1_3, .int ia0_1_4])), (ha0, .inr (2, [.ref ha0_0, .ref ha0_1, .int ia0_2])), (ha1_0, .inl (cQ, 5, .inr (.inr (.inr (.inr (fun i => (ga1_0 i).1)))))), (ha1_2, .inl (cI, 5, .inl fa1_2)), (ha1, .inr (7, [.ref ha1_0, .ref ha1_1, .ref ha1_2, .int ia1_3, .ref ha1_4, .ref ha1_5, .ref ha1_6, .ref ha1_7, .int ia1_8, .int ia1_9, .int ia1_10, .ref ha1_11]))] → va_S A s.heap H locs → W p l e (headSpec vsX2_drawnLine ({ frames := 4, cells := 0, slots := 0, locals := 92 })).room s m ([.ref ha0, .ref ha1] : List Value).toArray below meth c H locs 0 0 (MQ below (zWi dC dI (A) (fun u => [(ha0_0_0, .inl (cI, 12, .inl fa0_0_0)), (ha0_0, .inr (5, [.ref ha0_0_0, .int ia0_0_1])), (ha0_1, .inr (9, [.int ia0_1_0, .int ia0_1_1, .int ia0_1_2, .int ia0_1_3, .int ia0_1_4])), (ha0, .inr (2, [.ref ha0_0, .ref ha0_1, .int (u.1 0)])), (ha1_0, .inl (cQ, 5, .inr (.inr (.inr (.inr (fun i => (ga1_0 i).1)))))), (ha1_2, .inl (cI, 5, .inl fa1_2)), (ha1, .inr (7, [.ref ha1_0, .ref ha1_1, .ref ha1_2, .int ia1_3, .ref ha1_4, .ref ha1_5, .ref ha1_6, .ref ha1_7, .int ia1_8, .int ia1_9, .int ia1_10, .ref ha1_11]))]) (fun r u => ((-2147483648) ≤ (u.1 0).toInt ∧ (u.1 0).toInt ≤ 2147483647) ∧ ((-9) ≤ r.toInt ∧ r.toInt ≤ 11) ∧ True)) ([.ref ha0, .ref ha1] : List Value).toArray s 0 0 A) (F0 m 54 ls []) := by
            intro n
            induction n with
            | zero =>
              intro v2791 v2792 H locs ls hi2844_0 hi2844_1 hi2844_2 hi2844_3 hi2844_m hl hP hD hS
              exact absurd hi2844_m (Nat.not_lt_zero _)
            | succ n ih =>
              intro v2791 v2792 H locs ls hi2844_0 hi2844_1 hi2844_2 hi2844_3 hi2844_m hl hP hD hS
              have ih2845 := ih
              refine lv_iload hx hb dX2_drawnLine_54 (lv_at hl 0 rfl) ?_
              refine lv_aload_n hx hb dX2_drawnLine_56 rfl (lv_at hl 4 rfl) ?_
              refine va_get (D := (dC, dI)) (ci := 7) (v := .int ia1_3) (C := RX7) (T := TX7) (N := 12) hx hb hts in_X2_drawnLine_X7 hown hK hP 6 rfl rfl 3 (by decide) (hts (.fieldLink RX2 59 "EachOnHisCue$Play" "players" "I") (by decide +kernel)) (fun _ h9 => h9) rfl dX2_drawnLine_57 ?_
              refine lv_icmp_ge (tgt := 106) hx hb dX2_drawnLine_60 (by decide) (fun hc => ?_) (fun hc => ?_)
              · have q2846 : ia1_3.toInt ≤ v2791.toInt := z_le rfl rfl hc
                refine lv_bipush (v := (-9)) hx hb dX2_drawnLine_106 (by decide) ?_
                have hP9 := hP.sub (ws' := [(ha0_0_0, .inl (cI, 12, .inl fa0_0_0)), (ha0_0, .inr (5, [.ref ha0_0_0, .int ia0_0_1])), (ha0_1, .inr (9, [.int ia0_1_0, .int ia0_1_1, .int ia0_1_2, .int ia0_1_3, .int ia0_1_4])), (ha0, .inr (2, [.ref ha0_0, .ref ha0_1, .int ia0_2])), (ha1_0, .inl (cQ, 5, .inr (.inr (.inr (.inr (fun i => (ga1_0 i).1)))))), (ha1_2, .inl (cI, 5, .inl fa1_2)), (ha1, .inr (7, [.ref ha1_0, .ref ha1_1, .ref ha1_2, .int ia1_3, .ref ha1_4, .ref ha1_5, .ref ha1_6, .ref ha1_7, .int ia1_8, .int ia1_9, .int ia1_10, .ref ha1_11]))]) [0, 1, 2, 3, 4, 5, 6] rfl
                have hD9 := hD.sub (ws' := [(ha0_0_0, .inl (cI, 12, .inl fa0_0_0)), (ha0_0, .inr (5, [.ref ha0_0_0, .int ia0_0_1])), (ha0_1, .inr (9, [.int ia0_1_0, .int ia0_1_1, .int ia0_1_2, .int ia0_1_3, .int ia0_1_4])), (ha0, .inr (2, [.ref ha0_0, .ref ha0_1, .int ia0_2])), (ha1_0, .inl (cQ, 5, .inr (.inr (.inr (.inr (fun i => (ga1_0 i).1)))))), (ha1_2, .inl (cI, 5, .inl fa1_2)), (ha1, .inr (7, [.ref ha1_0, .ref ha1_1, .ref ha1_2, .int ia1_3, .ref ha1_4, .ref ha1_5, .ref ha1_6, .ref ha1_7, .int ia1_8, .int ia1_9, .int ia1_10, .ref ha1_11]))]) [0, 1, 2, 3, 4, 5, 6] (by decide) rfl
                exact W.iret (v := (-9)) hx hb hr (fun t ht hW => ⟨⟨(-9), (fun k => [ia0_2].getD k 0, fun k => [].getD k (fun _ => 0)), rfl, (show ((-2147483648) ≤ (ia0_2 : Int32).toInt ∧ (ia0_2 : Int32).toInt ≤ 2147483647) ∧ ((-9) ≤ ((-9) : Int32).toInt ∧ ((-9) : Int32).toInt ≤ 11) ∧ (True) from ⟨⟨(z_lo _), (z_hi _)⟩, ⟨by first | decide | omega, by first | decide | omega⟩, trivial⟩), by rw [ht]; exact hP9, hD9⟩, hS.F ht⟩) hS.2.2 dX2_drawnLine_108
              · have q2847 : v2791.toInt < ia1_3.toInt := z_nle rfl rfl hc
                refine lv_aload_n hx hb dX2_drawnLine_63 rfl (lv_at hl 3 rfl) ?_
                refine lv_aload_n hx hb dX2_drawnLine_64 rfl (lv_at hl 4 rfl) ?_
                refine lv_aload_n hx hb dX2_drawnLine_65 rfl (lv_at hl 3 rfl) ?_
                refine va_get (D := (dC, dI)) (ci := 2) (v := .ref ha0_1) (C := RX2) (T := TX2) (N := 3) hx hb hts in_X2_drawnLine_X2 hown hK hP 3 rfl rfl 1 (by decide) (hts (.fieldLink RX2 21 "EachOnHisCue$Evening" "saying" "LEachOnHisCue$Saying;") (by decide +kernel)) (fun _ h9 => h9) rfl dX2_drawnLine_66 ?_
                refine lv_iload hx hb dX2_drawnLine_69 (lv_at hl 0 rfl) ?_
                have hPl := z_plS hPl0 hPlA hS
                refine z_rdi (va_runV (As := [.ref ha1, .ref ha0_1, .int v2791]) (rest := []) ⟨hx, hb, hml, hown, hts⟩ (rX2_comesWith l dC dI cI cQ ha0 ha1 ha0_1 ha0_0_0 ha0_0 ha1_0 ha1_2 ha0_1 ha1_1 ha1_4 ha1_5 ha1_6 ha1_7 ha1_11 PL fa0_0_0 ia0_0_1 hia0_0_1l hia0_0_1h ia0_2 ga1_0 hPLga1_0 fa1_2 ia1_3 hia1_3l hia1_3h ia1_8 ia1_9 hia1_9l hia1_9h ia1_10 ia0_1_0 ia0_1_1 ia0_1_2 ia0_1_3 ia0_1_4 v2791) (cwV 3 hts gv_X2_drawnLine_X2_comesWith_62 rfl rfl rfl (by decide +kernel) ⟨Nat.le_of_ble_eq_true rfl, Nat.le_of_ble_eq_true rfl⟩) ⟨z_blindRP, va_recv hK hP (ci := 2) (q0 := 3) rfl rfl, z_preRP hZ hP hPl [0, 1, 3, 4, 5, 6, 2] rfl⟩ rfl rfl hl.1 rfl (lv_room (Nat.le_of_ble_eq_true rfl)) dX2_drawnLine_71 ⟨Nat.le_of_ble_eq_true rfl, Nat.le_of_ble_eq_true rfl⟩) (fun y2848 hy2848 => ?_)
                obtain ⟨hy2848_0, hy2848_1, hy2848_2⟩ := hy2848
                refine lv_istore (lv' := [(5, .int y2848), (4, .int v2791), (3, .int v2792), (2, .int v2), (0, .ref ha0), (1, .ref ha1)]) hx hb dX2_drawnLine_74 hl (by decide) rfl (fun ls hl => ?_)
                refine lv_iload hx hb dX2_drawnLine_76 (lv_at hl 0 rfl) ?_
                refine lv_bipush (v := (-9)) hx hb dX2_drawnLine_78 (by decide) ?_
                refine lv_icmp_eq (tgt := 90) hx hb dX2_drawnLine_80 (by decide) (fun hc => ?_) (fun hc => ?_)
                · have q2849 : y2848.toInt = (-9) := z_eq rfl (by decide) hc
                  refine lv_iload hx hb dX2_drawnLine_90 (lv_at hl 0 rfl) ?_
                  refine lv_bipush (v := (-9)) hx hb dX2_drawnLine_92 (by decide) ?_
                  refine lv_icmp_eq (tgt := 100) hx hb dX2_drawnLine_94 (by decide) (fun hc => ?_) (fun hc => ?_)
                  · have q2850 : y2848.toInt = (-9) := z_eq rfl (by decide) hc
                    obtain ⟨y2851, ey2851⟩ : ∃ y : Int32, y = v2791 + 1 := ⟨_, rfl⟩
                    refine lv_iinc (v := y2851) (lv' := [(4, .int y2851), (5, .int y2848), (3, .int v2792), (2, .int v2), (0, .ref ha0), (1, .ref ha1)]) hx hb dX2_drawnLine_100 hl (k := 1) rfl (by rw [ey2851]; rfl) (by decide) rfl (fun ls hl => ?_)
                    have hy2851 : y2851.toInt = v2791.toInt + 1 := by rw [ey2851]; exact z_add rfl (by decide) (by omega) (by omega)
                    refine lv_goto (tgt := 54) hx hb dX2_drawnLine_103 (by decide) ?_
                    exact ih2845 y2851 v2792 _ _ ls (by first | decide | omega) (by first | decide | omega) hi2844_2 hi2844_3 (by omega) (lv_sub hl [0, 2, 3, 4, 5] rfl) hP hD hS
                  · have q2852 : y2848.toInt ≠ (-9) := z_ne rfl (by decide) hc
                    exfalso; omega
                · have q2853 : y2848.toInt ≠ (-9) := z_ne rfl (by decide) hc
                  refine lv_iload_n hx hb dX2_drawnLine_83 rfl (lv_at hl 2 rfl) ?_
                  refine lv_if_ne (tgt := 90) hx hb dX2_drawnLine_84 (by decide) (fun hc => ?_) (fun hc => ?_)
                  · have q2854 : v2792.toInt ≠ 0 := z_ne rfl (by decide) hc
                    exfalso; omega
                  · have q2855 : v2792.toInt = 0 := z_eq rfl (by decide) hc
                    refine lv_iload hx hb dX2_drawnLine_87 (lv_at hl 0 rfl) ?_
                    have hP9 := hP.sub (ws' := [(ha0_0_0, .inl (cI, 12, .inl fa0_0_0)), (ha0_0, .inr (5, [.ref ha0_0_0, .int ia0_0_1])), (ha0_1, .inr (9, [.int ia0_1_0, .int ia0_1_1, .int ia0_1_2, .int ia0_1_3, .int ia0_1_4])), (ha0, .inr (2, [.ref ha0_0, .ref ha0_1, .int ia0_2])), (ha1_0, .inl (cQ, 5, .inr (.inr (.inr (.inr (fun i => (ga1_0 i).1)))))), (ha1_2, .inl (cI, 5, .inl fa1_2)), (ha1, .inr (7, [.ref ha1_0, .ref ha1_1, .ref ha1_2, .int ia1_3, .ref ha1_4, .ref ha1_5, .ref ha1_6, .ref ha1_7, .int ia1_8, .int ia1_9, .int ia1_10, .ref ha1_11]))]) [0, 1, 2, 3, 4, 5, 6] rfl
                    have hD9 := hD.sub (ws' := [(ha0_0_0, .inl (cI, 12, .inl fa0_0_0)), (ha0_0, .inr (5, [.ref ha0_0_0, .int ia0_0_1])), (ha0_1, .inr (9, [.int ia0_1_0, .int ia0_1_1, .int ia0_1_2, .int ia0_1_3, .int ia0_1_4])), (ha0, .inr (2, [.ref ha0_0, .ref ha0_1, .int ia0_2])), (ha1_0, .inl (cQ, 5, .inr (.inr (.inr (.inr (fun i => (ga1_0 i).1)))))), (ha1_2, .inl (cI, 5, .inl fa1_2)), (ha1, .inr (7, [.ref ha1_0, .ref ha1_1, .ref ha1_2, .int ia1_3, .ref ha1_4, .ref ha1_5, .ref ha1_6, .ref ha1_7, .int ia1_8, .int ia1_9, .int ia1_10, .ref ha1_11]))]) [0, 1, 2, 3, 4, 5, 6] (by decide) rfl
                    exact W.iret (v := y2848) hx hb hr (fun t ht hW => ⟨⟨y2848, (fun k => [ia0_2].getD k 0, fun k => [].getD k (fun _ => 0)), rfl, (show ((-2147483648) ≤ (ia0_2 : Int32).toInt ∧ (ia0_2 : Int32).toInt ≤ 2147483647) ∧ ((-9) ≤ (y2848 : Int32).toInt ∧ (y2848 : Int32).toInt ≤ 11) ∧ (True) from ⟨⟨(z_lo _), (z_hi _)⟩, ⟨by first | decide | omega, by first | decide | omega⟩, trivial⟩), by rw [ht]; exact hP9, hD9⟩, hS.F ht⟩) hS.2.2 dX2_drawnLine_89
          exact hL2843 ((5 - (0 : Int32).toInt).toNat + 1) 0 0 _ _ ls (by decide) (by decide) (by decide) (by decide) (by omega) hl hP hD hS
        · have q2856 : 2 ≤ v2.toInt := z_nlt rfl (by decide) hc
          refine lv_aload_n hx hb dX2_drawnLine_41 rfl (lv_at hl 2 rfl) ?_
          refine lv_iload_n hx hb dX2_drawnLine_42 rfl (lv_at hl 1 rfl) ?_
          refine z_cwi (wc := [(ha0, .inr (2, [.ref ha0_0, .ref ha0_1, .int ia0_2]))]) (wr := [(ha0_0_0, .inl (cI, 12, .inl fa0_0_0)), (ha0_0, .inr (5, [.ref ha0_0_0, .int ia0_0_1])), (ha0_1, .inr (9, [.int ia0_1_0, .int ia0_1_1, .int ia0_1_2, .int ia0_1_3, .int ia0_1_4])), (ha1_0, .inl (cQ, 5, .inr (.inr (.inr (.inr (fun i => (ga1_0 i).1)))))), (ha1_2, .inl (cI, 5, .inl fa1_2)), (ha1, .inr (7, [.ref ha1_0, .ref ha1_1, .ref ha1_2, .int ia1_3, .ref ha1_4, .ref ha1_5, .ref ha1_6, .ref ha1_7, .int ia1_8, .int ia1_9, .int ia1_10, .ref ha1_11]))]) (w1 := fun u2858 => [(ha0, .inr (2, [.ref ha0_0, .ref ha0_1, .int (u2858.1 0)]))]) (va_runV (As := [.int v2]) (rest := []) ⟨hx, hb, hml, hown, hts⟩ (wX2_draw l dC dI cI cQ ha0 ha0_0 ha0_1 ia0_2 v2 H.size) (cwV 1 hts gv_X2_drawnLine_X2_draw_90 rfl rfl rfl (by decide +kernel) ⟨Nat.le_of_ble_eq_true rfl, Nat.le_of_ble_eq_true rfl⟩) ⟨z_blind, va_recv hK hP (ci := 2) (q0 := 3) rfl rfl, z_pre hZ hP hD [3] rfl (by decide +kernel)⟩ rfl rfl hl.1 rfl (lv_room (Nat.le_of_ble_eq_true rfl)) dX2_drawnLine_43 ⟨Nat.le_of_ble_eq_true rfl, Nat.le_of_ble_eq_true rfl⟩) hP hD hS hA [3] [0, 1, 2, 4, 5, 6] rfl rfl (by decide +kernel) (by decide +kernel) (fun y2857 u2858 H locs hpo hP hD hS => ?_)
          generalize hgw2859 : u2858.1 0 = w2859 at hP hD hpo
          have hP : va_P (dC, dI) vwCl [(ha0_0_0, .inl (cI, 12, .inl fa0_0_0)), (ha0_0, .inr (5, [.ref ha0_0_0, .int ia0_0_1])), (ha0_1, .inr (9, [.int ia0_1_0, .int ia0_1_1, .int ia0_1_2, .int ia0_1_3, .int ia0_1_4])), (ha1_0, .inl (cQ, 5, .inr (.inr (.inr (.inr (fun i => (ga1_0 i).1)))))), (ha1_2, .inl (cI, 5, .inl fa1_2)), (ha1, .inr (7, [.ref ha1_0, .ref ha1_1, .ref ha1_2, .int ia1_3, .ref ha1_4, .ref ha1_5, .ref ha1_6, .ref ha1_7, .int ia1_8, .int ia1_9, .int ia1_10, .ref ha1_11])), (ha0, .inr (2, [.ref ha0_0, .ref ha0_1, .int w2859]))] H := hP
          have hD : va_D A [(ha0_0_0, .inl (cI, 12, .inl fa0_0_0)), (ha0_0, .inr (5, [.ref ha0_0_0, .int ia0_0_1])), (ha0_1, .inr (9, [.int ia0_1_0, .int ia0_1_1, .int ia0_1_2, .int ia0_1_3, .int ia0_1_4])), (ha1_0, .inl (cQ, 5, .inr (.inr (.inr (.inr (fun i => (ga1_0 i).1)))))), (ha1_2, .inl (cI, 5, .inl fa1_2)), (ha1, .inr (7, [.ref ha1_0, .ref ha1_1, .ref ha1_2, .int ia1_3, .ref ha1_4, .ref ha1_5, .ref ha1_6, .ref ha1_7, .int ia1_8, .int ia1_9, .int ia1_10, .ref ha1_11])), (ha0, .inr (2, [.ref ha0_0, .ref ha0_1, .int w2859]))] := hD
          obtain ⟨hw2859p, hy2857r, hy2857po⟩ := hpo
          obtain ⟨hw2859l, hw2859h⟩ := hw2859p
          obtain ⟨hy2857l, hy2857h⟩ := hy2857r
          refine lv_goto (tgt := 50) hx hb dX2_drawnLine_46 (by decide) ?_
          refine lv_istore_n (lv' := [(3, .int y2857), (2, .int v2), (0, .ref ha0), (1, .ref ha1)]) hx hb dX2_drawnLine_50 rfl hl (by decide) rfl (fun ls hl => ?_)
          refine lv_iconst (v := 0) hx hb dX2_drawnLine_51 (by decide) ?_
          refine lv_istore (lv' := [(4, .int 0), (3, .int y2857), (2, .int v2), (0, .ref ha0), (1, .ref ha1)]) hx hb dX2_drawnLine_52 hl (by decide) rfl (fun ls hl => ?_)
          have hL2932 : ∀ (n : Nat) (v2860 : Int32) (v2861 : Int32) (H : Heap) (locs : List Loc) (ls : Array Slot), 0 ≤ v2860.toInt → v2860.toInt ≤ 5 → (5 - v2860.toInt).toNat < n → lv_has ls 6 [(4, .int v2860), (3, .int v2861), (2, .int v2), (0, .ref ha0), (1, .ref ha1)] → va_P (dC, dI) vwCl [(ha0_0_0, .inl (cI, 12, .inl fa0_0_0)), (ha0_0, .inr (5, [.ref ha0_0_0, .int ia0_0_1])), (ha0_1, .inr (9, [.int ia0_1_0, .int ia0_1_1, .int ia0_1_2, .int ia0_1_3, .int ia0_1_4])), (ha1_0, .inl (cQ, 5, .inr (.inr (.inr (.inr (fun i => (ga1_0 i).1)))))), (ha1_2, .inl (cI, 5, .inl fa1_2)), (ha1, .inr (7, [.ref ha1_0, .ref ha1_1, .ref ha1_2, .int ia1_3, .ref ha1_4, .ref ha1_5, .ref ha1_6, .ref ha1_7, .int ia1_8, .int ia1_9, .int ia1_10, .ref ha1_11])), (ha0, .inr (2, [.ref ha0_0, .ref ha0_1, .int w2859]))] H → va_D A [(ha0_0_0, .inl (cI, 12, .inl fa0_0_0)), (ha0_0, .inr (5, [.ref ha0_0_0, .int ia0_0_1])), (ha0_1, .inr (9, [.int ia0_1_0, .int ia0_1_1, .int ia0_1_2, .int ia0_1_3, .int ia0_1_4])), (ha1_0, .inl (cQ, 5, .inr (.inr (.inr (.inr (fun i => (ga1_0 i).1)))))), (ha1_2, .inl (cI, 5, .inl fa1_2)), (ha1, .inr (7, [.ref ha1_0, .ref ha1_1, .ref ha1_2, .int ia1_3, .ref ha1_4, .ref ha1_5, .ref ha1_6, .ref ha1_7, .int ia1_8, .int ia1_9, .int ia1_10, .ref ha1_11])), (ha0, .inr (2, [.ref ha0_0, .ref ha0_1, .int w2859]))] → va_S A s.heap H locs → W p l e (headSpec vsX2_drawnLine ({ frames := 4, cells := 0, slots := 0, locals := 92 })).room s m ([.ref ha0, .ref ha1] : List Value).toArray below meth c H locs 0 0 (MQ below (zWi dC dI (A) (fun u => [(ha0_0_0, .inl (cI, 12, .inl fa0_0_0)), (ha0_0, .inr (5, [.ref ha0_0_0, .int ia0_0_1])), (ha0_1, .inr (9, [.int ia0_1_0, .int ia0_1_1, .int ia0_1_2, .int ia0_1_3, .int ia0_1_4])), (ha0, .inr (2, [.ref ha0_0, .ref ha0_1, .int (u.1 0)])), (ha1_0, .inl (cQ, 5, .inr (.inr (.inr (.inr (fun i => (ga1_0 i).1)))))), (ha1_2, .inl (cI, 5, .inl fa1_2)), (ha1, .inr (7, [.ref ha1_0, .ref ha1_1, .ref ha1_2, .int ia1_3, .ref ha1_4, .ref ha1_5, .ref ha1_6, .ref ha1_7, .int ia1_8, .int ia1_9, .int ia1_10, .ref ha1_11]))]) (fun r u => ((-2147483648) ≤ (u.1 0).toInt ∧ (u.1 0).toInt ≤ 2147483647) ∧ ((-9) ≤ r.toInt ∧ r.toInt ≤ 11) ∧ True)) ([.ref ha0, .ref ha1] : List Value).toArray s 0 0 A) (F0 m 54 ls []) := by
            intro n
            induction n with
            | zero =>
              intro v2860 v2861 H locs ls hi2933_0 hi2933_1 hi2933_m hl hP hD hS
              exact absurd hi2933_m (Nat.not_lt_zero _)
            | succ n ih =>
              intro v2860 v2861 H locs ls hi2933_0 hi2933_1 hi2933_m hl hP hD hS
              have ih2934 := ih
              refine lv_iload hx hb dX2_drawnLine_54 (lv_at hl 0 rfl) ?_
              refine lv_aload_n hx hb dX2_drawnLine_56 rfl (lv_at hl 4 rfl) ?_
              refine va_get (D := (dC, dI)) (ci := 7) (v := .int ia1_3) (C := RX7) (T := TX7) (N := 12) hx hb hts in_X2_drawnLine_X7 hown hK hP 5 rfl rfl 3 (by decide) (hts (.fieldLink RX2 59 "EachOnHisCue$Play" "players" "I") (by decide +kernel)) (fun _ h9 => h9) rfl dX2_drawnLine_57 ?_
              refine lv_icmp_ge (tgt := 106) hx hb dX2_drawnLine_60 (by decide) (fun hc => ?_) (fun hc => ?_)
              · have q2935 : ia1_3.toInt ≤ v2860.toInt := z_le rfl rfl hc
                refine lv_bipush (v := (-9)) hx hb dX2_drawnLine_106 (by decide) ?_
                have hP9 := hP.sub (ws' := [(ha0_0_0, .inl (cI, 12, .inl fa0_0_0)), (ha0_0, .inr (5, [.ref ha0_0_0, .int ia0_0_1])), (ha0_1, .inr (9, [.int ia0_1_0, .int ia0_1_1, .int ia0_1_2, .int ia0_1_3, .int ia0_1_4])), (ha0, .inr (2, [.ref ha0_0, .ref ha0_1, .int w2859])), (ha1_0, .inl (cQ, 5, .inr (.inr (.inr (.inr (fun i => (ga1_0 i).1)))))), (ha1_2, .inl (cI, 5, .inl fa1_2)), (ha1, .inr (7, [.ref ha1_0, .ref ha1_1, .ref ha1_2, .int ia1_3, .ref ha1_4, .ref ha1_5, .ref ha1_6, .ref ha1_7, .int ia1_8, .int ia1_9, .int ia1_10, .ref ha1_11]))]) [0, 1, 2, 6, 3, 4, 5] rfl
                have hD9 := hD.sub (ws' := [(ha0_0_0, .inl (cI, 12, .inl fa0_0_0)), (ha0_0, .inr (5, [.ref ha0_0_0, .int ia0_0_1])), (ha0_1, .inr (9, [.int ia0_1_0, .int ia0_1_1, .int ia0_1_2, .int ia0_1_3, .int ia0_1_4])), (ha0, .inr (2, [.ref ha0_0, .ref ha0_1, .int w2859])), (ha1_0, .inl (cQ, 5, .inr (.inr (.inr (.inr (fun i => (ga1_0 i).1)))))), (ha1_2, .inl (cI, 5, .inl fa1_2)), (ha1, .inr (7, [.ref ha1_0, .ref ha1_1, .ref ha1_2, .int ia1_3, .ref ha1_4, .ref ha1_5, .ref ha1_6, .ref ha1_7, .int ia1_8, .int ia1_9, .int ia1_10, .ref ha1_11]))]) [0, 1, 2, 6, 3, 4, 5] (by decide) rfl
                exact W.iret (v := (-9)) hx hb hr (fun t ht hW => ⟨⟨(-9), (fun k => [w2859].getD k 0, fun k => [].getD k (fun _ => 0)), rfl, (show ((-2147483648) ≤ (w2859 : Int32).toInt ∧ (w2859 : Int32).toInt ≤ 2147483647) ∧ ((-9) ≤ ((-9) : Int32).toInt ∧ ((-9) : Int32).toInt ≤ 11) ∧ (True) from ⟨⟨hw2859l, hw2859h⟩, ⟨by first | decide | omega, by first | decide | omega⟩, trivial⟩), by rw [ht]; exact hP9, hD9⟩, hS.F ht⟩) hS.2.2 dX2_drawnLine_108
              · have q2936 : v2860.toInt < ia1_3.toInt := z_nle rfl rfl hc
                refine lv_aload_n hx hb dX2_drawnLine_63 rfl (lv_at hl 3 rfl) ?_
                refine lv_aload_n hx hb dX2_drawnLine_64 rfl (lv_at hl 4 rfl) ?_
                refine lv_aload_n hx hb dX2_drawnLine_65 rfl (lv_at hl 3 rfl) ?_
                refine va_get (D := (dC, dI)) (ci := 2) (v := .ref ha0_1) (C := RX2) (T := TX2) (N := 3) hx hb hts in_X2_drawnLine_X2 hown hK hP 6 rfl rfl 1 (by decide) (hts (.fieldLink RX2 21 "EachOnHisCue$Evening" "saying" "LEachOnHisCue$Saying;") (by decide +kernel)) (fun _ h9 => h9) rfl dX2_drawnLine_66 ?_
                refine lv_iload hx hb dX2_drawnLine_69 (lv_at hl 0 rfl) ?_
                have hPl := z_plS hPl0 hPlA hS
                refine z_rdi (va_runV (As := [.ref ha1, .ref ha0_1, .int v2860]) (rest := []) ⟨hx, hb, hml, hown, hts⟩ (rX2_comesWith l dC dI cI cQ ha0 ha1 ha0_1 ha0_0_0 ha0_0 ha1_0 ha1_2 ha0_1 ha1_1 ha1_4 ha1_5 ha1_6 ha1_7 ha1_11 PL fa0_0_0 ia0_0_1 hia0_0_1l hia0_0_1h w2859 ga1_0 hPLga1_0 fa1_2 ia1_3 hia1_3l hia1_3h ia1_8 ia1_9 hia1_9l hia1_9h ia1_10 ia0_1_0 ia0_1_1 ia0_1_2 ia0_1_3 ia0_1_4 v2860) (cwV 3 hts gv_X2_drawnLine_X2_comesWith_62 rfl rfl rfl (by decide +kernel) ⟨Nat.le_of_ble_eq_true rfl, Nat.le_of_ble_eq_true rfl⟩) ⟨z_blindRP, va_recv hK hP (ci := 2) (q0 := 6) rfl rfl, z_preRP hZ hP hPl [0, 1, 6, 3, 4, 5, 2] rfl⟩ rfl rfl hl.1 rfl (lv_room (Nat.le_of_ble_eq_true rfl)) dX2_drawnLine_71 ⟨Nat.le_of_ble_eq_true rfl, Nat.le_of_ble_eq_true rfl⟩) (fun y2937 hy2937 => ?_)
                obtain ⟨hy2937_0, hy2937_1, hy2937_2⟩ := hy2937
                refine lv_istore (lv' := [(5, .int y2937), (4, .int v2860), (3, .int v2861), (2, .int v2), (0, .ref ha0), (1, .ref ha1)]) hx hb dX2_drawnLine_74 hl (by decide) rfl (fun ls hl => ?_)
                refine lv_iload hx hb dX2_drawnLine_76 (lv_at hl 0 rfl) ?_
                refine lv_bipush (v := (-9)) hx hb dX2_drawnLine_78 (by decide) ?_
                refine lv_icmp_eq (tgt := 90) hx hb dX2_drawnLine_80 (by decide) (fun hc => ?_) (fun hc => ?_)
                · have q2938 : y2937.toInt = (-9) := z_eq rfl (by decide) hc
                  refine lv_iload hx hb dX2_drawnLine_90 (lv_at hl 0 rfl) ?_
                  refine lv_bipush (v := (-9)) hx hb dX2_drawnLine_92 (by decide) ?_
                  refine lv_icmp_eq (tgt := 100) hx hb dX2_drawnLine_94 (by decide) (fun hc => ?_) (fun hc => ?_)
                  · have q2939 : y2937.toInt = (-9) := z_eq rfl (by decide) hc
                    obtain ⟨y2940, ey2940⟩ : ∃ y : Int32, y = v2860 + 1 := ⟨_, rfl⟩
                    refine lv_iinc (v := y2940) (lv' := [(4, .int y2940), (5, .int y2937), (3, .int v2861), (2, .int v2), (0, .ref ha0), (1, .ref ha1)]) hx hb dX2_drawnLine_100 hl (k := 1) rfl (by rw [ey2940]; rfl) (by decide) rfl (fun ls hl => ?_)
                    have hy2940 : y2940.toInt = v2860.toInt + 1 := by rw [ey2940]; exact z_add rfl (by decide) (by omega) (by omega)
                    refine lv_goto (tgt := 54) hx hb dX2_drawnLine_103 (by decide) ?_
                    exact ih2934 y2940 v2861 _ _ ls (by first | decide | omega) (by first | decide | omega) (by omega) (lv_sub hl [0, 2, 3, 4, 5] rfl) hP hD hS
                  · have q2941 : y2937.toInt ≠ (-9) := z_ne rfl (by decide) hc
                    exfalso; omega
                · have q2942 : y2937.toInt ≠ (-9) := z_ne rfl (by decide) hc
                  refine lv_iload_n hx hb dX2_drawnLine_83 rfl (lv_at hl 2 rfl) ?_
                  refine lv_if_ne (tgt := 90) hx hb dX2_drawnLine_84 (by decide) (fun hc => ?_) (fun hc => ?_)
                  · have q2943 : v2861.toInt ≠ 0 := z_ne rfl (by decide) hc
                    refine lv_iload hx hb dX2_drawnLine_90 (lv_at hl 0 rfl) ?_
                    refine lv_bipush (v := (-9)) hx hb dX2_drawnLine_92 (by decide) ?_
                    refine lv_icmp_eq (tgt := 100) hx hb dX2_drawnLine_94 (by decide) (fun hc => ?_) (fun hc => ?_)
                    · have q2944 : y2937.toInt = (-9) := z_eq rfl (by decide) hc
                      exfalso; omega
                    · have q2945 : y2937.toInt ≠ (-9) := z_ne rfl (by decide) hc
                      obtain ⟨y2946, ey2946⟩ : ∃ y : Int32, y = v2861 + (-1) := ⟨_, rfl⟩
                      refine lv_iinc (v := y2946) (lv' := [(3, .int y2946), (5, .int y2937), (4, .int v2860), (2, .int v2), (0, .ref ha0), (1, .ref ha1)]) hx hb dX2_drawnLine_97 hl (k := 2) rfl (by rw [ey2946]; rfl) (by decide) rfl (fun ls hl => ?_)
                      obtain ⟨y2947, ey2947⟩ : ∃ y : Int32, y = v2860 + 1 := ⟨_, rfl⟩
                      refine lv_iinc (v := y2947) (lv' := [(4, .int y2947), (3, .int y2946), (5, .int y2937), (2, .int v2), (0, .ref ha0), (1, .ref ha1)]) hx hb dX2_drawnLine_100 hl (k := 2) rfl (by rw [ey2947]; rfl) (by decide) rfl (fun ls hl => ?_)
                      have hy2947 : y2947.toInt = v2860.toInt + 1 := by rw [ey2947]; exact z_add rfl (by decide) (by omega) (by omega)
                      refine lv_goto (tgt := 54) hx hb dX2_drawnLine_103 (by decide) ?_
                      exact ih2934 y2947 y2946 _ _ ls (by first | decide | omega) (by first | decide | omega) (by omega) (lv_sub hl [0, 1, 3, 4, 5] rfl) hP hD hS
                  · have q2948 : v2861.toInt = 0 := z_eq rfl (by decide) hc
                    refine lv_iload hx hb dX2_drawnLine_87 (lv_at hl 0 rfl) ?_
                    have hP9 := hP.sub (ws' := [(ha0_0_0, .inl (cI, 12, .inl fa0_0_0)), (ha0_0, .inr (5, [.ref ha0_0_0, .int ia0_0_1])), (ha0_1, .inr (9, [.int ia0_1_0, .int ia0_1_1, .int ia0_1_2, .int ia0_1_3, .int ia0_1_4])), (ha0, .inr (2, [.ref ha0_0, .ref ha0_1, .int w2859])), (ha1_0, .inl (cQ, 5, .inr (.inr (.inr (.inr (fun i => (ga1_0 i).1)))))), (ha1_2, .inl (cI, 5, .inl fa1_2)), (ha1, .inr (7, [.ref ha1_0, .ref ha1_1, .ref ha1_2, .int ia1_3, .ref ha1_4, .ref ha1_5, .ref ha1_6, .ref ha1_7, .int ia1_8, .int ia1_9, .int ia1_10, .ref ha1_11]))]) [0, 1, 2, 6, 3, 4, 5] rfl
                    have hD9 := hD.sub (ws' := [(ha0_0_0, .inl (cI, 12, .inl fa0_0_0)), (ha0_0, .inr (5, [.ref ha0_0_0, .int ia0_0_1])), (ha0_1, .inr (9, [.int ia0_1_0, .int ia0_1_1, .int ia0_1_2, .int ia0_1_3, .int ia0_1_4])), (ha0, .inr (2, [.ref ha0_0, .ref ha0_1, .int w2859])), (ha1_0, .inl (cQ, 5, .inr (.inr (.inr (.inr (fun i => (ga1_0 i).1)))))), (ha1_2, .inl (cI, 5, .inl fa1_2)), (ha1, .inr (7, [.ref ha1_0, .ref ha1_1, .ref ha1_2, .int ia1_3, .ref ha1_4, .ref ha1_5, .ref ha1_6, .ref ha1_7, .int ia1_8, .int ia1_9, .int ia1_10, .ref ha1_11]))]) [0, 1, 2, 6, 3, 4, 5] (by decide) rfl
                    exact W.iret (v := y2937) hx hb hr (fun t ht hW => ⟨⟨y2937, (fun k => [w2859].getD k 0, fun k => [].getD k (fun _ => 0)), rfl, (show ((-2147483648) ≤ (w2859 : Int32).toInt ∧ (w2859 : Int32).toInt ≤ 2147483647) ∧ ((-9) ≤ (y2937 : Int32).toInt ∧ (y2937 : Int32).toInt ≤ 11) ∧ (True) from ⟨⟨hw2859l, hw2859h⟩, ⟨by first | decide | omega, by first | decide | omega⟩, trivial⟩), by rw [ht]; exact hP9, hD9⟩, hS.F ht⟩) hS.2.2 dX2_drawnLine_89
          exact hL2932 ((5 - (0 : Int32).toInt).toNat + 1) 0 y2857 _ _ ls (by decide) (by decide) (by omega) hl hP hD hS
      · have q2949 : v1.toInt < ia1_3.toInt := z_nle rfl rfl hc
        refine lv_aload_n hx hb dX2_drawnLine_12 rfl (lv_at hl 2 rfl) ?_
        refine lv_aload_n hx hb dX2_drawnLine_13 rfl (lv_at hl 3 rfl) ?_
        refine lv_aload_n hx hb dX2_drawnLine_14 rfl (lv_at hl 2 rfl) ?_
        refine va_get (D := (dC, dI)) (ci := 2) (v := .ref ha0_1) (C := RX2) (T := TX2) (N := 3) hx hb hts in_X2_drawnLine_X2 hown hK hP 3 rfl rfl 1 (by decide) (hts (.fieldLink RX2 21 "EachOnHisCue$Evening" "saying" "LEachOnHisCue$Saying;") (by decide +kernel)) (fun _ h9 => h9) rfl dX2_drawnLine_15 ?_
        refine lv_iload_n hx hb dX2_drawnLine_18 rfl (lv_at hl 0 rfl) ?_
        have hPl := z_plS hPl0 hPlA hS
        refine z_rdi (va_runV (As := [.ref ha1, .ref ha0_1, .int v1]) (rest := []) ⟨hx, hb, hml, hown, hts⟩ (rX2_comesWith l dC dI cI cQ ha0 ha1 ha0_1 ha0_0_0 ha0_0 ha1_0 ha1_2 ha0_1 ha1_1 ha1_4 ha1_5 ha1_6 ha1_7 ha1_11 PL fa0_0_0 ia0_0_1 hia0_0_1l hia0_0_1h ia0_2 ga1_0 hPLga1_0 fa1_2 ia1_3 hia1_3l hia1_3h ia1_8 ia1_9 hia1_9l hia1_9h ia1_10 ia0_1_0 ia0_1_1 ia0_1_2 ia0_1_3 ia0_1_4 v1) (cwV 3 hts gv_X2_drawnLine_X2_comesWith_62 rfl rfl rfl (by decide +kernel) ⟨Nat.le_of_ble_eq_true rfl, Nat.le_of_ble_eq_true rfl⟩) ⟨z_blindRP, va_recv hK hP (ci := 2) (q0 := 3) rfl rfl, z_preRP hZ hP hPl [0, 1, 3, 4, 5, 6, 2] rfl⟩ rfl rfl hl.1 rfl (lv_room (Nat.le_of_ble_eq_true rfl)) dX2_drawnLine_19 ⟨Nat.le_of_ble_eq_true rfl, Nat.le_of_ble_eq_true rfl⟩) (fun y2950 hy2950 => ?_)
        obtain ⟨hy2950_0, hy2950_1, hy2950_2⟩ := hy2950
        refine lv_bipush (v := (-9)) hx hb dX2_drawnLine_22 (by decide) ?_
        refine lv_icmp_eq (tgt := 30) hx hb dX2_drawnLine_24 (by decide) (fun hc => ?_) (fun hc => ?_)
        · have q2951 : y2950.toInt = (-9) := z_eq rfl (by decide) hc
          obtain ⟨y2952, ey2952⟩ : ∃ y : Int32, y = v1 + 1 := ⟨_, rfl⟩
          refine lv_iinc (v := y2952) (lv' := [(3, .int y2952), (2, .int v2), (0, .ref ha0), (1, .ref ha1)]) hx hb dX2_drawnLine_30 hl (k := 0) rfl (by rw [ey2952]; rfl) (by decide) rfl (fun ls hl => ?_)
          have hy2952 : y2952.toInt = v1.toInt + 1 := by rw [ey2952]; exact z_add rfl (by decide) (by omega) (by omega)
          refine lv_goto (tgt := 4) hx hb dX2_drawnLine_33 (by decide) ?_
          exact ih2788 y2952 v2 _ _ ls (by first | decide | omega) (by first | decide | omega) (by omega) (lv_sub hl [0, 1, 2, 3] rfl) hP hD hS
        · have q2953 : y2950.toInt ≠ (-9) := z_ne rfl (by decide) hc
          obtain ⟨y2954, ey2954⟩ : ∃ y : Int32, y = v2 + 1 := ⟨_, rfl⟩
          refine lv_iinc (v := y2954) (lv' := [(2, .int y2954), (3, .int v1), (0, .ref ha0), (1, .ref ha1)]) hx hb dX2_drawnLine_27 hl (k := 1) rfl (by rw [ey2954]; rfl) (by decide) rfl (fun ls hl => ?_)
          obtain ⟨y2955, ey2955⟩ : ∃ y : Int32, y = v1 + 1 := ⟨_, rfl⟩
          refine lv_iinc (v := y2955) (lv' := [(3, .int y2955), (2, .int y2954), (0, .ref ha0), (1, .ref ha1)]) hx hb dX2_drawnLine_30 hl (k := 1) rfl (by rw [ey2955]; rfl) (by decide) rfl (fun ls hl => ?_)
          have hy2955 : y2955.toInt = v1.toInt + 1 := by rw [ey2955]; exact z_add rfl (by decide) (by omega) (by omega)
          refine lv_goto (tgt := 4) hx hb dX2_drawnLine_33 (by decide) ?_
          exact ih2788 y2955 y2954 _ _ ls (by first | decide | omega) (by first | decide | omega) (by omega) (lv_sub hl [0, 1, 2, 3] rfl) hP hD hS
  exact hL2786 ((5 - (0 : Int32).toInt).toNat + 1) 0 0 _ _ ls (by decide) (by decide) (by omega) hl hP hD hS
set_option maxRecDepth 20000 in
theorem edX2_goByLot_0 : decode cX2_goByLot 0 = .ok (.aload_n 0, 1) ∧ decode cX2_goByLot 1 = .ok (.getfield 21, 3) ∧ decode cX2_goByLot 4 = .ok (.invokevirtual 70, 3) ∧ decode cX2_goByLot 7 = .ok (.iconst 0, 1) ∧ decode cX2_goByLot 8 = .ok (.istore_n 2, 1) ∧ decode cX2_goByLot 9 = .ok (.iload_n 2, 1) ∧ decode cX2_goByLot 10 = .ok (.bipush 60, 2) ∧ decode cX2_goByLot 12 = .ok (.if_icmp .ge 46, 3) ∧ decode cX2_goByLot 15 = .ok (.iload_n 2, 1) ∧ decode cX2_goByLot 16 = .ok (.ifCond .ne 7, 3) ∧ decode cX2_goByLot 19 = .ok (.iconst 0, 1) ∧ decode cX2_goByLot 20 = .ok (.goto 8, 3) := by decide +kernel
theorem dX2_goByLot_0 : decode cX2_goByLot 0 = .ok (.aload_n 0, 1) := edX2_goByLot_0.1
theorem dX2_goByLot_1 : decode cX2_goByLot 1 = .ok (.getfield 21, 3) := edX2_goByLot_0.2.1
theorem dX2_goByLot_4 : decode cX2_goByLot 4 = .ok (.invokevirtual 70, 3) := edX2_goByLot_0.2.2.1
theorem dX2_goByLot_7 : decode cX2_goByLot 7 = .ok (.iconst 0, 1) := edX2_goByLot_0.2.2.2.1
theorem dX2_goByLot_8 : decode cX2_goByLot 8 = .ok (.istore_n 2, 1) := edX2_goByLot_0.2.2.2.2.1
theorem dX2_goByLot_9 : decode cX2_goByLot 9 = .ok (.iload_n 2, 1) := edX2_goByLot_0.2.2.2.2.2.1
theorem dX2_goByLot_10 : decode cX2_goByLot 10 = .ok (.bipush 60, 2) := edX2_goByLot_0.2.2.2.2.2.2.1
theorem dX2_goByLot_12 : decode cX2_goByLot 12 = .ok (.if_icmp .ge 46, 3) := edX2_goByLot_0.2.2.2.2.2.2.2.1
theorem dX2_goByLot_15 : decode cX2_goByLot 15 = .ok (.iload_n 2, 1) := edX2_goByLot_0.2.2.2.2.2.2.2.2.1
theorem dX2_goByLot_16 : decode cX2_goByLot 16 = .ok (.ifCond .ne 7, 3) := edX2_goByLot_0.2.2.2.2.2.2.2.2.2.1
theorem dX2_goByLot_19 : decode cX2_goByLot 19 = .ok (.iconst 0, 1) := edX2_goByLot_0.2.2.2.2.2.2.2.2.2.2.1
theorem dX2_goByLot_20 : decode cX2_goByLot 20 = .ok (.goto 8, 3) := edX2_goByLot_0.2.2.2.2.2.2.2.2.2.2.2
set_option maxRecDepth 20000 in
theorem edX2_goByLot_23 : decode cX2_goByLot 23 = .ok (.aload_n 0, 1) ∧ decode cX2_goByLot 24 = .ok (.aload_n 1, 1) ∧ decode cX2_goByLot 25 = .ok (.invokevirtual 86, 3) ∧ decode cX2_goByLot 28 = .ok (.istore_n 3, 1) ∧ decode cX2_goByLot 29 = .ok (.iload_n 3, 1) ∧ decode cX2_goByLot 30 = .ok (.bipush (-9), 2) ∧ decode cX2_goByLot 32 = .ok (.if_icmp .ne 11, 3) ∧ decode cX2_goByLot 35 = .ok (.aload_n 0, 1) ∧ decode cX2_goByLot 36 = .ok (.getfield 21, 3) ∧ decode cX2_goByLot 39 = .ok (.getfield 56, 3) ∧ decode cX2_goByLot 42 = .ok (.ireturn, 1) ∧ decode cX2_goByLot 43 = .ok (.aload_n 1, 1) := by decide +kernel
theorem dX2_goByLot_23 : decode cX2_goByLot 23 = .ok (.aload_n 0, 1) := edX2_goByLot_23.1
theorem dX2_goByLot_24 : decode cX2_goByLot 24 = .ok (.aload_n 1, 1) := edX2_goByLot_23.2.1
theorem dX2_goByLot_25 : decode cX2_goByLot 25 = .ok (.invokevirtual 86, 3) := edX2_goByLot_23.2.2.1
theorem dX2_goByLot_28 : decode cX2_goByLot 28 = .ok (.istore_n 3, 1) := edX2_goByLot_23.2.2.2.1
theorem dX2_goByLot_29 : decode cX2_goByLot 29 = .ok (.iload_n 3, 1) := edX2_goByLot_23.2.2.2.2.1
theorem dX2_goByLot_30 : decode cX2_goByLot 30 = .ok (.bipush (-9), 2) := edX2_goByLot_23.2.2.2.2.2.1
theorem dX2_goByLot_32 : decode cX2_goByLot 32 = .ok (.if_icmp .ne 11, 3) := edX2_goByLot_23.2.2.2.2.2.2.1
theorem dX2_goByLot_35 : decode cX2_goByLot 35 = .ok (.aload_n 0, 1) := edX2_goByLot_23.2.2.2.2.2.2.2.1
theorem dX2_goByLot_36 : decode cX2_goByLot 36 = .ok (.getfield 21, 3) := edX2_goByLot_23.2.2.2.2.2.2.2.2.1
theorem dX2_goByLot_39 : decode cX2_goByLot 39 = .ok (.getfield 56, 3) := edX2_goByLot_23.2.2.2.2.2.2.2.2.2.1
theorem dX2_goByLot_42 : decode cX2_goByLot 42 = .ok (.ireturn, 1) := edX2_goByLot_23.2.2.2.2.2.2.2.2.2.2.1
theorem dX2_goByLot_43 : decode cX2_goByLot 43 = .ok (.aload_n 1, 1) := edX2_goByLot_23.2.2.2.2.2.2.2.2.2.2.2
set_option maxRecDepth 20000 in
theorem edX2_goByLot_44 : decode cX2_goByLot 44 = .ok (.aload_n 0, 1) ∧ decode cX2_goByLot 45 = .ok (.getfield 21, 3) ∧ decode cX2_goByLot 48 = .ok (.iload_n 3, 1) ∧ decode cX2_goByLot 49 = .ok (.invokevirtual 76, 3) ∧ decode cX2_goByLot 52 = .ok (.iinc 2 1, 3) ∧ decode cX2_goByLot 55 = .ok (.goto (-46), 3) ∧ decode cX2_goByLot 58 = .ok (.aload_n 0, 1) ∧ decode cX2_goByLot 59 = .ok (.getfield 21, 3) ∧ decode cX2_goByLot 62 = .ok (.getfield 56, 3) ∧ decode cX2_goByLot 65 = .ok (.ireturn, 1) := by decide +kernel
theorem dX2_goByLot_44 : decode cX2_goByLot 44 = .ok (.aload_n 0, 1) := edX2_goByLot_44.1
theorem dX2_goByLot_45 : decode cX2_goByLot 45 = .ok (.getfield 21, 3) := edX2_goByLot_44.2.1
theorem dX2_goByLot_48 : decode cX2_goByLot 48 = .ok (.iload_n 3, 1) := edX2_goByLot_44.2.2.1
theorem dX2_goByLot_49 : decode cX2_goByLot 49 = .ok (.invokevirtual 76, 3) := edX2_goByLot_44.2.2.2.1
theorem dX2_goByLot_52 : decode cX2_goByLot 52 = .ok (.iinc 2 1, 3) := edX2_goByLot_44.2.2.2.2.1
theorem dX2_goByLot_55 : decode cX2_goByLot 55 = .ok (.goto (-46), 3) := edX2_goByLot_44.2.2.2.2.2.1
theorem dX2_goByLot_58 : decode cX2_goByLot 58 = .ok (.aload_n 0, 1) := edX2_goByLot_44.2.2.2.2.2.2.1
theorem dX2_goByLot_59 : decode cX2_goByLot 59 = .ok (.getfield 21, 3) := edX2_goByLot_44.2.2.2.2.2.2.2.1
theorem dX2_goByLot_62 : decode cX2_goByLot 62 = .ok (.getfield 56, 3) := edX2_goByLot_44.2.2.2.2.2.2.2.2.1
theorem dX2_goByLot_65 : decode cX2_goByLot 65 = .ok (.ireturn, 1) := edX2_goByLot_44.2.2.2.2.2.2.2.2.2
noncomputable def voX2_goByLot : List Cond := [.fieldLink RX2 21 "EachOnHisCue$Evening" "saying" "LEachOnHisCue$Saying;", .fieldLink RX2 56 "EachOnHisCue$Saying" "times" "I", .methodLink RX2 70 yX9_forget, .instanceMethod yX9_forget, .selects RX9 yX9_forget yX9_forget, .initialized RX9, .methodLink RX2 76 yX7_speak, .instanceMethod yX7_speak, .selects RX7 yX7_speak yX7_speak, .initialized RX7, .methodLink RX2 86 yX2_drawnLine, .instanceMethod yX2_drawnLine, .selects RX2 yX2_drawnLine yX2_drawnLine, .initialized RX2]
noncomputable def vsX2_goByLot : List Cond := .code yX2_goByLot cX2_goByLot 4 (some .int) :: (voX2_goByLot ++ (vsX9_forget ++ (vsX7_speak ++ (vsX2_drawnLine ++ (wsX20 ++ (wsX90))))))
theorem zgX2_goByLot : zGd vsX2_goByLot := z_gdC rfl (z_gdA (z_gdO (by decide +kernel) : zGd voX2_goByLot) (z_gdA zgX9_forget (z_gdA zgX7_speak (z_gdA zgX2_drawnLine (z_gdA zgX2 (zgX9))))))
theorem in_X2_goByLot_X2 : ∀ w ∈ wsX20, w ∈ vsX2_goByLot := fun _ h => List.mem_cons_of_mem _ (List.mem_append_right _ (List.mem_append_right _ (List.mem_append_right _ (List.mem_append_right _ (List.mem_append_left _ h)))))
theorem in_X2_goByLot_X9 : ∀ w ∈ wsX90, w ∈ vsX2_goByLot := fun _ h => List.mem_cons_of_mem _ (List.mem_append_right _ (List.mem_append_right _ (List.mem_append_right _ (List.mem_append_right _ (List.mem_append_right _ (h))))))
theorem gw_X2_goByLot_X9_forget : GoodIn vsX2_goByLot vsX9_forget := z_gdI (fun _ h => List.mem_cons_of_mem _ (List.mem_append_right _ (List.mem_append_left _ h))) zgX9_forget
set_option maxRecDepth 20000 in
theorem gv_X2_goByLot_X9_forget_70 : GoodIn vsX2_goByLot (wsV RX2 70 RX9 yX9_forget vsX9_forget) := goodIn_app (goodIn_of _ (by decide +kernel)) gw_X2_goByLot_X9_forget
theorem gw_X2_goByLot_X7_speak : GoodIn vsX2_goByLot vsX7_speak := z_gdI (fun _ h => List.mem_cons_of_mem _ (List.mem_append_right _ (List.mem_append_right _ (List.mem_append_left _ h)))) zgX7_speak
set_option maxRecDepth 20000 in
theorem gv_X2_goByLot_X7_speak_76 : GoodIn vsX2_goByLot (wsV RX2 76 RX7 yX7_speak vsX7_speak) := goodIn_app (goodIn_of _ (by decide +kernel)) gw_X2_goByLot_X7_speak
theorem gw_X2_goByLot_X2_drawnLine : GoodIn vsX2_goByLot vsX2_drawnLine := z_gdI (fun _ h => List.mem_cons_of_mem _ (List.mem_append_right _ (List.mem_append_right _ (List.mem_append_right _ (List.mem_append_left _ h))))) zgX2_drawnLine
set_option maxRecDepth 20000 in
theorem gv_X2_goByLot_X2_drawnLine_86 : GoodIn vsX2_goByLot (wsV RX2 86 RX2 yX2_drawnLine vsX2_drawnLine) := goodIn_app (goodIn_of _ (by decide +kernel)) gw_X2_goByLot_X2_drawnLine
set_option maxHeartbeats 4000000 in
set_option maxRecDepth 100000 in
theorem wX2_goByLot (l : Launch) (dC : Nat → ClassId) (dI : Nat → Nat → Nat) (cI cQ : ClassId) (ha0 ha1 ha0_0_0 ha0_0 ha0_1 ha1_0 ha1_2 ha1_4 ha1_1 ha1_5 ha1_6 ha1_7 ha1_11 : Nat) (PL : Nat → Nat → Int32 → Prop) (fa0_0_0 : Nat → Int32) (ia0_0_1 : Int32) (hia0_0_1l : 0 ≤ ia0_0_1.toInt) (hia0_0_1h : ia0_0_1.toInt ≤ 12) (ia0_1_0 : Int32) (ia0_1_1 : Int32) (ia0_1_2 : Int32) (ia0_1_3 : Int32) (ia0_1_4 : Int32) (ia0_2 : Int32) (ga1_0 : Nat → ZQ) (hPLga1_0 : zHp PL ga1_0) (fa1_2 : Nat → Int32) (fa1_4 : Nat → Int32) (ia1_3 : Int32) (hia1_3l : 0 ≤ ia1_3.toInt) (hia1_3h : ia1_3.toInt ≤ 5) (ia1_8 : Int32) (ia1_9 : Int32) (hia1_9l : 0 ≤ ia1_9.toInt) (hia1_9h : ia1_9.toInt ≤ 12) (ia1_10 : Int32) (sz : Nat) : Met l yX2_goByLot vsX2_goByLot ({ frames := 5, cells := 0, slots := 0, locals := 117 }) (va_Pc [.ref ha0, .ref ha1] (zBP dC dI cI cQ PL [(ha0_0_0, .inl (cI, 12, .inl fa0_0_0)), (ha0_0, .inr (5, [.ref ha0_0_0, .int ia0_0_1])), (ha0_1, .inr (9, [.int ia0_1_0, .int ia0_1_1, .int ia0_1_2, .int ia0_1_3, .int ia0_1_4])), (ha0, .inr (2, [.ref ha0_0, .ref ha0_1, .int ia0_2])), (ha1_0, .inl (cQ, 5, .inr (.inr (.inr (.inr (fun i => (ga1_0 i).1)))))), (ha1_2, .inl (cI, 5, .inl fa1_2)), (ha1_4, .inl (cI, 12, .inl fa1_4)), (ha1, .inr (7, [.ref ha1_0, .ref ha1_1, .ref ha1_2, .int ia1_3, .ref ha1_4, .ref ha1_5, .ref ha1_6, .ref ha1_7, .int ia1_8, .int ia1_9, .int ia1_10, .ref ha1_11]))] sz)) (zWi dC dI (va_A [(ha0_0_0, .inl (cI, 12, .inl fa0_0_0)), (ha0_0, .inr (5, [.ref ha0_0_0, .int ia0_0_1])), (ha0_1, .inr (9, [.int ia0_1_0, .int ia0_1_1, .int ia0_1_2, .int ia0_1_3, .int ia0_1_4])), (ha0, .inr (2, [.ref ha0_0, .ref ha0_1, .int ia0_2])), (ha1_0, .inl (cQ, 5, .inr (.inr (.inr (.inr (fun i => (ga1_0 i).1)))))), (ha1_2, .inl (cI, 5, .inl fa1_2)), (ha1_4, .inl (cI, 12, .inl fa1_4)), (ha1, .inr (7, [.ref ha1_0, .ref ha1_1, .ref ha1_2, .int ia1_3, .ref ha1_4, .ref ha1_5, .ref ha1_6, .ref ha1_7, .int ia1_8, .int ia1_9, .int ia1_10, .ref ha1_11]))] sz) (fun u => [(ha0_0_0, .inl (cI, 12, .inl fa0_0_0)), (ha0_0, .inr (5, [.ref ha0_0_0, .int ia0_0_1])), (ha0_1, .inr (9, [.int (u.1 0), .int (u.1 1), .int (u.1 2), .int (u.1 3), .int (u.1 4)])), (ha0, .inr (2, [.ref ha0_0, .ref ha0_1, .int (u.1 5)])), (ha1_0, .inl (cQ, 5, .inr (.inr (.inr (.inr (fun i => (ga1_0 i).1)))))), (ha1_2, .inl (cI, 5, .inl fa1_2)), (ha1_4, .inl (cI, 12, .inl fa1_4)), (ha1, .inr (7, [.ref ha1_0, .ref ha1_1, .ref ha1_2, .int ia1_3, .ref ha1_4, .ref ha1_5, .ref ha1_6, .ref ha1_7, .int ia1_8, .int ia1_9, .int ia1_10, .ref ha1_11]))]) (fun r u => ((-2147483648) ≤ (u.1 0).toInt ∧ (u.1 0).toInt ≤ 2147483647) ∧ ((-2147483648) ≤ (u.1 1).toInt ∧ (u.1 1).toInt ≤ 2147483647) ∧ ((-2147483648) ≤ (u.1 2).toInt ∧ (u.1 2).toInt ≤ 2147483647) ∧ ((-2147483648) ≤ (u.1 3).toInt ∧ (u.1 3).toInt ≤ 2147483647) ∧ ((-2147483648) ≤ (u.1 4).toInt ∧ (u.1 4).toInt ≤ 2147483647) ∧ ((-2147483648) ≤ (u.1 5).toInt ∧ (u.1 5).toInt ≤ 2147483647) ∧ ((-2147483648) ≤ r.toInt ∧ r.toInt ≤ 2147483647) ∧ True)) 0 0 (va_A [(ha0_0_0, .inl (cI, 12, .inl fa0_0_0)), (ha0_0, .inr (5, [.ref ha0_0_0, .int ia0_0_1])), (ha0_1, .inr (9, [.int ia0_1_0, .int ia0_1_1, .int ia0_1_2, .int ia0_1_3, .int ia0_1_4])), (ha0, .inr (2, [.ref ha0_0, .ref ha0_1, .int ia0_2])), (ha1_0, .inl (cQ, 5, .inr (.inr (.inr (.inr (fun i => (ga1_0 i).1)))))), (ha1_2, .inl (cI, 5, .inl fa1_2)), (ha1_4, .inl (cI, 12, .inl fa1_4)), (ha1, .inr (7, [.ref ha1_0, .ref ha1_1, .ref ha1_2, .int ia1_3, .ref ha1_4, .ref ha1_5, .ref ha1_6, .ref ha1_7, .int ia1_8, .int ia1_9, .int ia1_10, .ref ha1_11]))] sz) := by
  refine Met.ofW (cc := cX2_goByLot) (maxL := 4) (ret := (some .int)) (by decide) rfl ?_
  intro p e s m args below meth c s₁ B hml hv
  obtain ⟨rfl, ⟨hsz, hP, hZ, hD0⟩, hPl0, hPlN⟩ := hv
  obtain ⟨hK, hAO, hN⟩ := id hZ
  have hx := B.exec
  have hb := B.bytes
  have hr := B.returns
  have hts := atoms_spec (ws := vsX2_goByLot) B.pre
  have hown : s.vm.findClass RX2 = some m.cls := findClass_of_methodNamed B.named
  have hlocks := B.notSynchronized
  subst hsz
  have hD := hD0.self (sz := s.heap.size)
  have hPlA := z_plA hPlN
  generalize hAe : va_A [(ha0_0_0, .inl (cI, 12, .inl fa0_0_0)), (ha0_0, .inr (5, [.ref ha0_0_0, .int ia0_0_1])), (ha0_1, .inr (9, [.int ia0_1_0, .int ia0_1_1, .int ia0_1_2, .int ia0_1_3, .int ia0_1_4])), (ha0, .inr (2, [.ref ha0_0, .ref ha0_1, .int ia0_2])), (ha1_0, .inl (cQ, 5, .inr (.inr (.inr (.inr (fun i => (ga1_0 i).1)))))), (ha1_2, .inl (cI, 5, .inl fa1_2)), (ha1_4, .inl (cI, 12, .inl fa1_4)), (ha1, .inr (7, [.ref ha1_0, .ref ha1_1, .ref ha1_2, .int ia1_3, .ref ha1_4, .ref ha1_5, .ref ha1_6, .ref ha1_7, .int ia1_8, .int ia1_9, .int ia1_10, .ref ha1_11]))] s.heap.size = A at hD hPlA ⊢
  have hA : ∀ q : Nat, s.heap.size ≤ q → A q := fun q h => by rw [← hAe]; exact Or.inr h
  have hS : va_S A s.heap s.heap [] := va_S.rf
  have hP : va_P (dC, dI) vwCl [(ha0_0_0, .inl (cI, 12, .inl fa0_0_0)), (ha0_0, .inr (5, [.ref ha0_0_0, .int ia0_0_1])), (ha0_1, .inr (9, [.int ia0_1_0, .int ia0_1_1, .int ia0_1_2, .int ia0_1_3, .int ia0_1_4])), (ha0, .inr (2, [.ref ha0_0, .ref ha0_1, .int ia0_2])), (ha1_0, .inl (cQ, 5, .inr (.inr (.inr (.inr (fun i => (ga1_0 i).1)))))), (ha1_2, .inl (cI, 5, .inl fa1_2)), (ha1_4, .inl (cI, 12, .inl fa1_4)), (ha1, .inr (7, [.ref ha1_0, .ref ha1_1, .ref ha1_2, .int ia1_3, .ref ha1_4, .ref ha1_5, .ref ha1_6, .ref ha1_7, .int ia1_8, .int ia1_9, .int ia1_10, .ref ha1_11]))] s.heap := hP
  have hl := lv_entry ([.ref ha0, .ref ha1]) (n := 4) (Nat.le_of_ble_eq_true rfl)
  rw [lg_entry_eq]
  generalize (lg_sl ([.ref ha0, .ref ha1]) ++ List.replicate (4 - (lg_sl ([.ref ha0, .ref ha1])).length) Slot.unset).toArray = ls at hl ⊢
  have hl : lv_has ls 4 [(0, .ref ha0), (1, .ref ha1)] := hl
  refine lv_aload_n hx hb dX2_goByLot_0 rfl (lv_at hl 0 rfl) ?_
  refine va_get (D := (dC, dI)) (ci := 2) (v := .ref ha0_1) (C := RX2) (T := TX2) (N := 3) hx hb hts in_X2_goByLot_X2 hown hK hP 3 rfl rfl 1 (by decide) (hts (.fieldLink RX2 21 "EachOnHisCue$Evening" "saying" "LEachOnHisCue$Saying;") (by decide +kernel)) (fun _ h9 => h9) rfl dX2_goByLot_1 ?_
  refine z_cwv (wc := [(ha0_1, .inr (9, [.int ia0_1_0, .int ia0_1_1, .int ia0_1_2, .int ia0_1_3, .int ia0_1_4]))]) (wr := [(ha0_0_0, .inl (cI, 12, .inl fa0_0_0)), (ha0_0, .inr (5, [.ref ha0_0_0, .int ia0_0_1])), (ha0, .inr (2, [.ref ha0_0, .ref ha0_1, .int ia0_2])), (ha1_0, .inl (cQ, 5, .inr (.inr (.inr (.inr (fun i => (ga1_0 i).1)))))), (ha1_2, .inl (cI, 5, .inl fa1_2)), (ha1_4, .inl (cI, 12, .inl fa1_4)), (ha1, .inr (7, [.ref ha1_0, .ref ha1_1, .ref ha1_2, .int ia1_3, .ref ha1_4, .ref ha1_5, .ref ha1_6, .ref ha1_7, .int ia1_8, .int ia1_9, .int ia1_10, .ref ha1_11]))]) (w1 := fun u2 => [(ha0_1, .inr (9, [.int 0, .int 0, .int (-9), .int 0, .int 0]))]) (va_runV (As := []) (rest := []) ⟨hx, hb, hml, hown, hts⟩ (wX9_forget l dC dI cI cQ ha0_1 ia0_1_0 ia0_1_1 ia0_1_2 ia0_1_3 ia0_1_4 s.heap.size) (cwV 0 hts gv_X2_goByLot_X9_forget_70 rfl rfl rfl (by decide +kernel) ⟨Nat.le_of_ble_eq_true rfl, Nat.le_of_ble_eq_true rfl⟩) ⟨z_blind, va_recv hK hP (ci := 9) (q0 := 2) rfl rfl, z_pre hZ hP hD [2] rfl (by decide +kernel)⟩ rfl rfl hl.1 rfl (lv_room (Nat.le_of_ble_eq_true rfl)) dX2_goByLot_4 ⟨Nat.le_of_ble_eq_true rfl, Nat.le_of_ble_eq_true rfl⟩) hP hD hS hA [2] [0, 1, 3, 4, 5, 6, 7] rfl rfl (by decide +kernel) (by decide +kernel) (fun u2 H locs hpo hP hD hS => ?_)
  have hP : va_P (dC, dI) vwCl [(ha0_0_0, .inl (cI, 12, .inl fa0_0_0)), (ha0_0, .inr (5, [.ref ha0_0_0, .int ia0_0_1])), (ha0, .inr (2, [.ref ha0_0, .ref ha0_1, .int ia0_2])), (ha1_0, .inl (cQ, 5, .inr (.inr (.inr (.inr (fun i => (ga1_0 i).1)))))), (ha1_2, .inl (cI, 5, .inl fa1_2)), (ha1_4, .inl (cI, 12, .inl fa1_4)), (ha1, .inr (7, [.ref ha1_0, .ref ha1_1, .ref ha1_2, .int ia1_3, .ref ha1_4, .ref ha1_5, .ref ha1_6, .ref ha1_7, .int ia1_8, .int ia1_9, .int ia1_10, .ref ha1_11])), (ha0_1, .inr (9, [.int 0, .int 0, .int (-9), .int 0, .int 0]))] H := hP
  have hD : va_D A [(ha0_0_0, .inl (cI, 12, .inl fa0_0_0)), (ha0_0, .inr (5, [.ref ha0_0_0, .int ia0_0_1])), (ha0, .inr (2, [.ref ha0_0, .ref ha0_1, .int ia0_2])), (ha1_0, .inl (cQ, 5, .inr (.inr (.inr (.inr (fun i => (ga1_0 i).1)))))), (ha1_2, .inl (cI, 5, .inl fa1_2)), (ha1_4, .inl (cI, 12, .inl fa1_4)), (ha1, .inr (7, [.ref ha1_0, .ref ha1_1, .ref ha1_2, .int ia1_3, .ref ha1_4, .ref ha1_5, .ref ha1_6, .ref ha1_7, .int ia1_8, .int ia1_9, .int ia1_10, .ref ha1_11])), (ha0_1, .inr (9, [.int 0, .int 0, .int (-9), .int 0, .int 0]))] := hD
  have hy1po := hpo
  refine lv_iconst (v := 0) hx hb dX2_goByLot_7 (by decide) ?_
  refine lv_istore_n (lv' := [(2, .int 0), (0, .ref ha0), (1, .ref ha1)]) hx hb dX2_goByLot_8 rfl hl (by decide) rfl (fun ls hl => ?_)
  have hL346 : ∀ (n : Nat) (v3 : Int32) (v16 : Int32) (v17 : Int32) (v18 : Int32) (v19 : Int32) (v20 : Int32) (v58 : Int32) (H : Heap) (locs : List Loc) (ls : Array Slot), 0 ≤ v3.toInt → v3.toInt ≤ 60 → (60 - v3.toInt).toNat < n → lv_has ls 4 [(2, .int v3), (0, .ref ha0), (1, .ref ha1)] → va_P (dC, dI) vwCl [(ha0_0_0, .inl (cI, 12, .inl fa0_0_0)), (ha0_0, .inr (5, [.ref ha0_0_0, .int ia0_0_1])), (ha0, .inr (2, [.ref ha0_0, .ref ha0_1, .int v58])), (ha1_0, .inl (cQ, 5, .inr (.inr (.inr (.inr (fun i => (ga1_0 i).1)))))), (ha1_2, .inl (cI, 5, .inl fa1_2)), (ha1_4, .inl (cI, 12, .inl fa1_4)), (ha1, .inr (7, [.ref ha1_0, .ref ha1_1, .ref ha1_2, .int ia1_3, .ref ha1_4, .ref ha1_5, .ref ha1_6, .ref ha1_7, .int ia1_8, .int ia1_9, .int ia1_10, .ref ha1_11])), (ha0_1, .inr (9, [.int v16, .int v17, .int v18, .int v19, .int v20]))] H → va_D A [(ha0_0_0, .inl (cI, 12, .inl fa0_0_0)), (ha0_0, .inr (5, [.ref ha0_0_0, .int ia0_0_1])), (ha0, .inr (2, [.ref ha0_0, .ref ha0_1, .int v58])), (ha1_0, .inl (cQ, 5, .inr (.inr (.inr (.inr (fun i => (ga1_0 i).1)))))), (ha1_2, .inl (cI, 5, .inl fa1_2)), (ha1_4, .inl (cI, 12, .inl fa1_4)), (ha1, .inr (7, [.ref ha1_0, .ref ha1_1, .ref ha1_2, .int ia1_3, .ref ha1_4, .ref ha1_5, .ref ha1_6, .ref ha1_7, .int ia1_8, .int ia1_9, .int ia1_10, .ref ha1_11])), (ha0_1, .inr (9, [.int v16, .int v17, .int v18, .int v19, .int v20]))] → va_S A s.heap H locs → W p l e (headSpec vsX2_goByLot ({ frames := 5, cells := 0, slots := 0, locals := 117 })).room s m ([.ref ha0, .ref ha1] : List Value).toArray below meth c H locs 0 0 (MQ below (zWi dC dI (A) (fun u => [(ha0_0_0, .inl (cI, 12, .inl fa0_0_0)), (ha0_0, .inr (5, [.ref ha0_0_0, .int ia0_0_1])), (ha0_1, .inr (9, [.int (u.1 0), .int (u.1 1), .int (u.1 2), .int (u.1 3), .int (u.1 4)])), (ha0, .inr (2, [.ref ha0_0, .ref ha0_1, .int (u.1 5)])), (ha1_0, .inl (cQ, 5, .inr (.inr (.inr (.inr (fun i => (ga1_0 i).1)))))), (ha1_2, .inl (cI, 5, .inl fa1_2)), (ha1_4, .inl (cI, 12, .inl fa1_4)), (ha1, .inr (7, [.ref ha1_0, .ref ha1_1, .ref ha1_2, .int ia1_3, .ref ha1_4, .ref ha1_5, .ref ha1_6, .ref ha1_7, .int ia1_8, .int ia1_9, .int ia1_10, .ref ha1_11]))]) (fun r u => ((-2147483648) ≤ (u.1 0).toInt ∧ (u.1 0).toInt ≤ 2147483647) ∧ ((-2147483648) ≤ (u.1 1).toInt ∧ (u.1 1).toInt ≤ 2147483647) ∧ ((-2147483648) ≤ (u.1 2).toInt ∧ (u.1 2).toInt ≤ 2147483647) ∧ ((-2147483648) ≤ (u.1 3).toInt ∧ (u.1 3).toInt ≤ 2147483647) ∧ ((-2147483648) ≤ (u.1 4).toInt ∧ (u.1 4).toInt ≤ 2147483647) ∧ ((-2147483648) ≤ (u.1 5).toInt ∧ (u.1 5).toInt ≤ 2147483647) ∧ ((-2147483648) ≤ r.toInt ∧ r.toInt ≤ 2147483647) ∧ True)) ([.ref ha0, .ref ha1] : List Value).toArray s 0 0 A) (F0 m 9 ls []) := by
    intro n
    induction n with
    | zero =>
      intro v3 v16 v17 v18 v19 v20 v58 H locs ls hi347_0 hi347_1 hi347_m hl hP hD hS
      exact absurd hi347_m (Nat.not_lt_zero _)
    | succ n ih =>
      intro v3 v16 v17 v18 v19 v20 v58 H locs ls hi347_0 hi347_1 hi347_m hl hP hD hS
      have ih348 := ih
      refine lv_iload_n hx hb dX2_goByLot_9 rfl (lv_at hl 0 rfl) ?_
      refine lv_bipush (v := 60) hx hb dX2_goByLot_10 (by decide) ?_
      refine lv_icmp_ge (tgt := 58) hx hb dX2_goByLot_12 (by decide) (fun hc => ?_) (fun hc => ?_)
      · have q349 : 60 ≤ v3.toInt := z_le (by decide) rfl hc
        refine lv_aload_n hx hb dX2_goByLot_58 rfl (lv_at hl 1 rfl) ?_
        refine va_get (D := (dC, dI)) (ci := 2) (v := .ref ha0_1) (C := RX2) (T := TX2) (N := 3) hx hb hts in_X2_goByLot_X2 hown hK hP 2 rfl rfl 1 (by decide) (hts (.fieldLink RX2 21 "EachOnHisCue$Evening" "saying" "LEachOnHisCue$Saying;") (by decide +kernel)) (fun _ h9 => h9) rfl dX2_goByLot_59 ?_
        refine va_get (D := (dC, dI)) (ci := 9) (v := .int v19) (C := RX9) (T := TX9) (N := 5) hx hb hts in_X2_goByLot_X9 hown hK hP 7 rfl rfl 3 (by decide) (hts (.fieldLink RX2 56 "EachOnHisCue$Saying" "times" "I") (by decide +kernel)) (fun _ h9 => h9) rfl dX2_goByLot_62 ?_
        have hP9 := hP.sub (ws' := [(ha0_0_0, .inl (cI, 12, .inl fa0_0_0)), (ha0_0, .inr (5, [.ref ha0_0_0, .int ia0_0_1])), (ha0_1, .inr (9, [.int v16, .int v17, .int v18, .int v19, .int v20])), (ha0, .inr (2, [.ref ha0_0, .ref ha0_1, .int v58])), (ha1_0, .inl (cQ, 5, .inr (.inr (.inr (.inr (fun i => (ga1_0 i).1)))))), (ha1_2, .inl (cI, 5, .inl fa1_2)), (ha1_4, .inl (cI, 12, .inl fa1_4)), (ha1, .inr (7, [.ref ha1_0, .ref ha1_1, .ref ha1_2, .int ia1_3, .ref ha1_4, .ref ha1_5, .ref ha1_6, .ref ha1_7, .int ia1_8, .int ia1_9, .int ia1_10, .ref ha1_11]))]) [0, 1, 7, 2, 3, 4, 5, 6] rfl
        have hD9 := hD.sub (ws' := [(ha0_0_0, .inl (cI, 12, .inl fa0_0_0)), (ha0_0, .inr (5, [.ref ha0_0_0, .int ia0_0_1])), (ha0_1, .inr (9, [.int v16, .int v17, .int v18, .int v19, .int v20])), (ha0, .inr (2, [.ref ha0_0, .ref ha0_1, .int v58])), (ha1_0, .inl (cQ, 5, .inr (.inr (.inr (.inr (fun i => (ga1_0 i).1)))))), (ha1_2, .inl (cI, 5, .inl fa1_2)), (ha1_4, .inl (cI, 12, .inl fa1_4)), (ha1, .inr (7, [.ref ha1_0, .ref ha1_1, .ref ha1_2, .int ia1_3, .ref ha1_4, .ref ha1_5, .ref ha1_6, .ref ha1_7, .int ia1_8, .int ia1_9, .int ia1_10, .ref ha1_11]))]) [0, 1, 7, 2, 3, 4, 5, 6] (by decide) rfl
        exact W.iret (v := v19) hx hb hr (fun t ht hW => ⟨⟨v19, (fun k => [v16, v17, v18, v19, v20, v58].getD k 0, fun k => [].getD k (fun _ => 0)), rfl, (show ((-2147483648) ≤ (v16 : Int32).toInt ∧ (v16 : Int32).toInt ≤ 2147483647) ∧ ((-2147483648) ≤ (v17 : Int32).toInt ∧ (v17 : Int32).toInt ≤ 2147483647) ∧ ((-2147483648) ≤ (v18 : Int32).toInt ∧ (v18 : Int32).toInt ≤ 2147483647) ∧ ((-2147483648) ≤ (v19 : Int32).toInt ∧ (v19 : Int32).toInt ≤ 2147483647) ∧ ((-2147483648) ≤ (v20 : Int32).toInt ∧ (v20 : Int32).toInt ≤ 2147483647) ∧ ((-2147483648) ≤ (v58 : Int32).toInt ∧ (v58 : Int32).toInt ≤ 2147483647) ∧ ((-2147483648) ≤ (v19 : Int32).toInt ∧ (v19 : Int32).toInt ≤ 2147483647) ∧ (True) from ⟨⟨(z_lo v16), (z_hi v16)⟩, ⟨(z_lo v17), (z_hi v17)⟩, ⟨(z_lo v18), (z_hi v18)⟩, ⟨(z_lo v19), (z_hi v19)⟩, ⟨(z_lo v20), (z_hi v20)⟩, ⟨(z_lo v58), (z_hi v58)⟩, ⟨z_lo _, z_hi _⟩, trivial⟩), by rw [ht]; exact hP9, hD9⟩, hS.F ht⟩) hS.2.2 dX2_goByLot_65
      · have q350 : v3.toInt < 60 := z_nle (by decide) rfl hc
        refine lv_iload_n hx hb dX2_goByLot_15 rfl (lv_at hl 0 rfl) ?_
        refine lv_if_ne (tgt := 23) hx hb dX2_goByLot_16 (by decide) (fun hc => ?_) (fun hc => ?_)
        · have q351 : v3.toInt ≠ 0 := z_ne rfl (by decide) hc
          refine lv_aload_n hx hb dX2_goByLot_23 rfl (lv_at hl 1 rfl) ?_
          refine lv_aload_n hx hb dX2_goByLot_24 rfl (lv_at hl 2 rfl) ?_
          refine z_cwi (wc := [(ha0_0_0, .inl (cI, 12, .inl fa0_0_0)), (ha0_0, .inr (5, [.ref ha0_0_0, .int ia0_0_1])), (ha0_1, .inr (9, [.int v16, .int v17, .int v18, .int v19, .int v20])), (ha0, .inr (2, [.ref ha0_0, .ref ha0_1, .int v58])), (ha1_0, .inl (cQ, 5, .inr (.inr (.inr (.inr (fun i => (ga1_0 i).1)))))), (ha1_2, .inl (cI, 5, .inl fa1_2)), (ha1, .inr (7, [.ref ha1_0, .ref ha1_1, .ref ha1_2, .int ia1_3, .ref ha1_4, .ref ha1_5, .ref ha1_6, .ref ha1_7, .int ia1_8, .int ia1_9, .int ia1_10, .ref ha1_11]))]) (wr := [(ha1_4, .inl (cI, 12, .inl fa1_4))]) (w1 := fun u353 => [(ha0_0_0, .inl (cI, 12, .inl fa0_0_0)), (ha0_0, .inr (5, [.ref ha0_0_0, .int ia0_0_1])), (ha0_1, .inr (9, [.int v16, .int v17, .int v18, .int v19, .int v20])), (ha0, .inr (2, [.ref ha0_0, .ref ha0_1, .int (u353.1 0)])), (ha1_0, .inl (cQ, 5, .inr (.inr (.inr (.inr (fun i => (ga1_0 i).1)))))), (ha1_2, .inl (cI, 5, .inl fa1_2)), (ha1, .inr (7, [.ref ha1_0, .ref ha1_1, .ref ha1_2, .int ia1_3, .ref ha1_4, .ref ha1_5, .ref ha1_6, .ref ha1_7, .int ia1_8, .int ia1_9, .int ia1_10, .ref ha1_11]))]) (va_runV (As := [.ref ha1]) (rest := []) ⟨hx, hb, hml, hown, hts⟩ (wX2_drawnLine l dC dI cI cQ ha0 ha1 ha0_0_0 ha0_0 ha0_1 ha1_0 ha1_2 ha1_1 ha1_4 ha1_5 ha1_6 ha1_7 ha1_11 PL fa0_0_0 ia0_0_1 hia0_0_1l hia0_0_1h v16 v17 v18 v19 v20 v58 ga1_0 hPLga1_0 fa1_2 ia1_3 hia1_3l hia1_3h ia1_8 ia1_9 hia1_9l hia1_9h ia1_10 H.size) (cwV 1 hts gv_X2_goByLot_X2_drawnLine_86 rfl rfl rfl (by decide +kernel) ⟨Nat.le_of_ble_eq_true rfl, Nat.le_of_ble_eq_true rfl⟩) ⟨z_blindBP, va_recv hK hP (ci := 2) (q0 := 2) rfl rfl, z_preBP hZ hP hD hPl0 hPlA hS [0, 1, 7, 2, 3, 4, 6] rfl (by decide +kernel)⟩ rfl rfl hl.1 rfl (lv_room (Nat.le_of_ble_eq_true rfl)) dX2_goByLot_25 ⟨Nat.le_of_ble_eq_true rfl, Nat.le_of_ble_eq_true rfl⟩) hP hD hS hA [0, 1, 7, 2, 3, 4, 6] [5] rfl rfl (by decide +kernel) (by decide +kernel) (fun y352 u353 H locs hpo hP hD hS => ?_)
          generalize hgw354 : u353.1 0 = w354 at hP hD hpo
          have hP : va_P (dC, dI) vwCl [(ha1_4, .inl (cI, 12, .inl fa1_4)), (ha0_0_0, .inl (cI, 12, .inl fa0_0_0)), (ha0_0, .inr (5, [.ref ha0_0_0, .int ia0_0_1])), (ha0_1, .inr (9, [.int v16, .int v17, .int v18, .int v19, .int v20])), (ha0, .inr (2, [.ref ha0_0, .ref ha0_1, .int w354])), (ha1_0, .inl (cQ, 5, .inr (.inr (.inr (.inr (fun i => (ga1_0 i).1)))))), (ha1_2, .inl (cI, 5, .inl fa1_2)), (ha1, .inr (7, [.ref ha1_0, .ref ha1_1, .ref ha1_2, .int ia1_3, .ref ha1_4, .ref ha1_5, .ref ha1_6, .ref ha1_7, .int ia1_8, .int ia1_9, .int ia1_10, .ref ha1_11]))] H := hP
          have hD : va_D A [(ha1_4, .inl (cI, 12, .inl fa1_4)), (ha0_0_0, .inl (cI, 12, .inl fa0_0_0)), (ha0_0, .inr (5, [.ref ha0_0_0, .int ia0_0_1])), (ha0_1, .inr (9, [.int v16, .int v17, .int v18, .int v19, .int v20])), (ha0, .inr (2, [.ref ha0_0, .ref ha0_1, .int w354])), (ha1_0, .inl (cQ, 5, .inr (.inr (.inr (.inr (fun i => (ga1_0 i).1)))))), (ha1_2, .inl (cI, 5, .inl fa1_2)), (ha1, .inr (7, [.ref ha1_0, .ref ha1_1, .ref ha1_2, .int ia1_3, .ref ha1_4, .ref ha1_5, .ref ha1_6, .ref ha1_7, .int ia1_8, .int ia1_9, .int ia1_10, .ref ha1_11]))] := hD
          obtain ⟨hw354p, hy352r, hy352po⟩ := hpo
          obtain ⟨hw354l, hw354h⟩ := hw354p
          obtain ⟨hy352l, hy352h⟩ := hy352r
          refine lv_istore_n (lv' := [(3, .int y352), (2, .int v3), (0, .ref ha0), (1, .ref ha1)]) hx hb dX2_goByLot_28 rfl hl (by decide) rfl (fun ls hl => ?_)
          refine lv_iload_n hx hb dX2_goByLot_29 rfl (lv_at hl 0 rfl) ?_
          refine lv_bipush (v := (-9)) hx hb dX2_goByLot_30 (by decide) ?_
          refine lv_icmp_ne (tgt := 43) hx hb dX2_goByLot_32 (by decide) (fun hc => ?_) (fun hc => ?_)
          · have q355 : y352.toInt ≠ (-9) := z_ne rfl (by decide) hc
            refine lv_aload_n hx hb dX2_goByLot_43 rfl (lv_at hl 3 rfl) ?_
            refine lv_aload_n hx hb dX2_goByLot_44 rfl (lv_at hl 2 rfl) ?_
            refine va_get (D := (dC, dI)) (ci := 2) (v := .ref ha0_1) (C := RX2) (T := TX2) (N := 3) hx hb hts in_X2_goByLot_X2 hown hK hP 4 rfl rfl 1 (by decide) (hts (.fieldLink RX2 21 "EachOnHisCue$Evening" "saying" "LEachOnHisCue$Saying;") (by decide +kernel)) (fun _ h9 => h9) rfl dX2_goByLot_45 ?_
            refine lv_iload_n hx hb dX2_goByLot_48 rfl (lv_at hl 0 rfl) ?_
            refine z_cwv (wc := [(ha1_4, .inl (cI, 12, .inl fa1_4)), (ha1, .inr (7, [.ref ha1_0, .ref ha1_1, .ref ha1_2, .int ia1_3, .ref ha1_4, .ref ha1_5, .ref ha1_6, .ref ha1_7, .int ia1_8, .int ia1_9, .int ia1_10, .ref ha1_11])), (ha0_1, .inr (9, [.int v16, .int v17, .int v18, .int v19, .int v20]))]) (wr := [(ha0_0_0, .inl (cI, 12, .inl fa0_0_0)), (ha0_0, .inr (5, [.ref ha0_0_0, .int ia0_0_1])), (ha0, .inr (2, [.ref ha0_0, .ref ha0_1, .int w354])), (ha1_0, .inl (cQ, 5, .inr (.inr (.inr (.inr (fun i => (ga1_0 i).1)))))), (ha1_2, .inl (cI, 5, .inl fa1_2))]) (w1 := fun u357 => [(ha1_4, .inl (cI, 12, .inl fa1_4)), (ha1, .inr (7, [.ref ha1_0, .ref ha1_1, .ref ha1_2, .int ia1_3, .ref ha1_4, .ref ha1_5, .ref ha1_6, .ref ha1_7, .int ia1_8, .int ia1_9, .int ia1_10, .ref ha1_11])), (ha0_1, .inr (9, [.int (u357.1 0), .int (u357.1 1), .int (u357.1 2), .int (u357.1 3), .int (u357.1 4)]))]) (va_runV (As := [.ref ha0_1, .int y352]) (rest := []) ⟨hx, hb, hml, hown, hts⟩ (wX7_speak l dC dI cI cQ ha1 ha0_1 ha1_4 ha1_0 ha1_1 ha1_2 ha1_5 ha1_6 ha1_7 ha1_11 fa1_4 ia1_3 hia1_3l hia1_3h ia1_8 ia1_9 hia1_9l hia1_9h ia1_10 v16 v17 v18 v19 v20 y352 H.size) (cwV 2 hts gv_X2_goByLot_X7_speak_76 rfl rfl rfl (by decide +kernel) ⟨Nat.le_of_ble_eq_true rfl, Nat.le_of_ble_eq_true rfl⟩) ⟨z_blind, va_recv hK hP (ci := 7) (q0 := 7) rfl rfl, z_pre hZ hP hD [0, 7, 3] rfl (by decide +kernel)⟩ rfl rfl hl.1 rfl (lv_room (Nat.le_of_ble_eq_true rfl)) dX2_goByLot_49 ⟨Nat.le_of_ble_eq_true rfl, Nat.le_of_ble_eq_true rfl⟩) hP hD hS hA [0, 7, 3] [1, 2, 4, 5, 6] rfl rfl (by decide +kernel) (by decide +kernel) (fun u357 H locs hpo hP hD hS => ?_)
            generalize hgw358 : u357.1 0 = w358 at hP hD hpo
            generalize hgw359 : u357.1 1 = w359 at hP hD hpo
            generalize hgw360 : u357.1 2 = w360 at hP hD hpo
            generalize hgw361 : u357.1 3 = w361 at hP hD hpo
            generalize hgw362 : u357.1 4 = w362 at hP hD hpo
            have hP : va_P (dC, dI) vwCl [(ha0_0_0, .inl (cI, 12, .inl fa0_0_0)), (ha0_0, .inr (5, [.ref ha0_0_0, .int ia0_0_1])), (ha0, .inr (2, [.ref ha0_0, .ref ha0_1, .int w354])), (ha1_0, .inl (cQ, 5, .inr (.inr (.inr (.inr (fun i => (ga1_0 i).1)))))), (ha1_2, .inl (cI, 5, .inl fa1_2)), (ha1_4, .inl (cI, 12, .inl fa1_4)), (ha1, .inr (7, [.ref ha1_0, .ref ha1_1, .ref ha1_2, .int ia1_3, .ref ha1_4, .ref ha1_5, .ref ha1_6, .ref ha1_7, .int ia1_8, .int ia1_9, .int ia1_10, .ref ha1_11])), (ha0_1, .inr (9, [.int w358, .int w359, .int w360, .int w361, .int w362]))] H := hP
            have hD : va_D A [(ha0_0_0, .inl (cI, 12, .inl fa0_0_0)), (ha0_0, .inr (5, [.ref ha0_0_0, .int ia0_0_1])), (ha0, .inr (2, [.ref ha0_0, .ref ha0_1, .int w354])), (ha1_0, .inl (cQ, 5, .inr (.inr (.inr (.inr (fun i => (ga1_0 i).1)))))), (ha1_2, .inl (cI, 5, .inl fa1_2)), (ha1_4, .inl (cI, 12, .inl fa1_4)), (ha1, .inr (7, [.ref ha1_0, .ref ha1_1, .ref ha1_2, .int ia1_3, .ref ha1_4, .ref ha1_5, .ref ha1_6, .ref ha1_7, .int ia1_8, .int ia1_9, .int ia1_10, .ref ha1_11])), (ha0_1, .inr (9, [.int w358, .int w359, .int w360, .int w361, .int w362]))] := hD
            obtain ⟨hw358p, hw359p, hw360p, hw361p, hw362p, hy356po⟩ := hpo
            obtain ⟨hw358l, hw358h⟩ := hw358p
            obtain ⟨hw359l, hw359h⟩ := hw359p
            obtain ⟨hw360l, hw360h⟩ := hw360p
            obtain ⟨hw361l, hw361h⟩ := hw361p
            obtain ⟨hw362l, hw362h⟩ := hw362p
            obtain ⟨y363, ey363⟩ : ∃ y : Int32, y = v3 + 1 := ⟨_, rfl⟩
            refine lv_iinc (v := y363) (lv' := [(2, .int y363), (3, .int y352), (0, .ref ha0), (1, .ref ha1)]) hx hb dX2_goByLot_52 hl (k := 1) rfl (by rw [ey363]; rfl) (by decide) rfl (fun ls hl => ?_)
            have hy363 : y363.toInt = v3.toInt + 1 := by rw [ey363]; exact z_add rfl (by decide) (by omega) (by omega)
            refine lv_goto (tgt := 9) hx hb dX2_goByLot_55 (by decide) ?_
            exact ih348 y363 w358 w359 w360 w361 w362 w354 _ _ ls (by first | decide | omega) (by first | decide | omega) (by omega) (lv_sub hl [0, 2, 3] rfl) hP hD hS
          · have q364 : y352.toInt = (-9) := z_eq rfl (by decide) hc
            refine lv_aload_n hx hb dX2_goByLot_35 rfl (lv_at hl 2 rfl) ?_
            refine va_get (D := (dC, dI)) (ci := 2) (v := .ref ha0_1) (C := RX2) (T := TX2) (N := 3) hx hb hts in_X2_goByLot_X2 hown hK hP 4 rfl rfl 1 (by decide) (hts (.fieldLink RX2 21 "EachOnHisCue$Evening" "saying" "LEachOnHisCue$Saying;") (by decide +kernel)) (fun _ h9 => h9) rfl dX2_goByLot_36 ?_
            refine va_get (D := (dC, dI)) (ci := 9) (v := .int v19) (C := RX9) (T := TX9) (N := 5) hx hb hts in_X2_goByLot_X9 hown hK hP 3 rfl rfl 3 (by decide) (hts (.fieldLink RX2 56 "EachOnHisCue$Saying" "times" "I") (by decide +kernel)) (fun _ h9 => h9) rfl dX2_goByLot_39 ?_
            have hP9 := hP.sub (ws' := [(ha0_0_0, .inl (cI, 12, .inl fa0_0_0)), (ha0_0, .inr (5, [.ref ha0_0_0, .int ia0_0_1])), (ha0_1, .inr (9, [.int v16, .int v17, .int v18, .int v19, .int v20])), (ha0, .inr (2, [.ref ha0_0, .ref ha0_1, .int w354])), (ha1_0, .inl (cQ, 5, .inr (.inr (.inr (.inr (fun i => (ga1_0 i).1)))))), (ha1_2, .inl (cI, 5, .inl fa1_2)), (ha1_4, .inl (cI, 12, .inl fa1_4)), (ha1, .inr (7, [.ref ha1_0, .ref ha1_1, .ref ha1_2, .int ia1_3, .ref ha1_4, .ref ha1_5, .ref ha1_6, .ref ha1_7, .int ia1_8, .int ia1_9, .int ia1_10, .ref ha1_11]))]) [1, 2, 3, 4, 5, 6, 0, 7] rfl
            have hD9 := hD.sub (ws' := [(ha0_0_0, .inl (cI, 12, .inl fa0_0_0)), (ha0_0, .inr (5, [.ref ha0_0_0, .int ia0_0_1])), (ha0_1, .inr (9, [.int v16, .int v17, .int v18, .int v19, .int v20])), (ha0, .inr (2, [.ref ha0_0, .ref ha0_1, .int w354])), (ha1_0, .inl (cQ, 5, .inr (.inr (.inr (.inr (fun i => (ga1_0 i).1)))))), (ha1_2, .inl (cI, 5, .inl fa1_2)), (ha1_4, .inl (cI, 12, .inl fa1_4)), (ha1, .inr (7, [.ref ha1_0, .ref ha1_1, .ref ha1_2, .int ia1_3, .ref ha1_4, .ref ha1_5, .ref ha1_6, .ref ha1_7, .int ia1_8, .int ia1_9, .int ia1_10, .ref ha1_11]))]) [1, 2, 3, 4, 5, 6, 0, 7] (by decide) rfl
            exact W.iret (v := v19) hx hb hr (fun t ht hW => ⟨⟨v19, (fun k => [v16, v17, v18, v19, v20, w354].getD k 0, fun k => [].getD k (fun _ => 0)), rfl, (show ((-2147483648) ≤ (v16 : Int32).toInt ∧ (v16 : Int32).toInt ≤ 2147483647) ∧ ((-2147483648) ≤ (v17 : Int32).toInt ∧ (v17 : Int32).toInt ≤ 2147483647) ∧ ((-2147483648) ≤ (v18 : Int32).toInt ∧ (v18 : Int32).toInt ≤ 2147483647) ∧ ((-2147483648) ≤ (v19 : Int32).toInt ∧ (v19 : Int32).toInt ≤ 2147483647) ∧ ((-2147483648) ≤ (v20 : Int32).toInt ∧ (v20 : Int32).toInt ≤ 2147483647) ∧ ((-2147483648) ≤ (w354 : Int32).toInt ∧ (w354 : Int32).toInt ≤ 2147483647) ∧ ((-2147483648) ≤ (v19 : Int32).toInt ∧ (v19 : Int32).toInt ≤ 2147483647) ∧ (True) from ⟨⟨(z_lo v16), (z_hi v16)⟩, ⟨(z_lo v17), (z_hi v17)⟩, ⟨(z_lo v18), (z_hi v18)⟩, ⟨(z_lo v19), (z_hi v19)⟩, ⟨(z_lo v20), (z_hi v20)⟩, ⟨hw354l, hw354h⟩, ⟨z_lo _, z_hi _⟩, trivial⟩), by rw [ht]; exact hP9, hD9⟩, hS.F ht⟩) hS.2.2 dX2_goByLot_42
        · have q365 : v3.toInt = 0 := z_eq rfl (by decide) hc
          refine lv_iconst (v := 0) hx hb dX2_goByLot_19 (by decide) ?_
          refine lv_goto (tgt := 28) hx hb dX2_goByLot_20 (by decide) ?_
          refine lv_istore_n (lv' := [(3, .int 0), (2, .int v3), (0, .ref ha0), (1, .ref ha1)]) hx hb dX2_goByLot_28 rfl hl (by decide) rfl (fun ls hl => ?_)
          refine lv_iload_n hx hb dX2_goByLot_29 rfl (lv_at hl 0 rfl) ?_
          refine lv_bipush (v := (-9)) hx hb dX2_goByLot_30 (by decide) ?_
          refine lv_icmp_ne (tgt := 43) hx hb dX2_goByLot_32 (by decide) (fun hc => ?_) (fun hc => ?_)
          · skip
            refine lv_aload_n hx hb dX2_goByLot_43 rfl (lv_at hl 3 rfl) ?_
            refine lv_aload_n hx hb dX2_goByLot_44 rfl (lv_at hl 2 rfl) ?_
            refine va_get (D := (dC, dI)) (ci := 2) (v := .ref ha0_1) (C := RX2) (T := TX2) (N := 3) hx hb hts in_X2_goByLot_X2 hown hK hP 2 rfl rfl 1 (by decide) (hts (.fieldLink RX2 21 "EachOnHisCue$Evening" "saying" "LEachOnHisCue$Saying;") (by decide +kernel)) (fun _ h9 => h9) rfl dX2_goByLot_45 ?_
            refine lv_iload_n hx hb dX2_goByLot_48 rfl (lv_at hl 0 rfl) ?_
            refine z_cwv (wc := [(ha1_4, .inl (cI, 12, .inl fa1_4)), (ha1, .inr (7, [.ref ha1_0, .ref ha1_1, .ref ha1_2, .int ia1_3, .ref ha1_4, .ref ha1_5, .ref ha1_6, .ref ha1_7, .int ia1_8, .int ia1_9, .int ia1_10, .ref ha1_11])), (ha0_1, .inr (9, [.int v16, .int v17, .int v18, .int v19, .int v20]))]) (wr := [(ha0_0_0, .inl (cI, 12, .inl fa0_0_0)), (ha0_0, .inr (5, [.ref ha0_0_0, .int ia0_0_1])), (ha0, .inr (2, [.ref ha0_0, .ref ha0_1, .int v58])), (ha1_0, .inl (cQ, 5, .inr (.inr (.inr (.inr (fun i => (ga1_0 i).1)))))), (ha1_2, .inl (cI, 5, .inl fa1_2))]) (w1 := fun u367 => [(ha1_4, .inl (cI, 12, .inl fa1_4)), (ha1, .inr (7, [.ref ha1_0, .ref ha1_1, .ref ha1_2, .int ia1_3, .ref ha1_4, .ref ha1_5, .ref ha1_6, .ref ha1_7, .int ia1_8, .int ia1_9, .int ia1_10, .ref ha1_11])), (ha0_1, .inr (9, [.int (u367.1 0), .int (u367.1 1), .int (u367.1 2), .int (u367.1 3), .int (u367.1 4)]))]) (va_runV (As := [.ref ha0_1, .int 0]) (rest := []) ⟨hx, hb, hml, hown, hts⟩ (wX7_speak l dC dI cI cQ ha1 ha0_1 ha1_4 ha1_0 ha1_1 ha1_2 ha1_5 ha1_6 ha1_7 ha1_11 fa1_4 ia1_3 hia1_3l hia1_3h ia1_8 ia1_9 hia1_9l hia1_9h ia1_10 v16 v17 v18 v19 v20 0 H.size) (cwV 2 hts gv_X2_goByLot_X7_speak_76 rfl rfl rfl (by decide +kernel) ⟨Nat.le_of_ble_eq_true rfl, Nat.le_of_ble_eq_true rfl⟩) ⟨z_blind, va_recv hK hP (ci := 7) (q0 := 6) rfl rfl, z_pre hZ hP hD [5, 6, 7] rfl (by decide +kernel)⟩ rfl rfl hl.1 rfl (lv_room (Nat.le_of_ble_eq_true rfl)) dX2_goByLot_49 ⟨Nat.le_of_ble_eq_true rfl, Nat.le_of_ble_eq_true rfl⟩) hP hD hS hA [5, 6, 7] [0, 1, 2, 3, 4] rfl rfl (by decide +kernel) (by decide +kernel) (fun u367 H locs hpo hP hD hS => ?_)
            generalize hgw368 : u367.1 0 = w368 at hP hD hpo
            generalize hgw369 : u367.1 1 = w369 at hP hD hpo
            generalize hgw370 : u367.1 2 = w370 at hP hD hpo
            generalize hgw371 : u367.1 3 = w371 at hP hD hpo
            generalize hgw372 : u367.1 4 = w372 at hP hD hpo
            have hP : va_P (dC, dI) vwCl [(ha0_0_0, .inl (cI, 12, .inl fa0_0_0)), (ha0_0, .inr (5, [.ref ha0_0_0, .int ia0_0_1])), (ha0, .inr (2, [.ref ha0_0, .ref ha0_1, .int v58])), (ha1_0, .inl (cQ, 5, .inr (.inr (.inr (.inr (fun i => (ga1_0 i).1)))))), (ha1_2, .inl (cI, 5, .inl fa1_2)), (ha1_4, .inl (cI, 12, .inl fa1_4)), (ha1, .inr (7, [.ref ha1_0, .ref ha1_1, .ref ha1_2, .int ia1_3, .ref ha1_4, .ref ha1_5, .ref ha1_6, .ref ha1_7, .int ia1_8, .int ia1_9, .int ia1_10, .ref ha1_11])), (ha0_1, .inr (9, [.int w368, .int w369, .int w370, .int w371, .int w372]))] H := hP
            have hD : va_D A [(ha0_0_0, .inl (cI, 12, .inl fa0_0_0)), (ha0_0, .inr (5, [.ref ha0_0_0, .int ia0_0_1])), (ha0, .inr (2, [.ref ha0_0, .ref ha0_1, .int v58])), (ha1_0, .inl (cQ, 5, .inr (.inr (.inr (.inr (fun i => (ga1_0 i).1)))))), (ha1_2, .inl (cI, 5, .inl fa1_2)), (ha1_4, .inl (cI, 12, .inl fa1_4)), (ha1, .inr (7, [.ref ha1_0, .ref ha1_1, .ref ha1_2, .int ia1_3, .ref ha1_4, .ref ha1_5, .ref ha1_6, .ref ha1_7, .int ia1_8, .int ia1_9, .int ia1_10, .ref ha1_11])), (ha0_1, .inr (9, [.int w368, .int w369, .int w370, .int w371, .int w372]))] := hD
            obtain ⟨hw368p, hw369p, hw370p, hw371p, hw372p, hy366po⟩ := hpo
            obtain ⟨hw368l, hw368h⟩ := hw368p
            obtain ⟨hw369l, hw369h⟩ := hw369p
            obtain ⟨hw370l, hw370h⟩ := hw370p
            obtain ⟨hw371l, hw371h⟩ := hw371p
            obtain ⟨hw372l, hw372h⟩ := hw372p
            obtain ⟨y373, ey373⟩ : ∃ y : Int32, y = v3 + 1 := ⟨_, rfl⟩
            refine lv_iinc (v := y373) (lv' := [(2, .int y373), (3, .int 0), (0, .ref ha0), (1, .ref ha1)]) hx hb dX2_goByLot_52 hl (k := 1) rfl (by rw [ey373]; rfl) (by decide) rfl (fun ls hl => ?_)
            have hy373 : y373.toInt = v3.toInt + 1 := by rw [ey373]; exact z_add rfl (by decide) (by omega) (by omega)
            refine lv_goto (tgt := 9) hx hb dX2_goByLot_55 (by decide) ?_
            exact ih348 y373 w368 w369 w370 w371 w372 v58 _ _ ls (by first | decide | omega) (by first | decide | omega) (by omega) (lv_sub hl [0, 2, 3] rfl) hP hD hS
          · exact absurd hc (by decide)
  exact hL346 ((60 - (0 : Int32).toInt).toNat + 1) 0 0 0 (-9) 0 0 ia0_2 _ _ ls (by decide) (by decide) (by omega) hl hP hD hS
set_option maxRecDepth 20000 in
theorem edX11_power_0 : decode cX11_power 0 = .ok (.lconst 1, 1) ∧ decode cX11_power 1 = .ok (.lstore_n 2, 1) ∧ decode cX11_power 2 = .ok (.iconst 0, 1) ∧ decode cX11_power 3 = .ok (.istore 4, 2) ∧ decode cX11_power 5 = .ok (.iload 4, 2) ∧ decode cX11_power 7 = .ok (.iload_n 1, 1) ∧ decode cX11_power 8 = .ok (.if_icmp .ge 14, 3) ∧ decode cX11_power 11 = .ok (.lload_n 2, 1) ∧ decode cX11_power 12 = .ok (.iload_n 0, 1) ∧ decode cX11_power 13 = .ok (.i2l, 1) ∧ decode cX11_power 14 = .ok (.lmul, 1) ∧ decode cX11_power 15 = .ok (.lstore_n 2, 1) := by decide +kernel
theorem dX11_power_0 : decode cX11_power 0 = .ok (.lconst 1, 1) := edX11_power_0.1
theorem dX11_power_1 : decode cX11_power 1 = .ok (.lstore_n 2, 1) := edX11_power_0.2.1
theorem dX11_power_2 : decode cX11_power 2 = .ok (.iconst 0, 1) := edX11_power_0.2.2.1
theorem dX11_power_3 : decode cX11_power 3 = .ok (.istore 4, 2) := edX11_power_0.2.2.2.1
theorem dX11_power_5 : decode cX11_power 5 = .ok (.iload 4, 2) := edX11_power_0.2.2.2.2.1
theorem dX11_power_7 : decode cX11_power 7 = .ok (.iload_n 1, 1) := edX11_power_0.2.2.2.2.2.1
theorem dX11_power_8 : decode cX11_power 8 = .ok (.if_icmp .ge 14, 3) := edX11_power_0.2.2.2.2.2.2.1
theorem dX11_power_11 : decode cX11_power 11 = .ok (.lload_n 2, 1) := edX11_power_0.2.2.2.2.2.2.2.1
theorem dX11_power_12 : decode cX11_power 12 = .ok (.iload_n 0, 1) := edX11_power_0.2.2.2.2.2.2.2.2.1
theorem dX11_power_13 : decode cX11_power 13 = .ok (.i2l, 1) := edX11_power_0.2.2.2.2.2.2.2.2.2.1
theorem dX11_power_14 : decode cX11_power 14 = .ok (.lmul, 1) := edX11_power_0.2.2.2.2.2.2.2.2.2.2.1
theorem dX11_power_15 : decode cX11_power 15 = .ok (.lstore_n 2, 1) := edX11_power_0.2.2.2.2.2.2.2.2.2.2.2
set_option maxRecDepth 20000 in
theorem edX11_power_16 : decode cX11_power 16 = .ok (.iinc 4 1, 3) ∧ decode cX11_power 19 = .ok (.goto (-14), 3) ∧ decode cX11_power 22 = .ok (.lload_n 2, 1) ∧ decode cX11_power 23 = .ok (.lreturn, 1) := by decide +kernel
theorem dX11_power_16 : decode cX11_power 16 = .ok (.iinc 4 1, 3) := edX11_power_16.1
theorem dX11_power_19 : decode cX11_power 19 = .ok (.goto (-14), 3) := edX11_power_16.2.1
theorem dX11_power_22 : decode cX11_power 22 = .ok (.lload_n 2, 1) := edX11_power_16.2.2.1
theorem dX11_power_23 : decode cX11_power 23 = .ok (.lreturn, 1) := edX11_power_16.2.2.2
noncomputable def voX11_power : List Cond := []
noncomputable def vsX11_power : List Cond := .code yX11_power cX11_power 5 (some .long) :: (voX11_power)
theorem zgX11_power : zGd vsX11_power := z_gdC rfl ((z_gdO (by decide +kernel) : zGd voX11_power))
set_option maxHeartbeats 4000000 in
set_option maxRecDepth 100000 in
theorem rX11_power (l : Launch) (dC : Nat → ClassId) (dI : Nat → Nat → Nat) (cI cQ : ClassId) (p0 : Int32) (p1 : Int32) (hp1l : (-2147483648) ≤ p1.toInt) (hp1h : p1.toInt ≤ 11) : Met l yX11_power vsX11_power ({ frames := 0, cells := 0, slots := 0, locals := 0 }) (va_Pc [.int p0, .int p1] (zRB dC dI cI cQ [])) (vp_Sl (fun _ => True)) 0 0 (fun _ => False) := by
  refine Met.ofW (cc := cX11_power) (maxL := 5) (ret := (some .long)) (by decide) rfl ?_
  intro p e s m args below meth c s₁ B hml hv
  obtain ⟨rfl, hP, hZ⟩ := hv
  obtain ⟨hK, hAO, hN⟩ := id hZ
  have hx := B.exec
  have hb := B.bytes
  have hr := B.returns
  have hts := atoms_spec (ws := vsX11_power) B.pre
  have hown : s.vm.findClass RX11 = some m.cls := findClass_of_methodNamed B.named
  have hlocks := B.notSynchronized
  have hp0l := z_lo p0
  have hp0h := z_hi p0
  have hl := lv_entry ([.int p0, .int p1]) (n := 5) (Nat.le_of_ble_eq_true rfl)
  rw [lg_entry_eq]
  generalize (lg_sl ([.int p0, .int p1]) ++ List.replicate (5 - (lg_sl ([.int p0, .int p1])).length) Slot.unset).toArray = ls at hl ⊢
  have hl : lv_has ls 5 [(0, .int p0), (1, .int p1)] := hl
  refine lv_lconst (v := 1) hx hb dX11_power_0 (by decide) ?_
  refine lv_lstore_n (lv' := [(2, .long 1), (0, .int p0), (1, .int p1)]) hx hb dX11_power_1 rfl hl (by decide) rfl (fun ls hl => ?_)
  refine lv_iconst (v := 0) hx hb dX11_power_2 (by decide) ?_
  refine lv_istore (lv' := [(4, .int 0), (2, .long 1), (0, .int p0), (1, .int p1)]) hx hb dX11_power_3 hl (by decide) rfl (fun ls hl => ?_)
  have hL38 : ∀ (n : Nat) (v1 : Int32) (v2 : Int64) (ls : Array Slot), 0 ≤ v1.toInt → v1.toInt ≤ 11 → (11 - v1.toInt).toNat < n → lv_has ls 5 [(4, .int v1), (2, .long v2), (0, .int p0), (1, .int p1)] → W p l e (headSpec vsX11_power ({ frames := 0, cells := 0, slots := 0, locals := 0 })).room s m ([.int p0, .int p1] : List Value).toArray below meth c s.heap [] 0 0 (MQ below (vp_Sl (fun _ => True)) ([.int p0, .int p1] : List Value).toArray s 0 0 (fun _ => False)) (F0 m 5 ls []) := by
    intro n
    induction n with
    | zero =>
      intro v1 v2 ls hi39_0 hi39_1 hi39_m hl
      exact absurd hi39_m (Nat.not_lt_zero _)
    | succ n ih =>
      intro v1 v2 ls hi39_0 hi39_1 hi39_m hl
      have ih40 := ih
      refine lv_iload hx hb dX11_power_5 (lv_at hl 0 rfl) ?_
      refine lv_iload_n hx hb dX11_power_7 rfl (lv_at hl 3 rfl) ?_
      refine lv_icmp_ge (tgt := 22) hx hb dX11_power_8 (by decide) (fun hc => ?_) (fun hc => ?_)
      · have q41 : p1.toInt ≤ v1.toInt := z_le rfl rfl hc
        refine lv_lload_n hx hb dX11_power_22 rfl (lv_at hl 1 rfl) ?_
        exact W.lret (v := v2) hx hb hr (fun t ht hW => ⟨v2, rfl, trivial, ht⟩) (fun _ h => absurd h List.not_mem_nil) dX11_power_23
      · have q42 : v1.toInt < p1.toInt := z_nle rfl rfl hc
        refine lv_lload_n hx hb dX11_power_11 rfl (lv_at hl 1 rfl) ?_
        refine lv_iload_n hx hb dX11_power_12 rfl (lv_at hl 2 rfl) ?_
        refine lv_i2l (v := p0.toInt64) hx hb dX11_power_13 rfl ?_
        refine lv_topl (fun y43 ey43 => ?_)
        refine lv_lmul hx hb dX11_power_14 ?_
        refine lv_topl (fun y44 ey44 => ?_)
        refine lv_lstore_n (lv' := [(2, .long y44), (4, .int v1), (0, .int p0), (1, .int p1)]) hx hb dX11_power_15 rfl hl (by decide) rfl (fun ls hl => ?_)
        obtain ⟨y45, ey45⟩ : ∃ y : Int32, y = v1 + 1 := ⟨_, rfl⟩
        refine lv_iinc (v := y45) (lv' := [(4, .int y45), (2, .long y44), (0, .int p0), (1, .int p1)]) hx hb dX11_power_16 hl (k := 1) rfl (by rw [ey45]; rfl) (by decide) rfl (fun ls hl => ?_)
        have hy45 : y45.toInt = v1.toInt + 1 := by rw [ey45]; exact z_add rfl (by decide) (by omega) (by omega)
        refine lv_goto (tgt := 5) hx hb dX11_power_19 (by decide) ?_
        exact ih40 y45 y44 ls (by first | decide | omega) (by first | decide | omega) (by omega) (lv_sub hl [0, 1, 2, 3] rfl)
  exact hL38 ((11 - (0 : Int32).toInt).toNat + 1) 0 1 ls (by decide) (by decide) (by omega) hl
