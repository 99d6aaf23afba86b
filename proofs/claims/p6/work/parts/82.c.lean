theorem dX11_image_0 : decode cX11_image 0 = .ok (.aload_n 0, 1) := by decide +kernel
theorem dX11_image_1 : decode cX11_image 1 = .ok (.getfield 16, 3) := by decide +kernel
theorem dX11_image_4 : decode cX11_image 4 = .ok (.aload_n 0, 1) := by decide +kernel
theorem dX11_image_5 : decode cX11_image 5 = .ok (.getfield 10, 3) := by decide +kernel
theorem dX11_image_8 : decode cX11_image 8 = .ok (.invokevirtual 238, 3) := by decide +kernel
theorem dX11_image_11 : decode cX11_image 11 = .ok (.aload_n 0, 1) := by decide +kernel
theorem dX11_image_12 : decode cX11_image 12 = .ok (.iconst 1, 1) := by decide +kernel
theorem dX11_image_13 : decode cX11_image 13 = .ok (.putfield 19, 3) := by decide +kernel
theorem dX11_image_16 : decode cX11_image 16 = .ok (.aload_n 0, 1) := by decide +kernel
theorem dX11_image_17 : decode cX11_image 17 = .ok (.getfield 10, 3) := by decide +kernel
theorem dX11_image_20 : decode cX11_image 20 = .ok (.getfield 137, 3) := by decide +kernel
theorem dX11_image_23 : decode cX11_image 23 = .ok (.ireturn, 1) := by decide +kernel
noncomputable def voX11_image : List Cond := [.fieldLink RX11 16 "EachOnHisCue" "imaged" "LEachOnHisCue$Play;", .fieldLink RX11 10 "EachOnHisCue" "play" "LEachOnHisCue$Play;", .fieldLink RX11 19 "EachOnHisCue" "hasImage" "Z", .fieldLink RX11 137 "EachOnHisCue$Play" "lines" "I", .methodLink RX11 238 yX7_take, .instanceMethod yX7_take, .selects RX7 yX7_take yX7_take, .initialized RX7]
noncomputable def vsX11_image : List Cond := .code yX11_image cX11_image 1 (some .int) :: (voX11_image ++ (vsX7_take ++ (wsX70 ++ (wsX110))))
theorem zgX11_image : zGd vsX11_image := z_gdC rfl (z_gdA (z_gdO (by decide +kernel) : zGd voX11_image) (z_gdA zgX7_take (z_gdA zgX7 (zgX11))))
theorem in_X11_image_X7 : ∀ w ∈ wsX70, w ∈ vsX11_image := fun _ h => List.mem_cons_of_mem _ (List.mem_append_right _ (List.mem_append_right _ (List.mem_append_left _ h)))
theorem in_X11_image_X11 : ∀ w ∈ wsX110, w ∈ vsX11_image := fun _ h => List.mem_cons_of_mem _ (List.mem_append_right _ (List.mem_append_right _ (List.mem_append_right _ (h))))
theorem gw_X11_image_X7_take : GoodIn vsX11_image vsX7_take := z_gdI (fun _ h => List.mem_cons_of_mem _ (List.mem_append_right _ (List.mem_append_left _ h))) zgX7_take
set_option maxRecDepth 20000 in
theorem gv_X11_image_X7_take_238 : GoodIn vsX11_image (wsV RX11 238 RX7 yX7_take vsX7_take) := goodIn_app (goodIn_of _ (by decide +kernel)) gw_X11_image_X7_take
set_option maxHeartbeats 4000000 in
set_option maxRecDepth 100000 in
theorem wX11_image (l : Launch) (dC : Nat → ClassId) (dI : Nat → Nat → Nat) (cI cQ : ClassId) (ha0 ha0_0_0 ha0_0_1 ha0_0_2 ha0_0_4 ha0_0_5 ha0_0_6 ha0_0_7 ha0_0_11 ha0_0 ha0_1_0 ha0_1_1 ha0_1_2 ha0_1_4 ha0_1_5 ha0_1_6 ha0_1_7 ha0_1_11 ha0_1 ha0_3 ha0_3_0 ha0_5 ha0_6 ha0_8 : Nat) (PL : Nat → Prop) (ga0_0_0 : Nat → Option Nat) (hPLga0_0_0 : ∀ i y, ga0_0_0 i = some y → PL y) (fa0_0_1 : Nat → Int32) (fa0_0_2 : Nat → Int32) (fa0_0_4 : Nat → Int32) (fa0_0_5 : Nat → Int32) (fa0_0_6 : Nat → Int32) (hBfa0_0_6 : ∀ k, 0 ≤ (fa0_0_6 k).toInt ∧ (fa0_0_6 k).toInt ≤ 4) (fa0_0_7 : Nat → Int32) (hBfa0_0_7 : ∀ k, (-48) ≤ (fa0_0_7 k).toInt ∧ (fa0_0_7 k).toInt ≤ 207) (ia0_0_11_0 : Int32) (ia0_0_11_1 : Int32) (ia0_0_11_2 : Int32) (ia0_0_11_3 : Int32) (ia0_0_11_4 : Int32) (ia0_0_3 : Int32) (hia0_0_3l : 0 ≤ ia0_0_3.toInt) (hia0_0_3h : ia0_0_3.toInt ≤ 5) (ia0_0_8 : Int32) (ia0_0_9 : Int32) (hia0_0_9l : 0 ≤ ia0_0_9.toInt) (hia0_0_9h : ia0_0_9.toInt ≤ 12) (ia0_0_10 : Int32) (ga0_1_0 : Nat → Option Nat) (hPLga0_1_0 : ∀ i y, ga0_1_0 i = some y → PL y) (fa0_1_1 : Nat → Int32) (fa0_1_2 : Nat → Int32) (fa0_1_4 : Nat → Int32) (fa0_1_5 : Nat → Int32) (fa0_1_6 : Nat → Int32) (hBfa0_1_6 : ∀ k, 0 ≤ (fa0_1_6 k).toInt ∧ (fa0_1_6 k).toInt ≤ 4) (fa0_1_7 : Nat → Int32) (hBfa0_1_7 : ∀ k, (-48) ≤ (fa0_1_7 k).toInt ∧ (fa0_1_7 k).toInt ≤ 207) (ia0_1_11_0 : Int32) (ia0_1_11_1 : Int32) (ia0_1_11_2 : Int32) (ia0_1_11_3 : Int32) (ia0_1_11_4 : Int32) (ia0_1_3 : Int32) (hia0_1_3l : 0 ≤ ia0_1_3.toInt) (hia0_1_3h : ia0_1_3.toInt ≤ 5) (ia0_1_8 : Int32) (ia0_1_9 : Int32) (hia0_1_9l : 0 ≤ ia0_1_9.toInt) (hia0_1_9h : ia0_1_9.toInt ≤ 12) (ia0_1_10 : Int32) (ia0_2 : Int32) (hia0_2l : 0 ≤ ia0_2.toInt) (hia0_2h : ia0_2.toInt ≤ 1) (ia0_7 : Int32) (hia0_7l : 0 ≤ ia0_7.toInt) (hia0_7h : ia0_7.toInt ≤ 12) (sz : Nat) : Met l yX11_image vsX11_image ({ frames := 2, cells := 0, slots := 0, locals := 43 }) (va_Pc [.ref ha0] (zBP dC dI cI cQ PL [(ha0_0_0, .inl (cQ, 5, .inr (.inr (.inr (.inr ga0_0_0))))), (ha0_0_1, .inl (cI, 5, .inl fa0_0_1)), (ha0_0_2, .inl (cI, 5, .inl fa0_0_2)), (ha0_0_4, .inl (cI, 12, .inl fa0_0_4)), (ha0_0_5, .inl (cI, 12, .inl fa0_0_5)), (ha0_0_6, .inl (cI, 12, .inl fa0_0_6)), (ha0_0_7, .inl (cI, 12, .inl fa0_0_7)), (ha0_0_11, .inr (9, [.int ia0_0_11_0, .int ia0_0_11_1, .int ia0_0_11_2, .int ia0_0_11_3, .int ia0_0_11_4])), (ha0_0, .inr (7, [.ref ha0_0_0, .ref ha0_0_1, .ref ha0_0_2, .int ia0_0_3, .ref ha0_0_4, .ref ha0_0_5, .ref ha0_0_6, .ref ha0_0_7, .int ia0_0_8, .int ia0_0_9, .int ia0_0_10, .ref ha0_0_11])), (ha0_1_0, .inl (cQ, 5, .inr (.inr (.inr (.inr ga0_1_0))))), (ha0_1_1, .inl (cI, 5, .inl fa0_1_1)), (ha0_1_2, .inl (cI, 5, .inl fa0_1_2)), (ha0_1_4, .inl (cI, 12, .inl fa0_1_4)), (ha0_1_5, .inl (cI, 12, .inl fa0_1_5)), (ha0_1_6, .inl (cI, 12, .inl fa0_1_6)), (ha0_1_7, .inl (cI, 12, .inl fa0_1_7)), (ha0_1_11, .inr (9, [.int ia0_1_11_0, .int ia0_1_11_1, .int ia0_1_11_2, .int ia0_1_11_3, .int ia0_1_11_4])), (ha0_1, .inr (7, [.ref ha0_1_0, .ref ha0_1_1, .ref ha0_1_2, .int ia0_1_3, .ref ha0_1_4, .ref ha0_1_5, .ref ha0_1_6, .ref ha0_1_7, .int ia0_1_8, .int ia0_1_9, .int ia0_1_10, .ref ha0_1_11])), (ha0, .inr (11, [.ref ha0_0, .ref ha0_1, .int ia0_2, .ref ha0_3, .ref ha0_3_0, .ref ha0_5, .ref ha0_6, .int ia0_7, .ref ha0_8]))] sz)) (zWiG (S := ZU × (Nat → Nat → Option Nat)) dC dI (va_A [(ha0_0_0, .inl (cQ, 5, .inr (.inr (.inr (.inr ga0_0_0))))), (ha0_0_1, .inl (cI, 5, .inl fa0_0_1)), (ha0_0_2, .inl (cI, 5, .inl fa0_0_2)), (ha0_0_4, .inl (cI, 12, .inl fa0_0_4)), (ha0_0_5, .inl (cI, 12, .inl fa0_0_5)), (ha0_0_6, .inl (cI, 12, .inl fa0_0_6)), (ha0_0_7, .inl (cI, 12, .inl fa0_0_7)), (ha0_0_11, .inr (9, [.int ia0_0_11_0, .int ia0_0_11_1, .int ia0_0_11_2, .int ia0_0_11_3, .int ia0_0_11_4])), (ha0_0, .inr (7, [.ref ha0_0_0, .ref ha0_0_1, .ref ha0_0_2, .int ia0_0_3, .ref ha0_0_4, .ref ha0_0_5, .ref ha0_0_6, .ref ha0_0_7, .int ia0_0_8, .int ia0_0_9, .int ia0_0_10, .ref ha0_0_11])), (ha0_1_0, .inl (cQ, 5, .inr (.inr (.inr (.inr ga0_1_0))))), (ha0_1_1, .inl (cI, 5, .inl fa0_1_1)), (ha0_1_2, .inl (cI, 5, .inl fa0_1_2)), (ha0_1_4, .inl (cI, 12, .inl fa0_1_4)), (ha0_1_5, .inl (cI, 12, .inl fa0_1_5)), (ha0_1_6, .inl (cI, 12, .inl fa0_1_6)), (ha0_1_7, .inl (cI, 12, .inl fa0_1_7)), (ha0_1_11, .inr (9, [.int ia0_1_11_0, .int ia0_1_11_1, .int ia0_1_11_2, .int ia0_1_11_3, .int ia0_1_11_4])), (ha0_1, .inr (7, [.ref ha0_1_0, .ref ha0_1_1, .ref ha0_1_2, .int ia0_1_3, .ref ha0_1_4, .ref ha0_1_5, .ref ha0_1_6, .ref ha0_1_7, .int ia0_1_8, .int ia0_1_9, .int ia0_1_10, .ref ha0_1_11])), (ha0, .inr (11, [.ref ha0_0, .ref ha0_1, .int ia0_2, .ref ha0_3, .ref ha0_3_0, .ref ha0_5, .ref ha0_6, .int ia0_7, .ref ha0_8]))] sz) (fun u => [(ha0_0_0, .inl (cQ, 5, .inr (.inr (.inr (.inr ga0_0_0))))), (ha0_0_1, .inl (cI, 5, .inl fa0_0_1)), (ha0_0_2, .inl (cI, 5, .inl fa0_0_2)), (ha0_0_4, .inl (cI, 12, .inl fa0_0_4)), (ha0_0_5, .inl (cI, 12, .inl fa0_0_5)), (ha0_0_6, .inl (cI, 12, .inl fa0_0_6)), (ha0_0_7, .inl (cI, 12, .inl fa0_0_7)), (ha0_0_11, .inr (9, [.int ia0_0_11_0, .int ia0_0_11_1, .int ia0_0_11_2, .int ia0_0_11_3, .int ia0_0_11_4])), (ha0_0, .inr (7, [.ref ha0_0_0, .ref ha0_0_1, .ref ha0_0_2, .int ia0_0_3, .ref ha0_0_4, .ref ha0_0_5, .ref ha0_0_6, .ref ha0_0_7, .int ia0_0_8, .int ia0_0_9, .int ia0_0_10, .ref ha0_0_11])), (ha0_1_0, .inl (cQ, 5, .inr (.inr (.inr (.inr (u.2 0)))))), (ha0_1_1, .inl (cI, 5, .inl (u.1.2 0))), (ha0_1_2, .inl (cI, 5, .inl (u.1.2 1))), (ha0_1_4, .inl (cI, 12, .inl (u.1.2 2))), (ha0_1_5, .inl (cI, 12, .inl (u.1.2 3))), (ha0_1_6, .inl (cI, 12, .inl (u.1.2 4))), (ha0_1_7, .inl (cI, 12, .inl (u.1.2 5))), (ha0_1_11, .inr (9, [.int (u.1.1 0), .int (u.1.1 1), .int (u.1.1 2), .int (u.1.1 3), .int (u.1.1 4)])), (ha0_1, .inr (7, [.ref ha0_1_0, .ref ha0_1_1, .ref ha0_1_2, .int (u.1.1 5), .ref ha0_1_4, .ref ha0_1_5, .ref ha0_1_6, .ref ha0_1_7, .int (u.1.1 6), .int (u.1.1 7), .int (u.1.1 8), .ref ha0_1_11])), (ha0, .inr (11, [.ref ha0_0, .ref ha0_1, .int 1, .ref ha0_3, .ref ha0_3_0, .ref ha0_5, .ref ha0_6, .int ia0_7, .ref ha0_8]))]) (fun r u => (∀ i y, (u.2 0) i = some y → PL y) ∧ (∀ k, 0 ≤ ((u.1.2 4) k).toInt ∧ ((u.1.2 4) k).toInt ≤ 4) ∧ (∀ k, (-48) ≤ ((u.1.2 5) k).toInt ∧ ((u.1.2 5) k).toInt ≤ 207) ∧ ((-2147483648) ≤ (u.1.1 0).toInt ∧ (u.1.1 0).toInt ≤ 2147483647) ∧ ((-2147483648) ≤ (u.1.1 1).toInt ∧ (u.1.1 1).toInt ≤ 2147483647) ∧ ((-2147483648) ≤ (u.1.1 2).toInt ∧ (u.1.1 2).toInt ≤ 2147483647) ∧ ((-2147483648) ≤ (u.1.1 3).toInt ∧ (u.1.1 3).toInt ≤ 2147483647) ∧ ((-2147483648) ≤ (u.1.1 4).toInt ∧ (u.1.1 4).toInt ≤ 2147483647) ∧ (0 ≤ (u.1.1 5).toInt ∧ (u.1.1 5).toInt ≤ 5) ∧ ((-2147483648) ≤ (u.1.1 6).toInt ∧ (u.1.1 6).toInt ≤ 2147483647) ∧ (0 ≤ (u.1.1 7).toInt ∧ (u.1.1 7).toInt ≤ 12) ∧ ((-2147483648) ≤ (u.1.1 8).toInt ∧ (u.1.1 8).toInt ≤ 2147483647) ∧ (0 ≤ r.toInt ∧ r.toInt ≤ 12) ∧ (((u.1.1 5) = ia0_0_3 ∧ (u.1.1 7) = ia0_0_9 ∧ zCpy 5 fa0_1_1 fa0_0_1 (u.1.2 0) ∧ zCpy 12 fa0_1_7 fa0_0_7 (u.1.2 5) ∧ r = ia0_0_9 ∧ (u.1.1 8) = ia0_0_10)))) 0 0 (va_A [(ha0_0_0, .inl (cQ, 5, .inr (.inr (.inr (.inr ga0_0_0))))), (ha0_0_1, .inl (cI, 5, .inl fa0_0_1)), (ha0_0_2, .inl (cI, 5, .inl fa0_0_2)), (ha0_0_4, .inl (cI, 12, .inl fa0_0_4)), (ha0_0_5, .inl (cI, 12, .inl fa0_0_5)), (ha0_0_6, .inl (cI, 12, .inl fa0_0_6)), (ha0_0_7, .inl (cI, 12, .inl fa0_0_7)), (ha0_0_11, .inr (9, [.int ia0_0_11_0, .int ia0_0_11_1, .int ia0_0_11_2, .int ia0_0_11_3, .int ia0_0_11_4])), (ha0_0, .inr (7, [.ref ha0_0_0, .ref ha0_0_1, .ref ha0_0_2, .int ia0_0_3, .ref ha0_0_4, .ref ha0_0_5, .ref ha0_0_6, .ref ha0_0_7, .int ia0_0_8, .int ia0_0_9, .int ia0_0_10, .ref ha0_0_11])), (ha0_1_0, .inl (cQ, 5, .inr (.inr (.inr (.inr ga0_1_0))))), (ha0_1_1, .inl (cI, 5, .inl fa0_1_1)), (ha0_1_2, .inl (cI, 5, .inl fa0_1_2)), (ha0_1_4, .inl (cI, 12, .inl fa0_1_4)), (ha0_1_5, .inl (cI, 12, .inl fa0_1_5)), (ha0_1_6, .inl (cI, 12, .inl fa0_1_6)), (ha0_1_7, .inl (cI, 12, .inl fa0_1_7)), (ha0_1_11, .inr (9, [.int ia0_1_11_0, .int ia0_1_11_1, .int ia0_1_11_2, .int ia0_1_11_3, .int ia0_1_11_4])), (ha0_1, .inr (7, [.ref ha0_1_0, .ref ha0_1_1, .ref ha0_1_2, .int ia0_1_3, .ref ha0_1_4, .ref ha0_1_5, .ref ha0_1_6, .ref ha0_1_7, .int ia0_1_8, .int ia0_1_9, .int ia0_1_10, .ref ha0_1_11])), (ha0, .inr (11, [.ref ha0_0, .ref ha0_1, .int ia0_2, .ref ha0_3, .ref ha0_3_0, .ref ha0_5, .ref ha0_6, .int ia0_7, .ref ha0_8]))] sz) := by
  refine Met.ofW (cc := cX11_image) (maxL := 1) (ret := (some .int)) (by decide) rfl ?_
  intro p e s m args below meth c s₁ B hml hv
  obtain ⟨rfl, ⟨hsz, hP, hZ, hD0⟩, hPl0, hPlN⟩ := hv
  obtain ⟨hK, hAO, hN⟩ := id hZ
  have hx := B.exec
  have hb := B.bytes
  have hr := B.returns
  have hts := atoms_spec (ws := vsX11_image) B.pre
  have hown : s.vm.findClass RX11 = some m.cls := findClass_of_methodNamed B.named
  have hlocks := B.notSynchronized
  subst hsz
  have hD := hD0.self (sz := s.heap.size)
  have hPlA := z_plA hPlN
  generalize hAe : va_A [(ha0_0_0, .inl (cQ, 5, .inr (.inr (.inr (.inr ga0_0_0))))), (ha0_0_1, .inl (cI, 5, .inl fa0_0_1)), (ha0_0_2, .inl (cI, 5, .inl fa0_0_2)), (ha0_0_4, .inl (cI, 12, .inl fa0_0_4)), (ha0_0_5, .inl (cI, 12, .inl fa0_0_5)), (ha0_0_6, .inl (cI, 12, .inl fa0_0_6)), (ha0_0_7, .inl (cI, 12, .inl fa0_0_7)), (ha0_0_11, .inr (9, [.int ia0_0_11_0, .int ia0_0_11_1, .int ia0_0_11_2, .int ia0_0_11_3, .int ia0_0_11_4])), (ha0_0, .inr (7, [.ref ha0_0_0, .ref ha0_0_1, .ref ha0_0_2, .int ia0_0_3, .ref ha0_0_4, .ref ha0_0_5, .ref ha0_0_6, .ref ha0_0_7, .int ia0_0_8, .int ia0_0_9, .int ia0_0_10, .ref ha0_0_11])), (ha0_1_0, .inl (cQ, 5, .inr (.inr (.inr (.inr ga0_1_0))))), (ha0_1_1, .inl (cI, 5, .inl fa0_1_1)), (ha0_1_2, .inl (cI, 5, .inl fa0_1_2)), (ha0_1_4, .inl (cI, 12, .inl fa0_1_4)), (ha0_1_5, .inl (cI, 12, .inl fa0_1_5)), (ha0_1_6, .inl (cI, 12, .inl fa0_1_6)), (ha0_1_7, .inl (cI, 12, .inl fa0_1_7)), (ha0_1_11, .inr (9, [.int ia0_1_11_0, .int ia0_1_11_1, .int ia0_1_11_2, .int ia0_1_11_3, .int ia0_1_11_4])), (ha0_1, .inr (7, [.ref ha0_1_0, .ref ha0_1_1, .ref ha0_1_2, .int ia0_1_3, .ref ha0_1_4, .ref ha0_1_5, .ref ha0_1_6, .ref ha0_1_7, .int ia0_1_8, .int ia0_1_9, .int ia0_1_10, .ref ha0_1_11])), (ha0, .inr (11, [.ref ha0_0, .ref ha0_1, .int ia0_2, .ref ha0_3, .ref ha0_3_0, .ref ha0_5, .ref ha0_6, .int ia0_7, .ref ha0_8]))] s.heap.size = A at hD hPlA ⊢
  have hA : ∀ q : Nat, s.heap.size ≤ q → A q := fun q h => by rw [← hAe]; exact Or.inr h
  have hS : va_S A s.heap s.heap [] := va_S.rf
  have hP : va_P (dC, dI) vwCl [(ha0_0_0, .inl (cQ, 5, .inr (.inr (.inr (.inr ga0_0_0))))), (ha0_0_1, .inl (cI, 5, .inl fa0_0_1)), (ha0_0_2, .inl (cI, 5, .inl fa0_0_2)), (ha0_0_4, .inl (cI, 12, .inl fa0_0_4)), (ha0_0_5, .inl (cI, 12, .inl fa0_0_5)), (ha0_0_6, .inl (cI, 12, .inl fa0_0_6)), (ha0_0_7, .inl (cI, 12, .inl fa0_0_7)), (ha0_0_11, .inr (9, [.int ia0_0_11_0, .int ia0_0_11_1, .int ia0_0_11_2, .int ia0_0_11_3, .int ia0_0_11_4])), (ha0_0, .inr (7, [.ref ha0_0_0, .ref ha0_0_1, .ref ha0_0_2, .int ia0_0_3, .ref ha0_0_4, .ref ha0_0_5, .ref ha0_0_6, .ref ha0_0_7, .int ia0_0_8, .int ia0_0_9, .int ia0_0_10, .ref ha0_0_11])), (ha0_1_0, .inl (cQ, 5, .inr (.inr (.inr (.inr ga0_1_0))))), (ha0_1_1, .inl (cI, 5, .inl fa0_1_1)), (ha0_1_2, .inl (cI, 5, .inl fa0_1_2)), (ha0_1_4, .inl (cI, 12, .inl fa0_1_4)), (ha0_1_5, .inl (cI, 12, .inl fa0_1_5)), (ha0_1_6, .inl (cI, 12, .inl fa0_1_6)), (ha0_1_7, .inl (cI, 12, .inl fa0_1_7)), (ha0_1_11, .inr (9, [.int ia0_1_11_0, .int ia0_1_11_1, .int ia0_1_11_2, .int ia0_1_11_3, .int ia0_1_11_4])), (ha0_1, .inr (7, [.ref ha0_1_0, .ref ha0_1_1, .ref ha0_1_2, .int ia0_1_3, .ref ha0_1_4, .ref ha0_1_5, .ref ha0_1_6, .ref ha0_1_7, .int ia0_1_8, .int ia0_1_9, .int ia0_1_10, .ref ha0_1_11])), (ha0, .inr (11, [.ref ha0_0, .ref ha0_1, .int ia0_2, .ref ha0_3, .ref ha0_3_0, .ref ha0_5, .ref ha0_6, .int ia0_7, .ref ha0_8]))] s.heap := hP
  have hl := lv_entry ([.ref ha0]) (n := 1) (Nat.le_of_ble_eq_true rfl)
  rw [lg_entry_eq]
  generalize (lg_sl ([.ref ha0]) ++ List.replicate (1 - (lg_sl ([.ref ha0])).length) Slot.unset).toArray = ls at hl ⊢
  have hl : lv_has ls 1 [(0, .ref ha0)] := hl
  refine lv_aload_n hx hb dX11_image_0 rfl (lv_at hl 0 rfl) ?_
  refine va_get (D := (dC, dI)) (ci := 11) (v := .ref ha0_1) (C := RX11) (T := TX11) (N := 9) hx hb hts in_X11_image_X11 hown hK hP 18 rfl rfl 1 (by decide) (hts (.fieldLink RX11 16 "EachOnHisCue" "imaged" "LEachOnHisCue$Play;") (by decide +kernel)) (fun _ h9 => h9) rfl dX11_image_1 ?_
  refine lv_aload_n hx hb dX11_image_4 rfl (lv_at hl 0 rfl) ?_
  refine va_get (D := (dC, dI)) (ci := 11) (v := .ref ha0_0) (C := RX11) (T := TX11) (N := 9) hx hb hts in_X11_image_X11 hown hK hP 18 rfl rfl 0 (by decide) (hts (.fieldLink RX11 10 "EachOnHisCue" "play" "LEachOnHisCue$Play;") (by decide +kernel)) (fun _ h9 => h9) rfl dX11_image_5 ?_
  refine z_cwvG (wc := [(ha0_1_0, .inl (cQ, 5, .inr (.inr (.inr (.inr ga0_1_0))))), (ha0_1_1, .inl (cI, 5, .inl fa0_1_1)), (ha0_1_2, .inl (cI, 5, .inl fa0_1_2)), (ha0_1_4, .inl (cI, 12, .inl fa0_1_4)), (ha0_1_5, .inl (cI, 12, .inl fa0_1_5)), (ha0_1_6, .inl (cI, 12, .inl fa0_1_6)), (ha0_1_7, .inl (cI, 12, .inl fa0_1_7)), (ha0_1_11, .inr (9, [.int ia0_1_11_0, .int ia0_1_11_1, .int ia0_1_11_2, .int ia0_1_11_3, .int ia0_1_11_4])), (ha0_1, .inr (7, [.ref ha0_1_0, .ref ha0_1_1, .ref ha0_1_2, .int ia0_1_3, .ref ha0_1_4, .ref ha0_1_5, .ref ha0_1_6, .ref ha0_1_7, .int ia0_1_8, .int ia0_1_9, .int ia0_1_10, .ref ha0_1_11])), (ha0_0_0, .inl (cQ, 5, .inr (.inr (.inr (.inr ga0_0_0))))), (ha0_0_1, .inl (cI, 5, .inl fa0_0_1)), (ha0_0_2, .inl (cI, 5, .inl fa0_0_2)), (ha0_0_4, .inl (cI, 12, .inl fa0_0_4)), (ha0_0_5, .inl (cI, 12, .inl fa0_0_5)), (ha0_0_6, .inl (cI, 12, .inl fa0_0_6)), (ha0_0_7, .inl (cI, 12, .inl fa0_0_7)), (ha0_0_11, .inr (9, [.int ia0_0_11_0, .int ia0_0_11_1, .int ia0_0_11_2, .int ia0_0_11_3, .int ia0_0_11_4])), (ha0_0, .inr (7, [.ref ha0_0_0, .ref ha0_0_1, .ref ha0_0_2, .int ia0_0_3, .ref ha0_0_4, .ref ha0_0_5, .ref ha0_0_6, .ref ha0_0_7, .int ia0_0_8, .int ia0_0_9, .int ia0_0_10, .ref ha0_0_11]))]) (wr := [(ha0, .inr (11, [.ref ha0_0, .ref ha0_1, .int ia0_2, .ref ha0_3, .ref ha0_3_0, .ref ha0_5, .ref ha0_6, .int ia0_7, .ref ha0_8]))]) (w1 := fun (u2 : ZU × (Nat → Nat → Option Nat)) => [(ha0_1_0, .inl (cQ, 5, .inr (.inr (.inr (.inr (u2.2 0)))))), (ha0_1_1, .inl (cI, 5, .inl (u2.1.2 0))), (ha0_1_2, .inl (cI, 5, .inl (u2.1.2 1))), (ha0_1_4, .inl (cI, 12, .inl (u2.1.2 2))), (ha0_1_5, .inl (cI, 12, .inl (u2.1.2 3))), (ha0_1_6, .inl (cI, 12, .inl (u2.1.2 4))), (ha0_1_7, .inl (cI, 12, .inl (u2.1.2 5))), (ha0_1_11, .inr (9, [.int (u2.1.1 0), .int (u2.1.1 1), .int (u2.1.1 2), .int (u2.1.1 3), .int (u2.1.1 4)])), (ha0_1, .inr (7, [.ref ha0_1_0, .ref ha0_1_1, .ref ha0_1_2, .int (u2.1.1 5), .ref ha0_1_4, .ref ha0_1_5, .ref ha0_1_6, .ref ha0_1_7, .int (u2.1.1 6), .int (u2.1.1 7), .int (u2.1.1 8), .ref ha0_1_11])), (ha0_0_0, .inl (cQ, 5, .inr (.inr (.inr (.inr ga0_0_0))))), (ha0_0_1, .inl (cI, 5, .inl fa0_0_1)), (ha0_0_2, .inl (cI, 5, .inl fa0_0_2)), (ha0_0_4, .inl (cI, 12, .inl fa0_0_4)), (ha0_0_5, .inl (cI, 12, .inl fa0_0_5)), (ha0_0_6, .inl (cI, 12, .inl fa0_0_6)), (ha0_0_7, .inl (cI, 12, .inl fa0_0_7)), (ha0_0_11, .inr (9, [.int ia0_0_11_0, .int ia0_0_11_1, .int ia0_0_11_2, .int ia0_0_11_3, .int ia0_0_11_4])), (ha0_0, .inr (7, [.ref ha0_0_0, .ref ha0_0_1, .ref ha0_0_2, .int ia0_0_3, .ref ha0_0_4, .ref ha0_0_5, .ref ha0_0_6, .ref ha0_0_7, .int ia0_0_8, .int ia0_0_9, .int ia0_0_10, .ref ha0_0_11]))]) (va_runV (As := [.ref ha0_0]) (rest := []) ⟨hx, hb, hml, hown, hts⟩ (wX7_take l dC dI cI cQ ha0_1 ha0_0 ha0_1_0 ha0_1_1 ha0_1_2 ha0_1_4 ha0_1_5 ha0_1_6 ha0_1_7 ha0_1_11 ha0_0_0 ha0_0_1 ha0_0_2 ha0_0_4 ha0_0_5 ha0_0_6 ha0_0_7 ha0_0_11 PL ga0_1_0 hPLga0_1_0 fa0_1_1 fa0_1_2 fa0_1_4 fa0_1_5 fa0_1_6 hBfa0_1_6 fa0_1_7 hBfa0_1_7 ia0_1_11_0 ia0_1_11_1 ia0_1_11_2 ia0_1_11_3 ia0_1_11_4 ia0_1_3 hia0_1_3l hia0_1_3h ia0_1_8 ia0_1_9 hia0_1_9l hia0_1_9h ia0_1_10 ga0_0_0 hPLga0_0_0 fa0_0_1 fa0_0_2 fa0_0_4 fa0_0_5 fa0_0_6 hBfa0_0_6 fa0_0_7 hBfa0_0_7 ia0_0_11_0 ia0_0_11_1 ia0_0_11_2 ia0_0_11_3 ia0_0_11_4 ia0_0_3 hia0_0_3l hia0_0_3h ia0_0_8 ia0_0_9 hia0_0_9l hia0_0_9h ia0_0_10 s.heap.size) (cwV 1 hts gv_X11_image_X7_take_238 rfl rfl rfl (by decide +kernel) ⟨Nat.le_of_ble_eq_true rfl, Nat.le_of_ble_eq_true rfl⟩) ⟨z_blindBP, va_recv hK hP (ci := 7) (q0 := 17) rfl rfl, z_preBP hZ hP hD hPl0 hPlA hS [9, 10, 11, 12, 13, 14, 15, 16, 17, 0, 1, 2, 3, 4, 5, 6, 7, 8] rfl (by decide +kernel)⟩ rfl rfl hl.1 rfl (lv_room (Nat.le_of_ble_eq_true rfl)) dX11_image_8 ⟨Nat.le_of_ble_eq_true rfl, Nat.le_of_ble_eq_true rfl⟩) hP hD hS hA [9, 10, 11, 12, 13, 14, 15, 16, 17, 0, 1, 2, 3, 4, 5, 6, 7, 8] [18] rfl rfl (by decide +kernel) (by decide +kernel) (fun u2 H locs hpo hP hD hS => ?_)
  generalize hgg3 : u2.2 0 = g3 at hP hD hpo
  generalize hgf4 : u2.1.2 0 = f4 at hP hD hpo
  generalize hgf5 : u2.1.2 1 = f5 at hP hD hpo
  generalize hgf6 : u2.1.2 2 = f6 at hP hD hpo
  generalize hgf7 : u2.1.2 3 = f7 at hP hD hpo
  generalize hgf8 : u2.1.2 4 = f8 at hP hD hpo
  generalize hgf9 : u2.1.2 5 = f9 at hP hD hpo
  generalize hgw10 : u2.1.1 0 = w10 at hP hD hpo
  generalize hgw11 : u2.1.1 1 = w11 at hP hD hpo
  generalize hgw12 : u2.1.1 2 = w12 at hP hD hpo
  generalize hgw13 : u2.1.1 3 = w13 at hP hD hpo
  generalize hgw14 : u2.1.1 4 = w14 at hP hD hpo
  generalize hgw15 : u2.1.1 5 = w15 at hP hD hpo
  generalize hgw16 : u2.1.1 6 = w16 at hP hD hpo
  generalize hgw17 : u2.1.1 7 = w17 at hP hD hpo
  generalize hgw18 : u2.1.1 8 = w18 at hP hD hpo
  have hP : va_P (dC, dI) vwCl [(ha0, .inr (11, [.ref ha0_0, .ref ha0_1, .int ia0_2, .ref ha0_3, .ref ha0_3_0, .ref ha0_5, .ref ha0_6, .int ia0_7, .ref ha0_8])), (ha0_1_0, .inl (cQ, 5, .inr (.inr (.inr (.inr g3))))), (ha0_1_1, .inl (cI, 5, .inl f4)), (ha0_1_2, .inl (cI, 5, .inl f5)), (ha0_1_4, .inl (cI, 12, .inl f6)), (ha0_1_5, .inl (cI, 12, .inl f7)), (ha0_1_6, .inl (cI, 12, .inl f8)), (ha0_1_7, .inl (cI, 12, .inl f9)), (ha0_1_11, .inr (9, [.int w10, .int w11, .int w12, .int w13, .int w14])), (ha0_1, .inr (7, [.ref ha0_1_0, .ref ha0_1_1, .ref ha0_1_2, .int w15, .ref ha0_1_4, .ref ha0_1_5, .ref ha0_1_6, .ref ha0_1_7, .int w16, .int w17, .int w18, .ref ha0_1_11])), (ha0_0_0, .inl (cQ, 5, .inr (.inr (.inr (.inr ga0_0_0))))), (ha0_0_1, .inl (cI, 5, .inl fa0_0_1)), (ha0_0_2, .inl (cI, 5, .inl fa0_0_2)), (ha0_0_4, .inl (cI, 12, .inl fa0_0_4)), (ha0_0_5, .inl (cI, 12, .inl fa0_0_5)), (ha0_0_6, .inl (cI, 12, .inl fa0_0_6)), (ha0_0_7, .inl (cI, 12, .inl fa0_0_7)), (ha0_0_11, .inr (9, [.int ia0_0_11_0, .int ia0_0_11_1, .int ia0_0_11_2, .int ia0_0_11_3, .int ia0_0_11_4])), (ha0_0, .inr (7, [.ref ha0_0_0, .ref ha0_0_1, .ref ha0_0_2, .int ia0_0_3, .ref ha0_0_4, .ref ha0_0_5, .ref ha0_0_6, .ref ha0_0_7, .int ia0_0_8, .int ia0_0_9, .int ia0_0_10, .ref ha0_0_11]))] H := hP
  have hD : va_D A [(ha0, .inr (11, [.ref ha0_0, .ref ha0_1, .int ia0_2, .ref ha0_3, .ref ha0_3_0, .ref ha0_5, .ref ha0_6, .int ia0_7, .ref ha0_8])), (ha0_1_0, .inl (cQ, 5, .inr (.inr (.inr (.inr g3))))), (ha0_1_1, .inl (cI, 5, .inl f4)), (ha0_1_2, .inl (cI, 5, .inl f5)), (ha0_1_4, .inl (cI, 12, .inl f6)), (ha0_1_5, .inl (cI, 12, .inl f7)), (ha0_1_6, .inl (cI, 12, .inl f8)), (ha0_1_7, .inl (cI, 12, .inl f9)), (ha0_1_11, .inr (9, [.int w10, .int w11, .int w12, .int w13, .int w14])), (ha0_1, .inr (7, [.ref ha0_1_0, .ref ha0_1_1, .ref ha0_1_2, .int w15, .ref ha0_1_4, .ref ha0_1_5, .ref ha0_1_6, .ref ha0_1_7, .int w16, .int w17, .int w18, .ref ha0_1_11])), (ha0_0_0, .inl (cQ, 5, .inr (.inr (.inr (.inr ga0_0_0))))), (ha0_0_1, .inl (cI, 5, .inl fa0_0_1)), (ha0_0_2, .inl (cI, 5, .inl fa0_0_2)), (ha0_0_4, .inl (cI, 12, .inl fa0_0_4)), (ha0_0_5, .inl (cI, 12, .inl fa0_0_5)), (ha0_0_6, .inl (cI, 12, .inl fa0_0_6)), (ha0_0_7, .inl (cI, 12, .inl fa0_0_7)), (ha0_0_11, .inr (9, [.int ia0_0_11_0, .int ia0_0_11_1, .int ia0_0_11_2, .int ia0_0_11_3, .int ia0_0_11_4])), (ha0_0, .inr (7, [.ref ha0_0_0, .ref ha0_0_1, .ref ha0_0_2, .int ia0_0_3, .ref ha0_0_4, .ref ha0_0_5, .ref ha0_0_6, .ref ha0_0_7, .int ia0_0_8, .int ia0_0_9, .int ia0_0_10, .ref ha0_0_11]))] := hD
  obtain ⟨hPLg3, hBf8, hBf9, hw10p, hw11p, hw12p, hw13p, hw14p, hw15p, hw16p, hw17p, hw18p, hy1po⟩ := hpo
  obtain ⟨hw10l, hw10h⟩ := hw10p
  obtain ⟨hw11l, hw11h⟩ := hw11p
  obtain ⟨hw12l, hw12h⟩ := hw12p
  obtain ⟨hw13l, hw13h⟩ := hw13p
  obtain ⟨hw14l, hw14h⟩ := hw14p
  obtain ⟨hw15l, hw15h⟩ := hw15p
  obtain ⟨hw16l, hw16h⟩ := hw16p
  obtain ⟨hw17l, hw17h⟩ := hw17p
  obtain ⟨hw18l, hw18h⟩ := hw18p
  refine lv_aload_n hx hb dX11_image_11 rfl (lv_at hl 0 rfl) ?_
  refine lv_iconst (v := 1) hx hb dX11_image_12 (by decide) ?_
  refine va_put (D := (dC, dI)) (ci := 11) (v := .int 1) (ty := .boolean) (C := RX11) (T := TX11) (N := 9) hx hb hts in_X11_image_X11 tyX11 tyX11_ok nmX11 hown hK hP hD hS 0 rfl rfl 2 (by decide) (hts (.fieldLink RX11 19 "EachOnHisCue" "hasImage" "Z") (by decide +kernel)) (fun _ h9 => h9) rfl (by decide +kernel) rfl rfl (Nat.le_of_ble_eq_true rfl) dX11_image_13 (fun H locs hP hD hS => ?_)
  have hP : va_P (dC, dI) vwCl [(ha0, .inr (11, [.ref ha0_0, .ref ha0_1, .int 1, .ref ha0_3, .ref ha0_3_0, .ref ha0_5, .ref ha0_6, .int ia0_7, .ref ha0_8])), (ha0_1_0, .inl (cQ, 5, .inr (.inr (.inr (.inr g3))))), (ha0_1_1, .inl (cI, 5, .inl f4)), (ha0_1_2, .inl (cI, 5, .inl f5)), (ha0_1_4, .inl (cI, 12, .inl f6)), (ha0_1_5, .inl (cI, 12, .inl f7)), (ha0_1_6, .inl (cI, 12, .inl f8)), (ha0_1_7, .inl (cI, 12, .inl f9)), (ha0_1_11, .inr (9, [.int w10, .int w11, .int w12, .int w13, .int w14])), (ha0_1, .inr (7, [.ref ha0_1_0, .ref ha0_1_1, .ref ha0_1_2, .int w15, .ref ha0_1_4, .ref ha0_1_5, .ref ha0_1_6, .ref ha0_1_7, .int w16, .int w17, .int w18, .ref ha0_1_11])), (ha0_0_0, .inl (cQ, 5, .inr (.inr (.inr (.inr ga0_0_0))))), (ha0_0_1, .inl (cI, 5, .inl fa0_0_1)), (ha0_0_2, .inl (cI, 5, .inl fa0_0_2)), (ha0_0_4, .inl (cI, 12, .inl fa0_0_4)), (ha0_0_5, .inl (cI, 12, .inl fa0_0_5)), (ha0_0_6, .inl (cI, 12, .inl fa0_0_6)), (ha0_0_7, .inl (cI, 12, .inl fa0_0_7)), (ha0_0_11, .inr (9, [.int ia0_0_11_0, .int ia0_0_11_1, .int ia0_0_11_2, .int ia0_0_11_3, .int ia0_0_11_4])), (ha0_0, .inr (7, [.ref ha0_0_0, .ref ha0_0_1, .ref ha0_0_2, .int ia0_0_3, .ref ha0_0_4, .ref ha0_0_5, .ref ha0_0_6, .ref ha0_0_7, .int ia0_0_8, .int ia0_0_9, .int ia0_0_10, .ref ha0_0_11]))] H := hP
  have hD : va_D A [(ha0, .inr (11, [.ref ha0_0, .ref ha0_1, .int 1, .ref ha0_3, .ref ha0_3_0, .ref ha0_5, .ref ha0_6, .int ia0_7, .ref ha0_8])), (ha0_1_0, .inl (cQ, 5, .inr (.inr (.inr (.inr g3))))), (ha0_1_1, .inl (cI, 5, .inl f4)), (ha0_1_2, .inl (cI, 5, .inl f5)), (ha0_1_4, .inl (cI, 12, .inl f6)), (ha0_1_5, .inl (cI, 12, .inl f7)), (ha0_1_6, .inl (cI, 12, .inl f8)), (ha0_1_7, .inl (cI, 12, .inl f9)), (ha0_1_11, .inr (9, [.int w10, .int w11, .int w12, .int w13, .int w14])), (ha0_1, .inr (7, [.ref ha0_1_0, .ref ha0_1_1, .ref ha0_1_2, .int w15, .ref ha0_1_4, .ref ha0_1_5, .ref ha0_1_6, .ref ha0_1_7, .int w16, .int w17, .int w18, .ref ha0_1_11])), (ha0_0_0, .inl (cQ, 5, .inr (.inr (.inr (.inr ga0_0_0))))), (ha0_0_1, .inl (cI, 5, .inl fa0_0_1)), (ha0_0_2, .inl (cI, 5, .inl fa0_0_2)), (ha0_0_4, .inl (cI, 12, .inl fa0_0_4)), (ha0_0_5, .inl (cI, 12, .inl fa0_0_5)), (ha0_0_6, .inl (cI, 12, .inl fa0_0_6)), (ha0_0_7, .inl (cI, 12, .inl fa0_0_7)), (ha0_0_11, .inr (9, [.int ia0_0_11_0, .int ia0_0_11_1, .int ia0_0_11_2, .int ia0_0_11_3, .int ia0_0_11_4])), (ha0_0, .inr (7, [.ref ha0_0_0, .ref ha0_0_1, .ref ha0_0_2, .int ia0_0_3, .ref ha0_0_4, .ref ha0_0_5, .ref ha0_0_6, .ref ha0_0_7, .int ia0_0_8, .int ia0_0_9, .int ia0_0_10, .ref ha0_0_11]))] := hD
  refine lv_aload_n hx hb dX11_image_16 rfl (lv_at hl 0 rfl) ?_
  refine va_get (D := (dC, dI)) (ci := 11) (v := .ref ha0_0) (C := RX11) (T := TX11) (N := 9) hx hb hts in_X11_image_X11 hown hK hP 0 rfl rfl 0 (by decide) (hts (.fieldLink RX11 10 "EachOnHisCue" "play" "LEachOnHisCue$Play;") (by decide +kernel)) (fun _ h9 => h9) rfl dX11_image_17 ?_
  refine va_get (D := (dC, dI)) (ci := 7) (v := .int ia0_0_9) (C := RX7) (T := TX7) (N := 12) hx hb hts in_X11_image_X7 hown hK hP 18 rfl rfl 9 (by decide) (hts (.fieldLink RX11 137 "EachOnHisCue$Play" "lines" "I") (by decide +kernel)) (fun _ h9 => h9) rfl dX11_image_20 ?_
  have hP9 := hP.sub (ws' := [(ha0_0_0, .inl (cQ, 5, .inr (.inr (.inr (.inr ga0_0_0))))), (ha0_0_1, .inl (cI, 5, .inl fa0_0_1)), (ha0_0_2, .inl (cI, 5, .inl fa0_0_2)), (ha0_0_4, .inl (cI, 12, .inl fa0_0_4)), (ha0_0_5, .inl (cI, 12, .inl fa0_0_5)), (ha0_0_6, .inl (cI, 12, .inl fa0_0_6)), (ha0_0_7, .inl (cI, 12, .inl fa0_0_7)), (ha0_0_11, .inr (9, [.int ia0_0_11_0, .int ia0_0_11_1, .int ia0_0_11_2, .int ia0_0_11_3, .int ia0_0_11_4])), (ha0_0, .inr (7, [.ref ha0_0_0, .ref ha0_0_1, .ref ha0_0_2, .int ia0_0_3, .ref ha0_0_4, .ref ha0_0_5, .ref ha0_0_6, .ref ha0_0_7, .int ia0_0_8, .int ia0_0_9, .int ia0_0_10, .ref ha0_0_11])), (ha0_1_0, .inl (cQ, 5, .inr (.inr (.inr (.inr g3))))), (ha0_1_1, .inl (cI, 5, .inl f4)), (ha0_1_2, .inl (cI, 5, .inl f5)), (ha0_1_4, .inl (cI, 12, .inl f6)), (ha0_1_5, .inl (cI, 12, .inl f7)), (ha0_1_6, .inl (cI, 12, .inl f8)), (ha0_1_7, .inl (cI, 12, .inl f9)), (ha0_1_11, .inr (9, [.int w10, .int w11, .int w12, .int w13, .int w14])), (ha0_1, .inr (7, [.ref ha0_1_0, .ref ha0_1_1, .ref ha0_1_2, .int w15, .ref ha0_1_4, .ref ha0_1_5, .ref ha0_1_6, .ref ha0_1_7, .int w16, .int w17, .int w18, .ref ha0_1_11])), (ha0, .inr (11, [.ref ha0_0, .ref ha0_1, .int 1, .ref ha0_3, .ref ha0_3_0, .ref ha0_5, .ref ha0_6, .int ia0_7, .ref ha0_8]))]) [10, 11, 12, 13, 14, 15, 16, 17, 18, 1, 2, 3, 4, 5, 6, 7, 8, 9, 0] rfl
  have hD9 := hD.sub (ws' := [(ha0_0_0, .inl (cQ, 5, .inr (.inr (.inr (.inr ga0_0_0))))), (ha0_0_1, .inl (cI, 5, .inl fa0_0_1)), (ha0_0_2, .inl (cI, 5, .inl fa0_0_2)), (ha0_0_4, .inl (cI, 12, .inl fa0_0_4)), (ha0_0_5, .inl (cI, 12, .inl fa0_0_5)), (ha0_0_6, .inl (cI, 12, .inl fa0_0_6)), (ha0_0_7, .inl (cI, 12, .inl fa0_0_7)), (ha0_0_11, .inr (9, [.int ia0_0_11_0, .int ia0_0_11_1, .int ia0_0_11_2, .int ia0_0_11_3, .int ia0_0_11_4])), (ha0_0, .inr (7, [.ref ha0_0_0, .ref ha0_0_1, .ref ha0_0_2, .int ia0_0_3, .ref ha0_0_4, .ref ha0_0_5, .ref ha0_0_6, .ref ha0_0_7, .int ia0_0_8, .int ia0_0_9, .int ia0_0_10, .ref ha0_0_11])), (ha0_1_0, .inl (cQ, 5, .inr (.inr (.inr (.inr g3))))), (ha0_1_1, .inl (cI, 5, .inl f4)), (ha0_1_2, .inl (cI, 5, .inl f5)), (ha0_1_4, .inl (cI, 12, .inl f6)), (ha0_1_5, .inl (cI, 12, .inl f7)), (ha0_1_6, .inl (cI, 12, .inl f8)), (ha0_1_7, .inl (cI, 12, .inl f9)), (ha0_1_11, .inr (9, [.int w10, .int w11, .int w12, .int w13, .int w14])), (ha0_1, .inr (7, [.ref ha0_1_0, .ref ha0_1_1, .ref ha0_1_2, .int w15, .ref ha0_1_4, .ref ha0_1_5, .ref ha0_1_6, .ref ha0_1_7, .int w16, .int w17, .int w18, .ref ha0_1_11])), (ha0, .inr (11, [.ref ha0_0, .ref ha0_1, .int 1, .ref ha0_3, .ref ha0_3_0, .ref ha0_5, .ref ha0_6, .int ia0_7, .ref ha0_8]))]) [10, 11, 12, 13, 14, 15, 16, 17, 18, 1, 2, 3, 4, 5, 6, 7, 8, 9, 0] (by decide) rfl
  have hpo : ((w15 : Int32) = ia0_0_3 ∧ (w17 : Int32) = ia0_0_9 ∧ zCpy 5 fa0_1_1 fa0_0_1 f4 ∧ zCpy 12 fa0_1_7 fa0_0_7 f9 ∧ (ia0_0_9 : Int32) = ia0_0_9 ∧ (w18 : Int32) = ia0_0_10) := by obtain ⟨q1, q2, q3, q4, q5⟩ := hy1po; exact ⟨q1, q2, q3, q4, rfl, q5⟩
  exact W.iret (v := ia0_0_9) hx hb hr (fun t ht hW => ⟨⟨ia0_0_9, ((fun k => [w10, w11, w12, w13, w14, w15, w16, w17, w18].getD k 0, fun k => [f4, f5, f6, f7, f8, f9].getD k (fun _ => 0)), fun k => [g3].getD k (fun _ => none)), rfl, (show (∀ i y, g3 i = some y → PL y) ∧ (∀ k, 0 ≤ (f8 k).toInt ∧ (f8 k).toInt ≤ 4) ∧ (∀ k, (-48) ≤ (f9 k).toInt ∧ (f9 k).toInt ≤ 207) ∧ ((-2147483648) ≤ (w10 : Int32).toInt ∧ (w10 : Int32).toInt ≤ 2147483647) ∧ ((-2147483648) ≤ (w11 : Int32).toInt ∧ (w11 : Int32).toInt ≤ 2147483647) ∧ ((-2147483648) ≤ (w12 : Int32).toInt ∧ (w12 : Int32).toInt ≤ 2147483647) ∧ ((-2147483648) ≤ (w13 : Int32).toInt ∧ (w13 : Int32).toInt ≤ 2147483647) ∧ ((-2147483648) ≤ (w14 : Int32).toInt ∧ (w14 : Int32).toInt ≤ 2147483647) ∧ (0 ≤ (w15 : Int32).toInt ∧ (w15 : Int32).toInt ≤ 5) ∧ ((-2147483648) ≤ (w16 : Int32).toInt ∧ (w16 : Int32).toInt ≤ 2147483647) ∧ (0 ≤ (w17 : Int32).toInt ∧ (w17 : Int32).toInt ≤ 12) ∧ ((-2147483648) ≤ (w18 : Int32).toInt ∧ (w18 : Int32).toInt ≤ 2147483647) ∧ (0 ≤ (ia0_0_9 : Int32).toInt ∧ (ia0_0_9 : Int32).toInt ≤ 12) ∧ (((w15 : Int32) = ia0_0_3 ∧ (w17 : Int32) = ia0_0_9 ∧ zCpy 5 fa0_1_1 fa0_0_1 f4 ∧ zCpy 12 fa0_1_7 fa0_0_7 f9 ∧ (ia0_0_9 : Int32) = ia0_0_9 ∧ (w18 : Int32) = ia0_0_10)) from ⟨hPLg3, hBf8, hBf9, ⟨hw10l, hw10h⟩, ⟨hw11l, hw11h⟩, ⟨hw12l, hw12h⟩, ⟨hw13l, hw13h⟩, ⟨hw14l, hw14h⟩, ⟨hw15l, hw15h⟩, ⟨hw16l, hw16h⟩, ⟨hw17l, hw17h⟩, ⟨hw18l, hw18h⟩, ⟨by first | omega | decide | exact z_lo _, by first | omega | decide | exact z_hi _⟩, hpo⟩), by rw [ht]; exact hP9, hD9⟩, hS.F ht⟩) hS.2.2 dX11_image_23
theorem dX11_restore_0 : decode cX11_restore 0 = .ok (.aload_n 0, 1) := by decide +kernel
theorem dX11_restore_1 : decode cX11_restore 1 = .ok (.getfield 19, 3) := by decide +kernel
theorem dX11_restore_4 : decode cX11_restore 4 = .ok (.ifCond .ne 10, 3) := by decide +kernel
theorem dX11_restore_7 : decode cX11_restore 7 = .ok (.aload_n 0, 1) := by decide +kernel
theorem dX11_restore_8 : decode cX11_restore 8 = .ok (.bipush (-3), 2) := by decide +kernel
theorem dX11_restore_10 : decode cX11_restore 10 = .ok (.invokevirtual 53, 3) := by decide +kernel
theorem dX11_restore_13 : decode cX11_restore 13 = .ok (.ireturn, 1) := by decide +kernel
theorem dX11_restore_14 : decode cX11_restore 14 = .ok (.aload_n 0, 1) := by decide +kernel
theorem dX11_restore_15 : decode cX11_restore 15 = .ok (.getfield 10, 3) := by decide +kernel
theorem dX11_restore_18 : decode cX11_restore 18 = .ok (.aload_n 0, 1) := by decide +kernel
theorem dX11_restore_19 : decode cX11_restore 19 = .ok (.getfield 16, 3) := by decide +kernel
theorem dX11_restore_22 : decode cX11_restore 22 = .ok (.invokevirtual 238, 3) := by decide +kernel
theorem dX11_restore_25 : decode cX11_restore 25 = .ok (.aload_n 0, 1) := by decide +kernel
theorem dX11_restore_26 : decode cX11_restore 26 = .ok (.getfield 10, 3) := by decide +kernel
theorem dX11_restore_29 : decode cX11_restore 29 = .ok (.getfield 137, 3) := by decide +kernel
theorem dX11_restore_32 : decode cX11_restore 32 = .ok (.ireturn, 1) := by decide +kernel
noncomputable def voX11_restore : List Cond := [.fieldLink RX11 19 "EachOnHisCue" "hasImage" "Z", .fieldLink RX11 10 "EachOnHisCue" "play" "LEachOnHisCue$Play;", .fieldLink RX11 16 "EachOnHisCue" "imaged" "LEachOnHisCue$Play;", .fieldLink RX11 137 "EachOnHisCue$Play" "lines" "I", .methodLink RX11 238 yX7_take, .instanceMethod yX7_take, .selects RX7 yX7_take yX7_take, .initialized RX7, .methodLink RX11 53 yX11_refuse, .instanceMethod yX11_refuse, .selects RX11 yX11_refuse yX11_refuse, .initialized RX11]
noncomputable def vsX11_restore : List Cond := .code yX11_restore cX11_restore 1 (some .int) :: (voX11_restore ++ (vsX7_take ++ (vsX11_refuse ++ (wsX70 ++ (wsX110)))))
theorem zgX11_restore : zGd vsX11_restore := z_gdC rfl (z_gdA (z_gdO (by decide +kernel) : zGd voX11_restore) (z_gdA zgX7_take (z_gdA zgX11_refuse (z_gdA zgX7 (zgX11)))))
theorem in_X11_restore_X7 : ∀ w ∈ wsX70, w ∈ vsX11_restore := fun _ h => List.mem_cons_of_mem _ (List.mem_append_right _ (List.mem_append_right _ (List.mem_append_right _ (List.mem_append_left _ h))))
theorem in_X11_restore_X11 : ∀ w ∈ wsX110, w ∈ vsX11_restore := fun _ h => List.mem_cons_of_mem _ (List.mem_append_right _ (List.mem_append_right _ (List.mem_append_right _ (List.mem_append_right _ (h)))))
theorem gw_X11_restore_X7_take : GoodIn vsX11_restore vsX7_take := z_gdI (fun _ h => List.mem_cons_of_mem _ (List.mem_append_right _ (List.mem_append_left _ h))) zgX7_take
set_option maxRecDepth 20000 in
theorem gv_X11_restore_X7_take_238 : GoodIn vsX11_restore (wsV RX11 238 RX7 yX7_take vsX7_take) := goodIn_app (goodIn_of _ (by decide +kernel)) gw_X11_restore_X7_take
theorem gw_X11_restore_X11_refuse : GoodIn vsX11_restore vsX11_refuse := z_gdI (fun _ h => List.mem_cons_of_mem _ (List.mem_append_right _ (List.mem_append_right _ (List.mem_append_left _ h)))) zgX11_refuse
set_option maxRecDepth 20000 in
theorem gv_X11_restore_X11_refuse_53 : GoodIn vsX11_restore (wsV RX11 53 RX11 yX11_refuse vsX11_refuse) := goodIn_app (goodIn_of _ (by decide +kernel)) gw_X11_restore_X11_refuse
set_option maxHeartbeats 4000000 in
set_option maxRecDepth 100000 in
theorem wX11_restore (l : Launch) (dC : Nat → ClassId) (dI : Nat → Nat → Nat) (cI cQ : ClassId) (ha0 ha0_0_0 ha0_0_1 ha0_0_2 ha0_0_4 ha0_0_5 ha0_0_6 ha0_0_7 ha0_0_11 ha0_0 ha0_1_0 ha0_1_1 ha0_1_2 ha0_1_4 ha0_1_5 ha0_1_6 ha0_1_7 ha0_1_11 ha0_1 ha0_8 ha0_3 ha0_3_0 ha0_5 ha0_6 : Nat) (PL : Nat → Prop) (ga0_0_0 : Nat → Option Nat) (hPLga0_0_0 : ∀ i y, ga0_0_0 i = some y → PL y) (fa0_0_1 : Nat → Int32) (fa0_0_2 : Nat → Int32) (fa0_0_4 : Nat → Int32) (fa0_0_5 : Nat → Int32) (fa0_0_6 : Nat → Int32) (hBfa0_0_6 : ∀ k, 0 ≤ (fa0_0_6 k).toInt ∧ (fa0_0_6 k).toInt ≤ 4) (fa0_0_7 : Nat → Int32) (hBfa0_0_7 : ∀ k, (-48) ≤ (fa0_0_7 k).toInt ∧ (fa0_0_7 k).toInt ≤ 207) (ia0_0_11_0 : Int32) (ia0_0_11_1 : Int32) (ia0_0_11_2 : Int32) (ia0_0_11_3 : Int32) (ia0_0_11_4 : Int32) (ia0_0_3 : Int32) (hia0_0_3l : 0 ≤ ia0_0_3.toInt) (hia0_0_3h : ia0_0_3.toInt ≤ 5) (ia0_0_8 : Int32) (ia0_0_9 : Int32) (hia0_0_9l : 0 ≤ ia0_0_9.toInt) (hia0_0_9h : ia0_0_9.toInt ≤ 12) (ia0_0_10 : Int32) (ga0_1_0 : Nat → Option Nat) (hPLga0_1_0 : ∀ i y, ga0_1_0 i = some y → PL y) (fa0_1_1 : Nat → Int32) (fa0_1_2 : Nat → Int32) (fa0_1_4 : Nat → Int32) (fa0_1_5 : Nat → Int32) (fa0_1_6 : Nat → Int32) (hBfa0_1_6 : ∀ k, 0 ≤ (fa0_1_6 k).toInt ∧ (fa0_1_6 k).toInt ≤ 4) (fa0_1_7 : Nat → Int32) (hBfa0_1_7 : ∀ k, (-48) ≤ (fa0_1_7 k).toInt ∧ (fa0_1_7 k).toInt ≤ 207) (ia0_1_11_0 : Int32) (ia0_1_11_1 : Int32) (ia0_1_11_2 : Int32) (ia0_1_11_3 : Int32) (ia0_1_11_4 : Int32) (ia0_1_3 : Int32) (hia0_1_3l : 0 ≤ ia0_1_3.toInt) (hia0_1_3h : ia0_1_3.toInt ≤ 5) (ia0_1_8 : Int32) (ia0_1_9 : Int32) (hia0_1_9l : 0 ≤ ia0_1_9.toInt) (hia0_1_9h : ia0_1_9.toInt ≤ 12) (ia0_1_10 : Int32) (fa0_8 : Nat → Int32) (ia0_2 : Int32) (hia0_2l : 0 ≤ ia0_2.toInt) (hia0_2h : ia0_2.toInt ≤ 1) (ia0_7 : Int32) (hia0_7l : 0 ≤ ia0_7.toInt) (hia0_7h : ia0_7.toInt ≤ 12) (sz : Nat) : Met l yX11_restore vsX11_restore ({ frames := 2, cells := 0, slots := 0, locals := 43 }) (va_Pc [.ref ha0] (zBP dC dI cI cQ PL [(ha0_0_0, .inl (cQ, 5, .inr (.inr (.inr (.inr ga0_0_0))))), (ha0_0_1, .inl (cI, 5, .inl fa0_0_1)), (ha0_0_2, .inl (cI, 5, .inl fa0_0_2)), (ha0_0_4, .inl (cI, 12, .inl fa0_0_4)), (ha0_0_5, .inl (cI, 12, .inl fa0_0_5)), (ha0_0_6, .inl (cI, 12, .inl fa0_0_6)), (ha0_0_7, .inl (cI, 12, .inl fa0_0_7)), (ha0_0_11, .inr (9, [.int ia0_0_11_0, .int ia0_0_11_1, .int ia0_0_11_2, .int ia0_0_11_3, .int ia0_0_11_4])), (ha0_0, .inr (7, [.ref ha0_0_0, .ref ha0_0_1, .ref ha0_0_2, .int ia0_0_3, .ref ha0_0_4, .ref ha0_0_5, .ref ha0_0_6, .ref ha0_0_7, .int ia0_0_8, .int ia0_0_9, .int ia0_0_10, .ref ha0_0_11])), (ha0_1_0, .inl (cQ, 5, .inr (.inr (.inr (.inr ga0_1_0))))), (ha0_1_1, .inl (cI, 5, .inl fa0_1_1)), (ha0_1_2, .inl (cI, 5, .inl fa0_1_2)), (ha0_1_4, .inl (cI, 12, .inl fa0_1_4)), (ha0_1_5, .inl (cI, 12, .inl fa0_1_5)), (ha0_1_6, .inl (cI, 12, .inl fa0_1_6)), (ha0_1_7, .inl (cI, 12, .inl fa0_1_7)), (ha0_1_11, .inr (9, [.int ia0_1_11_0, .int ia0_1_11_1, .int ia0_1_11_2, .int ia0_1_11_3, .int ia0_1_11_4])), (ha0_1, .inr (7, [.ref ha0_1_0, .ref ha0_1_1, .ref ha0_1_2, .int ia0_1_3, .ref ha0_1_4, .ref ha0_1_5, .ref ha0_1_6, .ref ha0_1_7, .int ia0_1_8, .int ia0_1_9, .int ia0_1_10, .ref ha0_1_11])), (ha0_8, .inl (cI, 7, .inl fa0_8)), (ha0, .inr (11, [.ref ha0_0, .ref ha0_1, .int ia0_2, .ref ha0_3, .ref ha0_3_0, .ref ha0_5, .ref ha0_6, .int ia0_7, .ref ha0_8]))] sz)) (zWiG (S := ZU × (Nat → Nat → Option Nat)) dC dI (va_A [(ha0_0_0, .inl (cQ, 5, .inr (.inr (.inr (.inr ga0_0_0))))), (ha0_0_1, .inl (cI, 5, .inl fa0_0_1)), (ha0_0_2, .inl (cI, 5, .inl fa0_0_2)), (ha0_0_4, .inl (cI, 12, .inl fa0_0_4)), (ha0_0_5, .inl (cI, 12, .inl fa0_0_5)), (ha0_0_6, .inl (cI, 12, .inl fa0_0_6)), (ha0_0_7, .inl (cI, 12, .inl fa0_0_7)), (ha0_0_11, .inr (9, [.int ia0_0_11_0, .int ia0_0_11_1, .int ia0_0_11_2, .int ia0_0_11_3, .int ia0_0_11_4])), (ha0_0, .inr (7, [.ref ha0_0_0, .ref ha0_0_1, .ref ha0_0_2, .int ia0_0_3, .ref ha0_0_4, .ref ha0_0_5, .ref ha0_0_6, .ref ha0_0_7, .int ia0_0_8, .int ia0_0_9, .int ia0_0_10, .ref ha0_0_11])), (ha0_1_0, .inl (cQ, 5, .inr (.inr (.inr (.inr ga0_1_0))))), (ha0_1_1, .inl (cI, 5, .inl fa0_1_1)), (ha0_1_2, .inl (cI, 5, .inl fa0_1_2)), (ha0_1_4, .inl (cI, 12, .inl fa0_1_4)), (ha0_1_5, .inl (cI, 12, .inl fa0_1_5)), (ha0_1_6, .inl (cI, 12, .inl fa0_1_6)), (ha0_1_7, .inl (cI, 12, .inl fa0_1_7)), (ha0_1_11, .inr (9, [.int ia0_1_11_0, .int ia0_1_11_1, .int ia0_1_11_2, .int ia0_1_11_3, .int ia0_1_11_4])), (ha0_1, .inr (7, [.ref ha0_1_0, .ref ha0_1_1, .ref ha0_1_2, .int ia0_1_3, .ref ha0_1_4, .ref ha0_1_5, .ref ha0_1_6, .ref ha0_1_7, .int ia0_1_8, .int ia0_1_9, .int ia0_1_10, .ref ha0_1_11])), (ha0_8, .inl (cI, 7, .inl fa0_8)), (ha0, .inr (11, [.ref ha0_0, .ref ha0_1, .int ia0_2, .ref ha0_3, .ref ha0_3_0, .ref ha0_5, .ref ha0_6, .int ia0_7, .ref ha0_8]))] sz) (fun u => [(ha0_0_0, .inl (cQ, 5, .inr (.inr (.inr (.inr (u.2 0)))))), (ha0_0_1, .inl (cI, 5, .inl (u.1.2 0))), (ha0_0_2, .inl (cI, 5, .inl (u.1.2 1))), (ha0_0_4, .inl (cI, 12, .inl (u.1.2 2))), (ha0_0_5, .inl (cI, 12, .inl (u.1.2 3))), (ha0_0_6, .inl (cI, 12, .inl (u.1.2 4))), (ha0_0_7, .inl (cI, 12, .inl (u.1.2 5))), (ha0_0_11, .inr (9, [.int (u.1.1 0), .int (u.1.1 1), .int (u.1.1 2), .int (u.1.1 3), .int (u.1.1 4)])), (ha0_0, .inr (7, [.ref ha0_0_0, .ref ha0_0_1, .ref ha0_0_2, .int (u.1.1 5), .ref ha0_0_4, .ref ha0_0_5, .ref ha0_0_6, .ref ha0_0_7, .int (u.1.1 6), .int (u.1.1 7), .int (u.1.1 8), .ref ha0_0_11])), (ha0_1_0, .inl (cQ, 5, .inr (.inr (.inr (.inr ga0_1_0))))), (ha0_1_1, .inl (cI, 5, .inl fa0_1_1)), (ha0_1_2, .inl (cI, 5, .inl fa0_1_2)), (ha0_1_4, .inl (cI, 12, .inl fa0_1_4)), (ha0_1_5, .inl (cI, 12, .inl fa0_1_5)), (ha0_1_6, .inl (cI, 12, .inl fa0_1_6)), (ha0_1_7, .inl (cI, 12, .inl fa0_1_7)), (ha0_1_11, .inr (9, [.int ia0_1_11_0, .int ia0_1_11_1, .int ia0_1_11_2, .int ia0_1_11_3, .int ia0_1_11_4])), (ha0_1, .inr (7, [.ref ha0_1_0, .ref ha0_1_1, .ref ha0_1_2, .int ia0_1_3, .ref ha0_1_4, .ref ha0_1_5, .ref ha0_1_6, .ref ha0_1_7, .int ia0_1_8, .int ia0_1_9, .int ia0_1_10, .ref ha0_1_11])), (ha0_8, .inl (cI, 7, .inl (u.1.2 6))), (ha0, .inr (11, [.ref ha0_0, .ref ha0_1, .int ia0_2, .ref ha0_3, .ref ha0_3_0, .ref ha0_5, .ref ha0_6, .int ia0_7, .ref ha0_8]))]) (fun r u => (∀ i y, (u.2 0) i = some y → PL y) ∧ (∀ k, 0 ≤ ((u.1.2 4) k).toInt ∧ ((u.1.2 4) k).toInt ≤ 4) ∧ (∀ k, (-48) ≤ ((u.1.2 5) k).toInt ∧ ((u.1.2 5) k).toInt ≤ 207) ∧ ((-2147483648) ≤ (u.1.1 0).toInt ∧ (u.1.1 0).toInt ≤ 2147483647) ∧ ((-2147483648) ≤ (u.1.1 1).toInt ∧ (u.1.1 1).toInt ≤ 2147483647) ∧ ((-2147483648) ≤ (u.1.1 2).toInt ∧ (u.1.1 2).toInt ≤ 2147483647) ∧ ((-2147483648) ≤ (u.1.1 3).toInt ∧ (u.1.1 3).toInt ≤ 2147483647) ∧ ((-2147483648) ≤ (u.1.1 4).toInt ∧ (u.1.1 4).toInt ≤ 2147483647) ∧ (0 ≤ (u.1.1 5).toInt ∧ (u.1.1 5).toInt ≤ 5) ∧ ((-2147483648) ≤ (u.1.1 6).toInt ∧ (u.1.1 6).toInt ≤ 2147483647) ∧ (0 ≤ (u.1.1 7).toInt ∧ (u.1.1 7).toInt ≤ 12) ∧ ((-2147483648) ≤ (u.1.1 8).toInt ∧ (u.1.1 8).toInt ≤ 2147483647) ∧ ((-2147483648) ≤ r.toInt ∧ r.toInt ≤ 2147483647) ∧ ((zRsC ia0_2 ia0_0_3 ia0_0_9 ia0_0_10 ia0_1_3 ia0_1_9 ia0_1_10 fa0_0_1 fa0_0_7 fa0_1_1 fa0_1_7 (u.1.1 5) (u.1.1 7) (u.1.1 8) r (u.1.2 0) (u.1.2 5))))) 0 0 (va_A [(ha0_0_0, .inl (cQ, 5, .inr (.inr (.inr (.inr ga0_0_0))))), (ha0_0_1, .inl (cI, 5, .inl fa0_0_1)), (ha0_0_2, .inl (cI, 5, .inl fa0_0_2)), (ha0_0_4, .inl (cI, 12, .inl fa0_0_4)), (ha0_0_5, .inl (cI, 12, .inl fa0_0_5)), (ha0_0_6, .inl (cI, 12, .inl fa0_0_6)), (ha0_0_7, .inl (cI, 12, .inl fa0_0_7)), (ha0_0_11, .inr (9, [.int ia0_0_11_0, .int ia0_0_11_1, .int ia0_0_11_2, .int ia0_0_11_3, .int ia0_0_11_4])), (ha0_0, .inr (7, [.ref ha0_0_0, .ref ha0_0_1, .ref ha0_0_2, .int ia0_0_3, .ref ha0_0_4, .ref ha0_0_5, .ref ha0_0_6, .ref ha0_0_7, .int ia0_0_8, .int ia0_0_9, .int ia0_0_10, .ref ha0_0_11])), (ha0_1_0, .inl (cQ, 5, .inr (.inr (.inr (.inr ga0_1_0))))), (ha0_1_1, .inl (cI, 5, .inl fa0_1_1)), (ha0_1_2, .inl (cI, 5, .inl fa0_1_2)), (ha0_1_4, .inl (cI, 12, .inl fa0_1_4)), (ha0_1_5, .inl (cI, 12, .inl fa0_1_5)), (ha0_1_6, .inl (cI, 12, .inl fa0_1_6)), (ha0_1_7, .inl (cI, 12, .inl fa0_1_7)), (ha0_1_11, .inr (9, [.int ia0_1_11_0, .int ia0_1_11_1, .int ia0_1_11_2, .int ia0_1_11_3, .int ia0_1_11_4])), (ha0_1, .inr (7, [.ref ha0_1_0, .ref ha0_1_1, .ref ha0_1_2, .int ia0_1_3, .ref ha0_1_4, .ref ha0_1_5, .ref ha0_1_6, .ref ha0_1_7, .int ia0_1_8, .int ia0_1_9, .int ia0_1_10, .ref ha0_1_11])), (ha0_8, .inl (cI, 7, .inl fa0_8)), (ha0, .inr (11, [.ref ha0_0, .ref ha0_1, .int ia0_2, .ref ha0_3, .ref ha0_3_0, .ref ha0_5, .ref ha0_6, .int ia0_7, .ref ha0_8]))] sz) := by
  refine Met.ofW (cc := cX11_restore) (maxL := 1) (ret := (some .int)) (by decide) rfl ?_
  intro p e s m args below meth c s₁ B hml hv
  obtain ⟨rfl, ⟨hsz, hP, hZ, hD0⟩, hPl0, hPlN⟩ := hv
  obtain ⟨hK, hAO, hN⟩ := id hZ
  have hx := B.exec
  have hb := B.bytes
  have hr := B.returns
  have hts := atoms_spec (ws := vsX11_restore) B.pre
  have hown : s.vm.findClass RX11 = some m.cls := findClass_of_methodNamed B.named
  have hlocks := B.notSynchronized
  have hlt0 : ((-9) : Int32).toInt = (-9) := by decide
  have hlt1 : ((-6) : Int32).toInt = (-6) := by decide
  have hlt2 : ((-4) : Int32).toInt = (-4) := by decide
  have hlt3 : ((-3) : Int32).toInt = (-3) := by decide
  have hlt4 : ((-2) : Int32).toInt = (-2) := by decide
  have hlt5 : ((-1) : Int32).toInt = (-1) := by decide
  have hlt6 : (0 : Int32).toInt = 0 := by decide
  have hlt7 : (1 : Int32).toInt = 1 := by decide
  subst hsz
  have hD := hD0.self (sz := s.heap.size)
  have hPlA := z_plA hPlN
  generalize hAe : va_A [(ha0_0_0, .inl (cQ, 5, .inr (.inr (.inr (.inr ga0_0_0))))), (ha0_0_1, .inl (cI, 5, .inl fa0_0_1)), (ha0_0_2, .inl (cI, 5, .inl fa0_0_2)), (ha0_0_4, .inl (cI, 12, .inl fa0_0_4)), (ha0_0_5, .inl (cI, 12, .inl fa0_0_5)), (ha0_0_6, .inl (cI, 12, .inl fa0_0_6)), (ha0_0_7, .inl (cI, 12, .inl fa0_0_7)), (ha0_0_11, .inr (9, [.int ia0_0_11_0, .int ia0_0_11_1, .int ia0_0_11_2, .int ia0_0_11_3, .int ia0_0_11_4])), (ha0_0, .inr (7, [.ref ha0_0_0, .ref ha0_0_1, .ref ha0_0_2, .int ia0_0_3, .ref ha0_0_4, .ref ha0_0_5, .ref ha0_0_6, .ref ha0_0_7, .int ia0_0_8, .int ia0_0_9, .int ia0_0_10, .ref ha0_0_11])), (ha0_1_0, .inl (cQ, 5, .inr (.inr (.inr (.inr ga0_1_0))))), (ha0_1_1, .inl (cI, 5, .inl fa0_1_1)), (ha0_1_2, .inl (cI, 5, .inl fa0_1_2)), (ha0_1_4, .inl (cI, 12, .inl fa0_1_4)), (ha0_1_5, .inl (cI, 12, .inl fa0_1_5)), (ha0_1_6, .inl (cI, 12, .inl fa0_1_6)), (ha0_1_7, .inl (cI, 12, .inl fa0_1_7)), (ha0_1_11, .inr (9, [.int ia0_1_11_0, .int ia0_1_11_1, .int ia0_1_11_2, .int ia0_1_11_3, .int ia0_1_11_4])), (ha0_1, .inr (7, [.ref ha0_1_0, .ref ha0_1_1, .ref ha0_1_2, .int ia0_1_3, .ref ha0_1_4, .ref ha0_1_5, .ref ha0_1_6, .ref ha0_1_7, .int ia0_1_8, .int ia0_1_9, .int ia0_1_10, .ref ha0_1_11])), (ha0_8, .inl (cI, 7, .inl fa0_8)), (ha0, .inr (11, [.ref ha0_0, .ref ha0_1, .int ia0_2, .ref ha0_3, .ref ha0_3_0, .ref ha0_5, .ref ha0_6, .int ia0_7, .ref ha0_8]))] s.heap.size = A at hD hPlA ⊢
  have hA : ∀ q : Nat, s.heap.size ≤ q → A q := fun q h => by rw [← hAe]; exact Or.inr h
  have hS : va_S A s.heap s.heap [] := va_S.rf
  have hP : va_P (dC, dI) vwCl [(ha0_0_0, .inl (cQ, 5, .inr (.inr (.inr (.inr ga0_0_0))))), (ha0_0_1, .inl (cI, 5, .inl fa0_0_1)), (ha0_0_2, .inl (cI, 5, .inl fa0_0_2)), (ha0_0_4, .inl (cI, 12, .inl fa0_0_4)), (ha0_0_5, .inl (cI, 12, .inl fa0_0_5)), (ha0_0_6, .inl (cI, 12, .inl fa0_0_6)), (ha0_0_7, .inl (cI, 12, .inl fa0_0_7)), (ha0_0_11, .inr (9, [.int ia0_0_11_0, .int ia0_0_11_1, .int ia0_0_11_2, .int ia0_0_11_3, .int ia0_0_11_4])), (ha0_0, .inr (7, [.ref ha0_0_0, .ref ha0_0_1, .ref ha0_0_2, .int ia0_0_3, .ref ha0_0_4, .ref ha0_0_5, .ref ha0_0_6, .ref ha0_0_7, .int ia0_0_8, .int ia0_0_9, .int ia0_0_10, .ref ha0_0_11])), (ha0_1_0, .inl (cQ, 5, .inr (.inr (.inr (.inr ga0_1_0))))), (ha0_1_1, .inl (cI, 5, .inl fa0_1_1)), (ha0_1_2, .inl (cI, 5, .inl fa0_1_2)), (ha0_1_4, .inl (cI, 12, .inl fa0_1_4)), (ha0_1_5, .inl (cI, 12, .inl fa0_1_5)), (ha0_1_6, .inl (cI, 12, .inl fa0_1_6)), (ha0_1_7, .inl (cI, 12, .inl fa0_1_7)), (ha0_1_11, .inr (9, [.int ia0_1_11_0, .int ia0_1_11_1, .int ia0_1_11_2, .int ia0_1_11_3, .int ia0_1_11_4])), (ha0_1, .inr (7, [.ref ha0_1_0, .ref ha0_1_1, .ref ha0_1_2, .int ia0_1_3, .ref ha0_1_4, .ref ha0_1_5, .ref ha0_1_6, .ref ha0_1_7, .int ia0_1_8, .int ia0_1_9, .int ia0_1_10, .ref ha0_1_11])), (ha0_8, .inl (cI, 7, .inl fa0_8)), (ha0, .inr (11, [.ref ha0_0, .ref ha0_1, .int ia0_2, .ref ha0_3, .ref ha0_3_0, .ref ha0_5, .ref ha0_6, .int ia0_7, .ref ha0_8]))] s.heap := hP
  have hl := lv_entry ([.ref ha0]) (n := 1) (Nat.le_of_ble_eq_true rfl)
  rw [lg_entry_eq]
  generalize (lg_sl ([.ref ha0]) ++ List.replicate (1 - (lg_sl ([.ref ha0])).length) Slot.unset).toArray = ls at hl ⊢
  have hl : lv_has ls 1 [(0, .ref ha0)] := hl
  refine lv_aload_n hx hb dX11_restore_0 rfl (lv_at hl 0 rfl) ?_
  refine va_get (D := (dC, dI)) (ci := 11) (v := .int ia0_2) (C := RX11) (T := TX11) (N := 9) hx hb hts in_X11_restore_X11 hown hK hP 19 rfl rfl 2 (by decide) (hts (.fieldLink RX11 19 "EachOnHisCue" "hasImage" "Z") (by decide +kernel)) (fun _ h9 => h9) rfl dX11_restore_1 ?_
  refine lv_if_ne (tgt := 14) hx hb dX11_restore_4 (by decide) (fun hc => ?_) (fun hc => ?_)
  · have q1 : ia0_2.toInt ≠ 0 := z_ne rfl (by decide) hc
    refine lv_aload_n hx hb dX11_restore_14 rfl (lv_at hl 0 rfl) ?_
    refine va_get (D := (dC, dI)) (ci := 11) (v := .ref ha0_0) (C := RX11) (T := TX11) (N := 9) hx hb hts in_X11_restore_X11 hown hK hP 19 rfl rfl 0 (by decide) (hts (.fieldLink RX11 10 "EachOnHisCue" "play" "LEachOnHisCue$Play;") (by decide +kernel)) (fun _ h9 => h9) rfl dX11_restore_15 ?_
    refine lv_aload_n hx hb dX11_restore_18 rfl (lv_at hl 0 rfl) ?_
    refine va_get (D := (dC, dI)) (ci := 11) (v := .ref ha0_1) (C := RX11) (T := TX11) (N := 9) hx hb hts in_X11_restore_X11 hown hK hP 19 rfl rfl 1 (by decide) (hts (.fieldLink RX11 16 "EachOnHisCue" "imaged" "LEachOnHisCue$Play;") (by decide +kernel)) (fun _ h9 => h9) rfl dX11_restore_19 ?_
    refine z_cwvG (wc := [(ha0_0_0, .inl (cQ, 5, .inr (.inr (.inr (.inr ga0_0_0))))), (ha0_0_1, .inl (cI, 5, .inl fa0_0_1)), (ha0_0_2, .inl (cI, 5, .inl fa0_0_2)), (ha0_0_4, .inl (cI, 12, .inl fa0_0_4)), (ha0_0_5, .inl (cI, 12, .inl fa0_0_5)), (ha0_0_6, .inl (cI, 12, .inl fa0_0_6)), (ha0_0_7, .inl (cI, 12, .inl fa0_0_7)), (ha0_0_11, .inr (9, [.int ia0_0_11_0, .int ia0_0_11_1, .int ia0_0_11_2, .int ia0_0_11_3, .int ia0_0_11_4])), (ha0_0, .inr (7, [.ref ha0_0_0, .ref ha0_0_1, .ref ha0_0_2, .int ia0_0_3, .ref ha0_0_4, .ref ha0_0_5, .ref ha0_0_6, .ref ha0_0_7, .int ia0_0_8, .int ia0_0_9, .int ia0_0_10, .ref ha0_0_11])), (ha0_1_0, .inl (cQ, 5, .inr (.inr (.inr (.inr ga0_1_0))))), (ha0_1_1, .inl (cI, 5, .inl fa0_1_1)), (ha0_1_2, .inl (cI, 5, .inl fa0_1_2)), (ha0_1_4, .inl (cI, 12, .inl fa0_1_4)), (ha0_1_5, .inl (cI, 12, .inl fa0_1_5)), (ha0_1_6, .inl (cI, 12, .inl fa0_1_6)), (ha0_1_7, .inl (cI, 12, .inl fa0_1_7)), (ha0_1_11, .inr (9, [.int ia0_1_11_0, .int ia0_1_11_1, .int ia0_1_11_2, .int ia0_1_11_3, .int ia0_1_11_4])), (ha0_1, .inr (7, [.ref ha0_1_0, .ref ha0_1_1, .ref ha0_1_2, .int ia0_1_3, .ref ha0_1_4, .ref ha0_1_5, .ref ha0_1_6, .ref ha0_1_7, .int ia0_1_8, .int ia0_1_9, .int ia0_1_10, .ref ha0_1_11]))]) (wr := [(ha0_8, .inl (cI, 7, .inl fa0_8)), (ha0, .inr (11, [.ref ha0_0, .ref ha0_1, .int ia0_2, .ref ha0_3, .ref ha0_3_0, .ref ha0_5, .ref ha0_6, .int ia0_7, .ref ha0_8]))]) (w1 := fun (u3 : ZU × (Nat → Nat → Option Nat)) => [(ha0_0_0, .inl (cQ, 5, .inr (.inr (.inr (.inr (u3.2 0)))))), (ha0_0_1, .inl (cI, 5, .inl (u3.1.2 0))), (ha0_0_2, .inl (cI, 5, .inl (u3.1.2 1))), (ha0_0_4, .inl (cI, 12, .inl (u3.1.2 2))), (ha0_0_5, .inl (cI, 12, .inl (u3.1.2 3))), (ha0_0_6, .inl (cI, 12, .inl (u3.1.2 4))), (ha0_0_7, .inl (cI, 12, .inl (u3.1.2 5))), (ha0_0_11, .inr (9, [.int (u3.1.1 0), .int (u3.1.1 1), .int (u3.1.1 2), .int (u3.1.1 3), .int (u3.1.1 4)])), (ha0_0, .inr (7, [.ref ha0_0_0, .ref ha0_0_1, .ref ha0_0_2, .int (u3.1.1 5), .ref ha0_0_4, .ref ha0_0_5, .ref ha0_0_6, .ref ha0_0_7, .int (u3.1.1 6), .int (u3.1.1 7), .int (u3.1.1 8), .ref ha0_0_11])), (ha0_1_0, .inl (cQ, 5, .inr (.inr (.inr (.inr ga0_1_0))))), (ha0_1_1, .inl (cI, 5, .inl fa0_1_1)), (ha0_1_2, .inl (cI, 5, .inl fa0_1_2)), (ha0_1_4, .inl (cI, 12, .inl fa0_1_4)), (ha0_1_5, .inl (cI, 12, .inl fa0_1_5)), (ha0_1_6, .inl (cI, 12, .inl fa0_1_6)), (ha0_1_7, .inl (cI, 12, .inl fa0_1_7)), (ha0_1_11, .inr (9, [.int ia0_1_11_0, .int ia0_1_11_1, .int ia0_1_11_2, .int ia0_1_11_3, .int ia0_1_11_4])), (ha0_1, .inr (7, [.ref ha0_1_0, .ref ha0_1_1, .ref ha0_1_2, .int ia0_1_3, .ref ha0_1_4, .ref ha0_1_5, .ref ha0_1_6, .ref ha0_1_7, .int ia0_1_8, .int ia0_1_9, .int ia0_1_10, .ref ha0_1_11]))]) (va_runV (As := [.ref ha0_1]) (rest := []) ⟨hx, hb, hml, hown, hts⟩ (wX7_take l dC dI cI cQ ha0_0 ha0_1 ha0_0_0 ha0_0_1 ha0_0_2 ha0_0_4 ha0_0_5 ha0_0_6 ha0_0_7 ha0_0_11 ha0_1_0 ha0_1_1 ha0_1_2 ha0_1_4 ha0_1_5 ha0_1_6 ha0_1_7 ha0_1_11 PL ga0_0_0 hPLga0_0_0 fa0_0_1 fa0_0_2 fa0_0_4 fa0_0_5 fa0_0_6 hBfa0_0_6 fa0_0_7 hBfa0_0_7 ia0_0_11_0 ia0_0_11_1 ia0_0_11_2 ia0_0_11_3 ia0_0_11_4 ia0_0_3 hia0_0_3l hia0_0_3h ia0_0_8 ia0_0_9 hia0_0_9l hia0_0_9h ia0_0_10 ga0_1_0 hPLga0_1_0 fa0_1_1 fa0_1_2 fa0_1_4 fa0_1_5 fa0_1_6 hBfa0_1_6 fa0_1_7 hBfa0_1_7 ia0_1_11_0 ia0_1_11_1 ia0_1_11_2 ia0_1_11_3 ia0_1_11_4 ia0_1_3 hia0_1_3l hia0_1_3h ia0_1_8 ia0_1_9 hia0_1_9l hia0_1_9h ia0_1_10 s.heap.size) (cwV 1 hts gv_X11_restore_X7_take_238 rfl rfl rfl (by decide +kernel) ⟨Nat.le_of_ble_eq_true rfl, Nat.le_of_ble_eq_true rfl⟩) ⟨z_blindBP, va_recv hK hP (ci := 7) (q0 := 8) rfl rfl, z_preBP hZ hP hD hPl0 hPlA hS [0, 1, 2, 3, 4, 5, 6, 7, 8, 9, 10, 11, 12, 13, 14, 15, 16, 17] rfl (by decide +kernel)⟩ rfl rfl hl.1 rfl (lv_room (Nat.le_of_ble_eq_true rfl)) dX11_restore_22 ⟨Nat.le_of_ble_eq_true rfl, Nat.le_of_ble_eq_true rfl⟩) hP hD hS hA [0, 1, 2, 3, 4, 5, 6, 7, 8, 9, 10, 11, 12, 13, 14, 15, 16, 17] [18, 19] rfl rfl (by decide +kernel) (by decide +kernel) (fun u3 H locs hpo hP hD hS => ?_)
    generalize hgg4 : u3.2 0 = g4 at hP hD hpo
    generalize hgf5 : u3.1.2 0 = f5 at hP hD hpo
    generalize hgf6 : u3.1.2 1 = f6 at hP hD hpo
    generalize hgf7 : u3.1.2 2 = f7 at hP hD hpo
    generalize hgf8 : u3.1.2 3 = f8 at hP hD hpo
    generalize hgf9 : u3.1.2 4 = f9 at hP hD hpo
    generalize hgf10 : u3.1.2 5 = f10 at hP hD hpo
    generalize hgw11 : u3.1.1 0 = w11 at hP hD hpo
    generalize hgw12 : u3.1.1 1 = w12 at hP hD hpo
    generalize hgw13 : u3.1.1 2 = w13 at hP hD hpo
    generalize hgw14 : u3.1.1 3 = w14 at hP hD hpo
    generalize hgw15 : u3.1.1 4 = w15 at hP hD hpo
    generalize hgw16 : u3.1.1 5 = w16 at hP hD hpo
    generalize hgw17 : u3.1.1 6 = w17 at hP hD hpo
    generalize hgw18 : u3.1.1 7 = w18 at hP hD hpo
    generalize hgw19 : u3.1.1 8 = w19 at hP hD hpo
    have hP : va_P (dC, dI) vwCl [(ha0_8, .inl (cI, 7, .inl fa0_8)), (ha0, .inr (11, [.ref ha0_0, .ref ha0_1, .int ia0_2, .ref ha0_3, .ref ha0_3_0, .ref ha0_5, .ref ha0_6, .int ia0_7, .ref ha0_8])), (ha0_0_0, .inl (cQ, 5, .inr (.inr (.inr (.inr g4))))), (ha0_0_1, .inl (cI, 5, .inl f5)), (ha0_0_2, .inl (cI, 5, .inl f6)), (ha0_0_4, .inl (cI, 12, .inl f7)), (ha0_0_5, .inl (cI, 12, .inl f8)), (ha0_0_6, .inl (cI, 12, .inl f9)), (ha0_0_7, .inl (cI, 12, .inl f10)), (ha0_0_11, .inr (9, [.int w11, .int w12, .int w13, .int w14, .int w15])), (ha0_0, .inr (7, [.ref ha0_0_0, .ref ha0_0_1, .ref ha0_0_2, .int w16, .ref ha0_0_4, .ref ha0_0_5, .ref ha0_0_6, .ref ha0_0_7, .int w17, .int w18, .int w19, .ref ha0_0_11])), (ha0_1_0, .inl (cQ, 5, .inr (.inr (.inr (.inr ga0_1_0))))), (ha0_1_1, .inl (cI, 5, .inl fa0_1_1)), (ha0_1_2, .inl (cI, 5, .inl fa0_1_2)), (ha0_1_4, .inl (cI, 12, .inl fa0_1_4)), (ha0_1_5, .inl (cI, 12, .inl fa0_1_5)), (ha0_1_6, .inl (cI, 12, .inl fa0_1_6)), (ha0_1_7, .inl (cI, 12, .inl fa0_1_7)), (ha0_1_11, .inr (9, [.int ia0_1_11_0, .int ia0_1_11_1, .int ia0_1_11_2, .int ia0_1_11_3, .int ia0_1_11_4])), (ha0_1, .inr (7, [.ref ha0_1_0, .ref ha0_1_1, .ref ha0_1_2, .int ia0_1_3, .ref ha0_1_4, .ref ha0_1_5, .ref ha0_1_6, .ref ha0_1_7, .int ia0_1_8, .int ia0_1_9, .int ia0_1_10, .ref ha0_1_11]))] H := hP
    have hD : va_D A [(ha0_8, .inl (cI, 7, .inl fa0_8)), (ha0, .inr (11, [.ref ha0_0, .ref ha0_1, .int ia0_2, .ref ha0_3, .ref ha0_3_0, .ref ha0_5, .ref ha0_6, .int ia0_7, .ref ha0_8])), (ha0_0_0, .inl (cQ, 5, .inr (.inr (.inr (.inr g4))))), (ha0_0_1, .inl (cI, 5, .inl f5)), (ha0_0_2, .inl (cI, 5, .inl f6)), (ha0_0_4, .inl (cI, 12, .inl f7)), (ha0_0_5, .inl (cI, 12, .inl f8)), (ha0_0_6, .inl (cI, 12, .inl f9)), (ha0_0_7, .inl (cI, 12, .inl f10)), (ha0_0_11, .inr (9, [.int w11, .int w12, .int w13, .int w14, .int w15])), (ha0_0, .inr (7, [.ref ha0_0_0, .ref ha0_0_1, .ref ha0_0_2, .int w16, .ref ha0_0_4, .ref ha0_0_5, .ref ha0_0_6, .ref ha0_0_7, .int w17, .int w18, .int w19, .ref ha0_0_11])), (ha0_1_0, .inl (cQ, 5, .inr (.inr (.inr (.inr ga0_1_0))))), (ha0_1_1, .inl (cI, 5, .inl fa0_1_1)), (ha0_1_2, .inl (cI, 5, .inl fa0_1_2)), (ha0_1_4, .inl (cI, 12, .inl fa0_1_4)), (ha0_1_5, .inl (cI, 12, .inl fa0_1_5)), (ha0_1_6, .inl (cI, 12, .inl fa0_1_6)), (ha0_1_7, .inl (cI, 12, .inl fa0_1_7)), (ha0_1_11, .inr (9, [.int ia0_1_11_0, .int ia0_1_11_1, .int ia0_1_11_2, .int ia0_1_11_3, .int ia0_1_11_4])), (ha0_1, .inr (7, [.ref ha0_1_0, .ref ha0_1_1, .ref ha0_1_2, .int ia0_1_3, .ref ha0_1_4, .ref ha0_1_5, .ref ha0_1_6, .ref ha0_1_7, .int ia0_1_8, .int ia0_1_9, .int ia0_1_10, .ref ha0_1_11]))] := hD
    obtain ⟨hPLg4, hBf9, hBf10, hw11p, hw12p, hw13p, hw14p, hw15p, hw16p, hw17p, hw18p, hw19p, hy2po⟩ := hpo
    obtain ⟨hw11l, hw11h⟩ := hw11p
    obtain ⟨hw12l, hw12h⟩ := hw12p
    obtain ⟨hw13l, hw13h⟩ := hw13p
    obtain ⟨hw14l, hw14h⟩ := hw14p
    obtain ⟨hw15l, hw15h⟩ := hw15p
    obtain ⟨hw16l, hw16h⟩ := hw16p
    obtain ⟨hw17l, hw17h⟩ := hw17p
    obtain ⟨hw18l, hw18h⟩ := hw18p
    obtain ⟨hw19l, hw19h⟩ := hw19p
    refine lv_aload_n hx hb dX11_restore_25 rfl (lv_at hl 0 rfl) ?_
    refine va_get (D := (dC, dI)) (ci := 11) (v := .ref ha0_0) (C := RX11) (T := TX11) (N := 9) hx hb hts in_X11_restore_X11 hown hK hP 1 rfl rfl 0 (by decide) (hts (.fieldLink RX11 10 "EachOnHisCue" "play" "LEachOnHisCue$Play;") (by decide +kernel)) (fun _ h9 => h9) rfl dX11_restore_26 ?_
    refine va_get (D := (dC, dI)) (ci := 7) (v := .int w18) (C := RX7) (T := TX7) (N := 12) hx hb hts in_X11_restore_X7 hown hK hP 10 rfl rfl 9 (by decide) (hts (.fieldLink RX11 137 "EachOnHisCue$Play" "lines" "I") (by decide +kernel)) (fun _ h9 => h9) rfl dX11_restore_29 ?_
    have hP9 := hP.sub (ws' := [(ha0_0_0, .inl (cQ, 5, .inr (.inr (.inr (.inr g4))))), (ha0_0_1, .inl (cI, 5, .inl f5)), (ha0_0_2, .inl (cI, 5, .inl f6)), (ha0_0_4, .inl (cI, 12, .inl f7)), (ha0_0_5, .inl (cI, 12, .inl f8)), (ha0_0_6, .inl (cI, 12, .inl f9)), (ha0_0_7, .inl (cI, 12, .inl f10)), (ha0_0_11, .inr (9, [.int w11, .int w12, .int w13, .int w14, .int w15])), (ha0_0, .inr (7, [.ref ha0_0_0, .ref ha0_0_1, .ref ha0_0_2, .int w16, .ref ha0_0_4, .ref ha0_0_5, .ref ha0_0_6, .ref ha0_0_7, .int w17, .int w18, .int w19, .ref ha0_0_11])), (ha0_1_0, .inl (cQ, 5, .inr (.inr (.inr (.inr ga0_1_0))))), (ha0_1_1, .inl (cI, 5, .inl fa0_1_1)), (ha0_1_2, .inl (cI, 5, .inl fa0_1_2)), (ha0_1_4, .inl (cI, 12, .inl fa0_1_4)), (ha0_1_5, .inl (cI, 12, .inl fa0_1_5)), (ha0_1_6, .inl (cI, 12, .inl fa0_1_6)), (ha0_1_7, .inl (cI, 12, .inl fa0_1_7)), (ha0_1_11, .inr (9, [.int ia0_1_11_0, .int ia0_1_11_1, .int ia0_1_11_2, .int ia0_1_11_3, .int ia0_1_11_4])), (ha0_1, .inr (7, [.ref ha0_1_0, .ref ha0_1_1, .ref ha0_1_2, .int ia0_1_3, .ref ha0_1_4, .ref ha0_1_5, .ref ha0_1_6, .ref ha0_1_7, .int ia0_1_8, .int ia0_1_9, .int ia0_1_10, .ref ha0_1_11])), (ha0_8, .inl (cI, 7, .inl fa0_8)), (ha0, .inr (11, [.ref ha0_0, .ref ha0_1, .int ia0_2, .ref ha0_3, .ref ha0_3_0, .ref ha0_5, .ref ha0_6, .int ia0_7, .ref ha0_8]))]) [2, 3, 4, 5, 6, 7, 8, 9, 10, 11, 12, 13, 14, 15, 16, 17, 18, 19, 0, 1] rfl
    have hD9 := hD.sub (ws' := [(ha0_0_0, .inl (cQ, 5, .inr (.inr (.inr (.inr g4))))), (ha0_0_1, .inl (cI, 5, .inl f5)), (ha0_0_2, .inl (cI, 5, .inl f6)), (ha0_0_4, .inl (cI, 12, .inl f7)), (ha0_0_5, .inl (cI, 12, .inl f8)), (ha0_0_6, .inl (cI, 12, .inl f9)), (ha0_0_7, .inl (cI, 12, .inl f10)), (ha0_0_11, .inr (9, [.int w11, .int w12, .int w13, .int w14, .int w15])), (ha0_0, .inr (7, [.ref ha0_0_0, .ref ha0_0_1, .ref ha0_0_2, .int w16, .ref ha0_0_4, .ref ha0_0_5, .ref ha0_0_6, .ref ha0_0_7, .int w17, .int w18, .int w19, .ref ha0_0_11])), (ha0_1_0, .inl (cQ, 5, .inr (.inr (.inr (.inr ga0_1_0))))), (ha0_1_1, .inl (cI, 5, .inl fa0_1_1)), (ha0_1_2, .inl (cI, 5, .inl fa0_1_2)), (ha0_1_4, .inl (cI, 12, .inl fa0_1_4)), (ha0_1_5, .inl (cI, 12, .inl fa0_1_5)), (ha0_1_6, .inl (cI, 12, .inl fa0_1_6)), (ha0_1_7, .inl (cI, 12, .inl fa0_1_7)), (ha0_1_11, .inr (9, [.int ia0_1_11_0, .int ia0_1_11_1, .int ia0_1_11_2, .int ia0_1_11_3, .int ia0_1_11_4])), (ha0_1, .inr (7, [.ref ha0_1_0, .ref ha0_1_1, .ref ha0_1_2, .int ia0_1_3, .ref ha0_1_4, .ref ha0_1_5, .ref ha0_1_6, .ref ha0_1_7, .int ia0_1_8, .int ia0_1_9, .int ia0_1_10, .ref ha0_1_11])), (ha0_8, .inl (cI, 7, .inl fa0_8)), (ha0, .inr (11, [.ref ha0_0, .ref ha0_1, .int ia0_2, .ref ha0_3, .ref ha0_3_0, .ref ha0_5, .ref ha0_6, .int ia0_7, .ref ha0_8]))]) [2, 3, 4, 5, 6, 7, 8, 9, 10, 11, 12, 13, 14, 15, 16, 17, 18, 19, 0, 1] (by decide) rfl
    have hpo : (zRsC ia0_2 ia0_0_3 ia0_0_9 ia0_0_10 ia0_1_3 ia0_1_9 ia0_1_10 fa0_0_1 fa0_0_7 fa0_1_1 fa0_1_7 (w16 : Int32) (w18 : Int32) (w19 : Int32) (w18 : Int32) f5 f10) := by obtain ⟨q1, q2, q3, q4, q5⟩ := hy2po; exact Or.inr ⟨by omega, by rw [q2], q1, q2, q3, q4, q5⟩
    exact W.iret (v := w18) hx hb hr (fun t ht hW => ⟨⟨w18, ((fun k => [w11, w12, w13, w14, w15, w16, w17, w18, w19].getD k 0, fun k => [f5, f6, f7, f8, f9, f10, fa0_8].getD k (fun _ => 0)), fun k => [g4].getD k (fun _ => none)), rfl, (show (∀ i y, g4 i = some y → PL y) ∧ (∀ k, 0 ≤ (f9 k).toInt ∧ (f9 k).toInt ≤ 4) ∧ (∀ k, (-48) ≤ (f10 k).toInt ∧ (f10 k).toInt ≤ 207) ∧ ((-2147483648) ≤ (w11 : Int32).toInt ∧ (w11 : Int32).toInt ≤ 2147483647) ∧ ((-2147483648) ≤ (w12 : Int32).toInt ∧ (w12 : Int32).toInt ≤ 2147483647) ∧ ((-2147483648) ≤ (w13 : Int32).toInt ∧ (w13 : Int32).toInt ≤ 2147483647) ∧ ((-2147483648) ≤ (w14 : Int32).toInt ∧ (w14 : Int32).toInt ≤ 2147483647) ∧ ((-2147483648) ≤ (w15 : Int32).toInt ∧ (w15 : Int32).toInt ≤ 2147483647) ∧ (0 ≤ (w16 : Int32).toInt ∧ (w16 : Int32).toInt ≤ 5) ∧ ((-2147483648) ≤ (w17 : Int32).toInt ∧ (w17 : Int32).toInt ≤ 2147483647) ∧ (0 ≤ (w18 : Int32).toInt ∧ (w18 : Int32).toInt ≤ 12) ∧ ((-2147483648) ≤ (w19 : Int32).toInt ∧ (w19 : Int32).toInt ≤ 2147483647) ∧ ((-2147483648) ≤ (w18 : Int32).toInt ∧ (w18 : Int32).toInt ≤ 2147483647) ∧ ((zRsC ia0_2 ia0_0_3 ia0_0_9 ia0_0_10 ia0_1_3 ia0_1_9 ia0_1_10 fa0_0_1 fa0_0_7 fa0_1_1 fa0_1_7 (w16 : Int32) (w18 : Int32) (w19 : Int32) (w18 : Int32) f5 f10)) from ⟨hPLg4, hBf9, hBf10, ⟨hw11l, hw11h⟩, ⟨hw12l, hw12h⟩, ⟨hw13l, hw13h⟩, ⟨hw14l, hw14h⟩, ⟨hw15l, hw15h⟩, ⟨hw16l, hw16h⟩, ⟨hw17l, hw17h⟩, ⟨hw18l, hw18h⟩, ⟨hw19l, hw19h⟩, ⟨by first | omega | decide | exact z_lo _, by first | omega | decide | exact z_hi _⟩, hpo⟩), by rw [ht]; exact hP9, hD9⟩, hS.F ht⟩) hS.2.2 dX11_restore_32
  · have q20 : ia0_2.toInt = 0 := z_eq rfl (by decide) hc
    refine lv_aload_n hx hb dX11_restore_7 rfl (lv_at hl 0 rfl) ?_
    refine lv_bipush (v := (-3)) hx hb dX11_restore_8 (by decide) ?_
    refine z_cwi (wc := [(ha0_8, .inl (cI, 7, .inl fa0_8)), (ha0, .inr (11, [.ref ha0_0, .ref ha0_1, .int ia0_2, .ref ha0_3, .ref ha0_3_0, .ref ha0_5, .ref ha0_6, .int ia0_7, .ref ha0_8]))]) (wr := [(ha0_0_0, .inl (cQ, 5, .inr (.inr (.inr (.inr ga0_0_0))))), (ha0_0_1, .inl (cI, 5, .inl fa0_0_1)), (ha0_0_2, .inl (cI, 5, .inl fa0_0_2)), (ha0_0_4, .inl (cI, 12, .inl fa0_0_4)), (ha0_0_5, .inl (cI, 12, .inl fa0_0_5)), (ha0_0_6, .inl (cI, 12, .inl fa0_0_6)), (ha0_0_7, .inl (cI, 12, .inl fa0_0_7)), (ha0_0_11, .inr (9, [.int ia0_0_11_0, .int ia0_0_11_1, .int ia0_0_11_2, .int ia0_0_11_3, .int ia0_0_11_4])), (ha0_0, .inr (7, [.ref ha0_0_0, .ref ha0_0_1, .ref ha0_0_2, .int ia0_0_3, .ref ha0_0_4, .ref ha0_0_5, .ref ha0_0_6, .ref ha0_0_7, .int ia0_0_8, .int ia0_0_9, .int ia0_0_10, .ref ha0_0_11])), (ha0_1_0, .inl (cQ, 5, .inr (.inr (.inr (.inr ga0_1_0))))), (ha0_1_1, .inl (cI, 5, .inl fa0_1_1)), (ha0_1_2, .inl (cI, 5, .inl fa0_1_2)), (ha0_1_4, .inl (cI, 12, .inl fa0_1_4)), (ha0_1_5, .inl (cI, 12, .inl fa0_1_5)), (ha0_1_6, .inl (cI, 12, .inl fa0_1_6)), (ha0_1_7, .inl (cI, 12, .inl fa0_1_7)), (ha0_1_11, .inr (9, [.int ia0_1_11_0, .int ia0_1_11_1, .int ia0_1_11_2, .int ia0_1_11_3, .int ia0_1_11_4])), (ha0_1, .inr (7, [.ref ha0_1_0, .ref ha0_1_1, .ref ha0_1_2, .int ia0_1_3, .ref ha0_1_4, .ref ha0_1_5, .ref ha0_1_6, .ref ha0_1_7, .int ia0_1_8, .int ia0_1_9, .int ia0_1_10, .ref ha0_1_11]))]) (w1 := fun u22 => [(ha0_8, .inl (cI, 7, .inl (u22.2 0))), (ha0, .inr (11, [.ref ha0_0, .ref ha0_1, .int ia0_2, .ref ha0_3, .ref ha0_3_0, .ref ha0_5, .ref ha0_6, .int ia0_7, .ref ha0_8]))]) (va_runV (As := [.int (-3)]) (rest := []) ⟨hx, hb, hml, hown, hts⟩ (wX11_refuse l dC dI cI cQ ha0 ha0_8 ha0_0 ha0_1 ha0_3 ha0_3_0 ha0_5 ha0_6 fa0_8 ia0_2 hia0_2l hia0_2h ia0_7 hia0_7l hia0_7h (-3) s.heap.size) (cwV 1 hts gv_X11_restore_X11_refuse_53 rfl rfl rfl (by decide +kernel) ⟨Nat.le_of_ble_eq_true rfl, Nat.le_of_ble_eq_true rfl⟩) ⟨z_blind, va_recv hK hP (ci := 11) (q0 := 19) rfl rfl, z_pre hZ hP hD [18, 19] rfl (by decide +kernel)⟩ rfl rfl hl.1 rfl (lv_room (Nat.le_of_ble_eq_true rfl)) dX11_restore_10 ⟨Nat.le_of_ble_eq_true rfl, Nat.le_of_ble_eq_true rfl⟩) hP hD hS hA [18, 19] [0, 1, 2, 3, 4, 5, 6, 7, 8, 9, 10, 11, 12, 13, 14, 15, 16, 17] rfl rfl (by decide +kernel) (by decide +kernel) (fun y21 u22 H locs hpo hP hD hS => ?_)
    generalize hgf23 : u22.2 0 = f23 at hP hD hpo
    have hP : va_P (dC, dI) vwCl [(ha0_0_0, .inl (cQ, 5, .inr (.inr (.inr (.inr ga0_0_0))))), (ha0_0_1, .inl (cI, 5, .inl fa0_0_1)), (ha0_0_2, .inl (cI, 5, .inl fa0_0_2)), (ha0_0_4, .inl (cI, 12, .inl fa0_0_4)), (ha0_0_5, .inl (cI, 12, .inl fa0_0_5)), (ha0_0_6, .inl (cI, 12, .inl fa0_0_6)), (ha0_0_7, .inl (cI, 12, .inl fa0_0_7)), (ha0_0_11, .inr (9, [.int ia0_0_11_0, .int ia0_0_11_1, .int ia0_0_11_2, .int ia0_0_11_3, .int ia0_0_11_4])), (ha0_0, .inr (7, [.ref ha0_0_0, .ref ha0_0_1, .ref ha0_0_2, .int ia0_0_3, .ref ha0_0_4, .ref ha0_0_5, .ref ha0_0_6, .ref ha0_0_7, .int ia0_0_8, .int ia0_0_9, .int ia0_0_10, .ref ha0_0_11])), (ha0_1_0, .inl (cQ, 5, .inr (.inr (.inr (.inr ga0_1_0))))), (ha0_1_1, .inl (cI, 5, .inl fa0_1_1)), (ha0_1_2, .inl (cI, 5, .inl fa0_1_2)), (ha0_1_4, .inl (cI, 12, .inl fa0_1_4)), (ha0_1_5, .inl (cI, 12, .inl fa0_1_5)), (ha0_1_6, .inl (cI, 12, .inl fa0_1_6)), (ha0_1_7, .inl (cI, 12, .inl fa0_1_7)), (ha0_1_11, .inr (9, [.int ia0_1_11_0, .int ia0_1_11_1, .int ia0_1_11_2, .int ia0_1_11_3, .int ia0_1_11_4])), (ha0_1, .inr (7, [.ref ha0_1_0, .ref ha0_1_1, .ref ha0_1_2, .int ia0_1_3, .ref ha0_1_4, .ref ha0_1_5, .ref ha0_1_6, .ref ha0_1_7, .int ia0_1_8, .int ia0_1_9, .int ia0_1_10, .ref ha0_1_11])), (ha0_8, .inl (cI, 7, .inl f23)), (ha0, .inr (11, [.ref ha0_0, .ref ha0_1, .int ia0_2, .ref ha0_3, .ref ha0_3_0, .ref ha0_5, .ref ha0_6, .int ia0_7, .ref ha0_8]))] H := hP
    have hD : va_D A [(ha0_0_0, .inl (cQ, 5, .inr (.inr (.inr (.inr ga0_0_0))))), (ha0_0_1, .inl (cI, 5, .inl fa0_0_1)), (ha0_0_2, .inl (cI, 5, .inl fa0_0_2)), (ha0_0_4, .inl (cI, 12, .inl fa0_0_4)), (ha0_0_5, .inl (cI, 12, .inl fa0_0_5)), (ha0_0_6, .inl (cI, 12, .inl fa0_0_6)), (ha0_0_7, .inl (cI, 12, .inl fa0_0_7)), (ha0_0_11, .inr (9, [.int ia0_0_11_0, .int ia0_0_11_1, .int ia0_0_11_2, .int ia0_0_11_3, .int ia0_0_11_4])), (ha0_0, .inr (7, [.ref ha0_0_0, .ref ha0_0_1, .ref ha0_0_2, .int ia0_0_3, .ref ha0_0_4, .ref ha0_0_5, .ref ha0_0_6, .ref ha0_0_7, .int ia0_0_8, .int ia0_0_9, .int ia0_0_10, .ref ha0_0_11])), (ha0_1_0, .inl (cQ, 5, .inr (.inr (.inr (.inr ga0_1_0))))), (ha0_1_1, .inl (cI, 5, .inl fa0_1_1)), (ha0_1_2, .inl (cI, 5, .inl fa0_1_2)), (ha0_1_4, .inl (cI, 12, .inl fa0_1_4)), (ha0_1_5, .inl (cI, 12, .inl fa0_1_5)), (ha0_1_6, .inl (cI, 12, .inl fa0_1_6)), (ha0_1_7, .inl (cI, 12, .inl fa0_1_7)), (ha0_1_11, .inr (9, [.int ia0_1_11_0, .int ia0_1_11_1, .int ia0_1_11_2, .int ia0_1_11_3, .int ia0_1_11_4])), (ha0_1, .inr (7, [.ref ha0_1_0, .ref ha0_1_1, .ref ha0_1_2, .int ia0_1_3, .ref ha0_1_4, .ref ha0_1_5, .ref ha0_1_6, .ref ha0_1_7, .int ia0_1_8, .int ia0_1_9, .int ia0_1_10, .ref ha0_1_11])), (ha0_8, .inl (cI, 7, .inl f23)), (ha0, .inr (11, [.ref ha0_0, .ref ha0_1, .int ia0_2, .ref ha0_3, .ref ha0_3_0, .ref ha0_5, .ref ha0_6, .int ia0_7, .ref ha0_8]))] := hD
    obtain ⟨hy21r, hy21po⟩ := hpo
    obtain ⟨hy21l, hy21h⟩ := hy21r
    have hP9 := hP.sub (ws' := [(ha0_0_0, .inl (cQ, 5, .inr (.inr (.inr (.inr ga0_0_0))))), (ha0_0_1, .inl (cI, 5, .inl fa0_0_1)), (ha0_0_2, .inl (cI, 5, .inl fa0_0_2)), (ha0_0_4, .inl (cI, 12, .inl fa0_0_4)), (ha0_0_5, .inl (cI, 12, .inl fa0_0_5)), (ha0_0_6, .inl (cI, 12, .inl fa0_0_6)), (ha0_0_7, .inl (cI, 12, .inl fa0_0_7)), (ha0_0_11, .inr (9, [.int ia0_0_11_0, .int ia0_0_11_1, .int ia0_0_11_2, .int ia0_0_11_3, .int ia0_0_11_4])), (ha0_0, .inr (7, [.ref ha0_0_0, .ref ha0_0_1, .ref ha0_0_2, .int ia0_0_3, .ref ha0_0_4, .ref ha0_0_5, .ref ha0_0_6, .ref ha0_0_7, .int ia0_0_8, .int ia0_0_9, .int ia0_0_10, .ref ha0_0_11])), (ha0_1_0, .inl (cQ, 5, .inr (.inr (.inr (.inr ga0_1_0))))), (ha0_1_1, .inl (cI, 5, .inl fa0_1_1)), (ha0_1_2, .inl (cI, 5, .inl fa0_1_2)), (ha0_1_4, .inl (cI, 12, .inl fa0_1_4)), (ha0_1_5, .inl (cI, 12, .inl fa0_1_5)), (ha0_1_6, .inl (cI, 12, .inl fa0_1_6)), (ha0_1_7, .inl (cI, 12, .inl fa0_1_7)), (ha0_1_11, .inr (9, [.int ia0_1_11_0, .int ia0_1_11_1, .int ia0_1_11_2, .int ia0_1_11_3, .int ia0_1_11_4])), (ha0_1, .inr (7, [.ref ha0_1_0, .ref ha0_1_1, .ref ha0_1_2, .int ia0_1_3, .ref ha0_1_4, .ref ha0_1_5, .ref ha0_1_6, .ref ha0_1_7, .int ia0_1_8, .int ia0_1_9, .int ia0_1_10, .ref ha0_1_11])), (ha0_8, .inl (cI, 7, .inl f23)), (ha0, .inr (11, [.ref ha0_0, .ref ha0_1, .int ia0_2, .ref ha0_3, .ref ha0_3_0, .ref ha0_5, .ref ha0_6, .int ia0_7, .ref ha0_8]))]) [0, 1, 2, 3, 4, 5, 6, 7, 8, 9, 10, 11, 12, 13, 14, 15, 16, 17, 18, 19] rfl
    have hD9 := hD.sub (ws' := [(ha0_0_0, .inl (cQ, 5, .inr (.inr (.inr (.inr ga0_0_0))))), (ha0_0_1, .inl (cI, 5, .inl fa0_0_1)), (ha0_0_2, .inl (cI, 5, .inl fa0_0_2)), (ha0_0_4, .inl (cI, 12, .inl fa0_0_4)), (ha0_0_5, .inl (cI, 12, .inl fa0_0_5)), (ha0_0_6, .inl (cI, 12, .inl fa0_0_6)), (ha0_0_7, .inl (cI, 12, .inl fa0_0_7)), (ha0_0_11, .inr (9, [.int ia0_0_11_0, .int ia0_0_11_1, .int ia0_0_11_2, .int ia0_0_11_3, .int ia0_0_11_4])), (ha0_0, .inr (7, [.ref ha0_0_0, .ref ha0_0_1, .ref ha0_0_2, .int ia0_0_3, .ref ha0_0_4, .ref ha0_0_5, .ref ha0_0_6, .ref ha0_0_7, .int ia0_0_8, .int ia0_0_9, .int ia0_0_10, .ref ha0_0_11])), (ha0_1_0, .inl (cQ, 5, .inr (.inr (.inr (.inr ga0_1_0))))), (ha0_1_1, .inl (cI, 5, .inl fa0_1_1)), (ha0_1_2, .inl (cI, 5, .inl fa0_1_2)), (ha0_1_4, .inl (cI, 12, .inl fa0_1_4)), (ha0_1_5, .inl (cI, 12, .inl fa0_1_5)), (ha0_1_6, .inl (cI, 12, .inl fa0_1_6)), (ha0_1_7, .inl (cI, 12, .inl fa0_1_7)), (ha0_1_11, .inr (9, [.int ia0_1_11_0, .int ia0_1_11_1, .int ia0_1_11_2, .int ia0_1_11_3, .int ia0_1_11_4])), (ha0_1, .inr (7, [.ref ha0_1_0, .ref ha0_1_1, .ref ha0_1_2, .int ia0_1_3, .ref ha0_1_4, .ref ha0_1_5, .ref ha0_1_6, .ref ha0_1_7, .int ia0_1_8, .int ia0_1_9, .int ia0_1_10, .ref ha0_1_11])), (ha0_8, .inl (cI, 7, .inl f23)), (ha0, .inr (11, [.ref ha0_0, .ref ha0_1, .int ia0_2, .ref ha0_3, .ref ha0_3_0, .ref ha0_5, .ref ha0_6, .int ia0_7, .ref ha0_8]))]) [0, 1, 2, 3, 4, 5, 6, 7, 8, 9, 10, 11, 12, 13, 14, 15, 16, 17, 18, 19] (by decide) rfl
    have hpo : (zRsC ia0_2 ia0_0_3 ia0_0_9 ia0_0_10 ia0_1_3 ia0_1_9 ia0_1_10 fa0_0_1 fa0_0_7 fa0_1_1 fa0_1_7 (ia0_0_3 : Int32) (ia0_0_9 : Int32) (ia0_0_10 : Int32) (y21 : Int32) fa0_0_1 fa0_0_7) := by exact Or.inl ⟨by omega, by omega, rfl, rfl, rfl, rfl, rfl⟩
    exact W.iret (v := y21) hx hb hr (fun t ht hW => ⟨⟨y21, ((fun k => [ia0_0_11_0, ia0_0_11_1, ia0_0_11_2, ia0_0_11_3, ia0_0_11_4, ia0_0_3, ia0_0_8, ia0_0_9, ia0_0_10].getD k 0, fun k => [fa0_0_1, fa0_0_2, fa0_0_4, fa0_0_5, fa0_0_6, fa0_0_7, f23].getD k (fun _ => 0)), fun k => [ga0_0_0].getD k (fun _ => none)), rfl, (show (∀ i y, ga0_0_0 i = some y → PL y) ∧ (∀ k, 0 ≤ (fa0_0_6 k).toInt ∧ (fa0_0_6 k).toInt ≤ 4) ∧ (∀ k, (-48) ≤ (fa0_0_7 k).toInt ∧ (fa0_0_7 k).toInt ≤ 207) ∧ ((-2147483648) ≤ (ia0_0_11_0 : Int32).toInt ∧ (ia0_0_11_0 : Int32).toInt ≤ 2147483647) ∧ ((-2147483648) ≤ (ia0_0_11_1 : Int32).toInt ∧ (ia0_0_11_1 : Int32).toInt ≤ 2147483647) ∧ ((-2147483648) ≤ (ia0_0_11_2 : Int32).toInt ∧ (ia0_0_11_2 : Int32).toInt ≤ 2147483647) ∧ ((-2147483648) ≤ (ia0_0_11_3 : Int32).toInt ∧ (ia0_0_11_3 : Int32).toInt ≤ 2147483647) ∧ ((-2147483648) ≤ (ia0_0_11_4 : Int32).toInt ∧ (ia0_0_11_4 : Int32).toInt ≤ 2147483647) ∧ (0 ≤ (ia0_0_3 : Int32).toInt ∧ (ia0_0_3 : Int32).toInt ≤ 5) ∧ ((-2147483648) ≤ (ia0_0_8 : Int32).toInt ∧ (ia0_0_8 : Int32).toInt ≤ 2147483647) ∧ (0 ≤ (ia0_0_9 : Int32).toInt ∧ (ia0_0_9 : Int32).toInt ≤ 12) ∧ ((-2147483648) ≤ (ia0_0_10 : Int32).toInt ∧ (ia0_0_10 : Int32).toInt ≤ 2147483647) ∧ ((-2147483648) ≤ (y21 : Int32).toInt ∧ (y21 : Int32).toInt ≤ 2147483647) ∧ ((zRsC ia0_2 ia0_0_3 ia0_0_9 ia0_0_10 ia0_1_3 ia0_1_9 ia0_1_10 fa0_0_1 fa0_0_7 fa0_1_1 fa0_1_7 (ia0_0_3 : Int32) (ia0_0_9 : Int32) (ia0_0_10 : Int32) (y21 : Int32) fa0_0_1 fa0_0_7)) from ⟨hPLga0_0_0, hBfa0_0_6, hBfa0_0_7, ⟨(by first | omega | decide | exact z_lo _ | exact z_hi _), (by first | omega | decide | exact z_lo _ | exact z_hi _)⟩, ⟨(by first | omega | decide | exact z_lo _ | exact z_hi _), (by first | omega | decide | exact z_lo _ | exact z_hi _)⟩, ⟨(by first | omega | decide | exact z_lo _ | exact z_hi _), (by first | omega | decide | exact z_lo _ | exact z_hi _)⟩, ⟨(by first | omega | decide | exact z_lo _ | exact z_hi _), (by first | omega | decide | exact z_lo _ | exact z_hi _)⟩, ⟨(by first | omega | decide | exact z_lo _ | exact z_hi _), (by first | omega | decide | exact z_lo _ | exact z_hi _)⟩, ⟨hia0_0_3l, hia0_0_3h⟩, ⟨(by first | omega | decide | exact z_lo _ | exact z_hi _), (by first | omega | decide | exact z_lo _ | exact z_hi _)⟩, ⟨hia0_0_9l, hia0_0_9h⟩, ⟨(by first | omega | decide | exact z_lo _ | exact z_hi _), (by first | omega | decide | exact z_lo _ | exact z_hi _)⟩, ⟨by first | omega | decide | exact z_lo _, by first | omega | decide | exact z_hi _⟩, hpo⟩), by rw [ht]; exact hP9, hD9⟩, hS.F ht⟩) hS.2.2 dX11_restore_13
theorem dX4_bringLine_0 : decode cX4_bringLine 0 = .ok (.aload_n 0, 1) := by decide +kernel
theorem dX4_bringLine_1 : decode cX4_bringLine 1 = .ok (.iload_n 2, 1) := by decide +kernel
theorem dX4_bringLine_2 : decode cX4_bringLine 2 = .ok (.iconst 2, 1) := by decide +kernel
theorem dX4_bringLine_3 : decode cX4_bringLine 3 = .ok (.iadd, 1) := by decide +kernel
theorem dX4_bringLine_4 : decode cX4_bringLine 4 = .ok (.invokevirtual 64, 3) := by decide +kernel
theorem dX4_bringLine_7 : decode cX4_bringLine 7 = .ok (.istore_n 3, 1) := by decide +kernel
theorem dX4_bringLine_8 : decode cX4_bringLine 8 = .ok (.iconst 0, 1) := by decide +kernel
theorem dX4_bringLine_9 : decode cX4_bringLine 9 = .ok (.istore 4, 2) := by decide +kernel
theorem dX4_bringLine_11 : decode cX4_bringLine 11 = .ok (.iconst 0, 1) := by decide +kernel
theorem dX4_bringLine_12 : decode cX4_bringLine 12 = .ok (.istore 5, 2) := by decide +kernel
theorem dX4_bringLine_14 : decode cX4_bringLine 14 = .ok (.iload 5, 2) := by decide +kernel
theorem dX4_bringLine_16 : decode cX4_bringLine 16 = .ok (.iload_n 3, 1) := by decide +kernel
theorem dX4_bringLine_17 : decode cX4_bringLine 17 = .ok (.if_icmp .ge 29, 3) := by decide +kernel
theorem dX4_bringLine_20 : decode cX4_bringLine 20 = .ok (.iload 4, 2) := by decide +kernel
theorem dX4_bringLine_22 : decode cX4_bringLine 22 = .ok (.iconst 5, 1) := by decide +kernel
theorem dX4_bringLine_23 : decode cX4_bringLine 23 = .ok (.ishl, 1) := by decide +kernel
theorem dX4_bringLine_24 : decode cX4_bringLine 24 = .ok (.aload_n 0, 1) := by decide +kernel
theorem dX4_bringLine_25 : decode cX4_bringLine 25 = .ok (.iload_n 2, 1) := by decide +kernel
theorem dX4_bringLine_26 : decode cX4_bringLine 26 = .ok (.iconst 2, 1) := by decide +kernel
theorem dX4_bringLine_27 : decode cX4_bringLine 27 = .ok (.iadd, 1) := by decide +kernel
theorem dX4_bringLine_28 : decode cX4_bringLine 28 = .ok (.iload 5, 2) := by decide +kernel
theorem dX4_bringLine_30 : decode cX4_bringLine 30 = .ok (.iadd, 1) := by decide +kernel
theorem dX4_bringLine_31 : decode cX4_bringLine 31 = .ok (.invokevirtual 19, 3) := by decide +kernel
theorem dX4_bringLine_34 : decode cX4_bringLine 34 = .ok (.bipush 97, 2) := by decide +kernel
theorem dX4_bringLine_36 : decode cX4_bringLine 36 = .ok (.isub, 1) := by decide +kernel
theorem dX4_bringLine_37 : decode cX4_bringLine 37 = .ok (.ior, 1) := by decide +kernel
theorem dX4_bringLine_38 : decode cX4_bringLine 38 = .ok (.istore 4, 2) := by decide +kernel
theorem dX4_bringLine_40 : decode cX4_bringLine 40 = .ok (.iinc 5 1, 3) := by decide +kernel
theorem dX4_bringLine_43 : decode cX4_bringLine 43 = .ok (.goto (-29), 3) := by decide +kernel
theorem dX4_bringLine_46 : decode cX4_bringLine 46 = .ok (.iload_n 2, 1) := by decide +kernel
theorem dX4_bringLine_47 : decode cX4_bringLine 47 = .ok (.iconst 2, 1) := by decide +kernel
theorem dX4_bringLine_48 : decode cX4_bringLine 48 = .ok (.iadd, 1) := by decide +kernel
theorem dX4_bringLine_49 : decode cX4_bringLine 49 = .ok (.iload_n 3, 1) := by decide +kernel
theorem dX4_bringLine_50 : decode cX4_bringLine 50 = .ok (.iadd, 1) := by decide +kernel
theorem dX4_bringLine_51 : decode cX4_bringLine 51 = .ok (.istore 5, 2) := by decide +kernel
theorem dX4_bringLine_53 : decode cX4_bringLine 53 = .ok (.aload_n 1, 1) := by decide +kernel
theorem dX4_bringLine_54 : decode cX4_bringLine 54 = .ok (.aload_n 0, 1) := by decide +kernel
theorem dX4_bringLine_55 : decode cX4_bringLine 55 = .ok (.iload_n 2, 1) := by decide +kernel
theorem dX4_bringLine_56 : decode cX4_bringLine 56 = .ok (.iconst 1, 1) := by decide +kernel
theorem dX4_bringLine_57 : decode cX4_bringLine 57 = .ok (.iadd, 1) := by decide +kernel
theorem dX4_bringLine_58 : decode cX4_bringLine 58 = .ok (.invokevirtual 61, 3) := by decide +kernel
theorem dX4_bringLine_61 : decode cX4_bringLine 61 = .ok (.iload 4, 2) := by decide +kernel
theorem dX4_bringLine_63 : decode cX4_bringLine 63 = .ok (.iload_n 3, 1) := by decide +kernel
theorem dX4_bringLine_64 : decode cX4_bringLine 64 = .ok (.aload_n 0, 1) := by decide +kernel
theorem dX4_bringLine_65 : decode cX4_bringLine 65 = .ok (.iload 5, 2) := by decide +kernel
theorem dX4_bringLine_67 : decode cX4_bringLine 67 = .ok (.invokevirtual 61, 3) := by decide +kernel
theorem dX4_bringLine_70 : decode cX4_bringLine 70 = .ok (.aload_n 0, 1) := by decide +kernel
theorem dX4_bringLine_71 : decode cX4_bringLine 71 = .ok (.iload 5, 2) := by decide +kernel
theorem dX4_bringLine_73 : decode cX4_bringLine 73 = .ok (.iconst 1, 1) := by decide +kernel
theorem dX4_bringLine_74 : decode cX4_bringLine 74 = .ok (.iadd, 1) := by decide +kernel
theorem dX4_bringLine_75 : decode cX4_bringLine 75 = .ok (.invokevirtual 19, 3) := by decide +kernel
theorem dX4_bringLine_78 : decode cX4_bringLine 78 = .ok (.bipush 33, 2) := by decide +kernel
theorem dX4_bringLine_80 : decode cX4_bringLine 80 = .ok (.if_icmp .ne 7, 3) := by decide +kernel
theorem dX4_bringLine_83 : decode cX4_bringLine 83 = .ok (.iconst 1, 1) := by decide +kernel
theorem dX4_bringLine_84 : decode cX4_bringLine 84 = .ok (.goto 4, 3) := by decide +kernel
theorem dX4_bringLine_87 : decode cX4_bringLine 87 = .ok (.iconst 0, 1) := by decide +kernel
theorem dX4_bringLine_88 : decode cX4_bringLine 88 = .ok (.invokevirtual 79, 3) := by decide +kernel
theorem dX4_bringLine_91 : decode cX4_bringLine 91 = .ok (.return_, 1) := by decide +kernel
noncomputable def voX4_bringLine : List Cond := [.methodLink RX4 64 yX4_wordsBehind, .instanceMethod yX4_wordsBehind, .selects RX4 yX4_wordsBehind yX4_wordsBehind, .initialized RX4, .methodLink RX4 61 yX4_digit, .instanceMethod yX4_digit, .selects RX4 yX4_digit yX4_digit, .methodLink RX4 19 yX4_at, .instanceMethod yX4_at, .selects RX4 yX4_at yX4_at, .methodLink RX4 79 yX7_addLine, .instanceMethod yX7_addLine, .selects RX7 yX7_addLine yX7_addLine, .initialized RX7]
noncomputable def vsX4_bringLine : List Cond := .code yX4_bringLine cX4_bringLine 6 none :: (voX4_bringLine ++ (vsX4_wordsBehind ++ (vsX4_digit ++ (vsX4_at ++ (vsX7_addLine)))))
theorem zgX4_bringLine : zGd vsX4_bringLine := z_gdC rfl (z_gdA (z_gdO (by decide +kernel) : zGd voX4_bringLine) (z_gdA zgX4_wordsBehind (z_gdA zgX4_digit (z_gdA zgX4_at (zgX7_addLine)))))
theorem gw_X4_bringLine_X4_wordsBehind : GoodIn vsX4_bringLine vsX4_wordsBehind := z_gdI (fun _ h => List.mem_cons_of_mem _ (List.mem_append_right _ (List.mem_append_left _ h))) zgX4_wordsBehind
set_option maxRecDepth 20000 in
theorem gv_X4_bringLine_X4_wordsBehind_64 : GoodIn vsX4_bringLine (wsV RX4 64 RX4 yX4_wordsBehind vsX4_wordsBehind) := goodIn_app (goodIn_of _ (by decide +kernel)) gw_X4_bringLine_X4_wordsBehind
theorem gw_X4_bringLine_X4_digit : GoodIn vsX4_bringLine vsX4_digit := z_gdI (fun _ h => List.mem_cons_of_mem _ (List.mem_append_right _ (List.mem_append_right _ (List.mem_append_left _ h)))) zgX4_digit
set_option maxRecDepth 20000 in
theorem gv_X4_bringLine_X4_digit_61 : GoodIn vsX4_bringLine (wsV RX4 61 RX4 yX4_digit vsX4_digit) := goodIn_app (goodIn_of _ (by decide +kernel)) gw_X4_bringLine_X4_digit
theorem gw_X4_bringLine_X4_at : GoodIn vsX4_bringLine vsX4_at := z_gdI (fun _ h => List.mem_cons_of_mem _ (List.mem_append_right _ (List.mem_append_right _ (List.mem_append_right _ (List.mem_append_left _ h))))) zgX4_at
set_option maxRecDepth 20000 in
theorem gv_X4_bringLine_X4_at_19 : GoodIn vsX4_bringLine (wsV RX4 19 RX4 yX4_at vsX4_at) := goodIn_app (goodIn_of _ (by decide +kernel)) gw_X4_bringLine_X4_at
theorem gw_X4_bringLine_X7_addLine : GoodIn vsX4_bringLine vsX7_addLine := z_gdI (fun _ h => List.mem_cons_of_mem _ (List.mem_append_right _ (List.mem_append_right _ (List.mem_append_right _ (List.mem_append_right _ (h)))))) zgX7_addLine
set_option maxRecDepth 20000 in
theorem gv_X4_bringLine_X7_addLine_79 : GoodIn vsX4_bringLine (wsV RX4 79 RX7 yX7_addLine vsX7_addLine) := goodIn_app (goodIn_of _ (by decide +kernel)) gw_X4_bringLine_X7_addLine
set_option maxHeartbeats 4000000 in
set_option maxRecDepth 100000 in
theorem wX4_bringLine (l : Launch) (dC : Nat → ClassId) (dI : Nat → Nat → Nat) (cI cQ : ClassId) (ha0 ha1 ha0_0 ha1_2 ha1_4 ha1_5 ha1_6 ha1_7 ha1_0 ha1_1 ha1_11 : Nat) (fa0_0 : Nat → Int32) (hBfa0_0 : ∀ k, 0 ≤ (fa0_0 k).toInt ∧ (fa0_0 k).toInt ≤ 255) (ia0_1 : Int32) (hia0_1l : 0 ≤ ia0_1.toInt) (hia0_1h : ia0_1.toInt ≤ 80) (fa1_2 : Nat → Int32) (fa1_4 : Nat → Int32) (fa1_5 : Nat → Int32) (fa1_6 : Nat → Int32) (hBfa1_6 : ∀ k, 0 ≤ (fa1_6 k).toInt ∧ (fa1_6 k).toInt ≤ 4) (fa1_7 : Nat → Int32) (hBfa1_7 : ∀ k, (-48) ≤ (fa1_7 k).toInt ∧ (fa1_7 k).toInt ≤ 207) (ia1_3 : Int32) (hia1_3l : 0 ≤ ia1_3.toInt) (hia1_3h : ia1_3.toInt ≤ 5) (ia1_8 : Int32) (ia1_9 : Int32) (hia1_9l : 0 ≤ ia1_9.toInt) (hia1_9h : ia1_9.toInt ≤ 12) (ia1_10 : Int32) (p2 : Int32) (hp2l : 0 ≤ p2.toInt) (hp2h : p2.toInt ≤ 80) (sz : Nat) : Met l yX4_bringLine vsX4_bringLine ({ frames := 3, cells := 0, slots := 0, locals := 64 }) (va_Pc [.ref ha0, .ref ha1, .int p2] (zB dC dI cI cQ [(ha0_0, .inl (cI, 80, .inl fa0_0)), (ha0, .inr (4, [.ref ha0_0, .int ia0_1])), (ha1_2, .inl (cI, 5, .inl fa1_2)), (ha1_4, .inl (cI, 12, .inl fa1_4)), (ha1_5, .inl (cI, 12, .inl fa1_5)), (ha1_6, .inl (cI, 12, .inl fa1_6)), (ha1_7, .inl (cI, 12, .inl fa1_7)), (ha1, .inr (7, [.ref ha1_0, .ref ha1_1, .ref ha1_2, .int ia1_3, .ref ha1_4, .ref ha1_5, .ref ha1_6, .ref ha1_7, .int ia1_8, .int ia1_9, .int ia1_10, .ref ha1_11]))] sz)) (zWv dC dI (va_A [(ha0_0, .inl (cI, 80, .inl fa0_0)), (ha0, .inr (4, [.ref ha0_0, .int ia0_1])), (ha1_2, .inl (cI, 5, .inl fa1_2)), (ha1_4, .inl (cI, 12, .inl fa1_4)), (ha1_5, .inl (cI, 12, .inl fa1_5)), (ha1_6, .inl (cI, 12, .inl fa1_6)), (ha1_7, .inl (cI, 12, .inl fa1_7)), (ha1, .inr (7, [.ref ha1_0, .ref ha1_1, .ref ha1_2, .int ia1_3, .ref ha1_4, .ref ha1_5, .ref ha1_6, .ref ha1_7, .int ia1_8, .int ia1_9, .int ia1_10, .ref ha1_11]))] sz) (fun u => [(ha0_0, .inl (cI, 80, .inl fa0_0)), (ha0, .inr (4, [.ref ha0_0, .int ia0_1])), (ha1_2, .inl (cI, 5, .inl (u.2 0))), (ha1_4, .inl (cI, 12, .inl (u.2 1))), (ha1_5, .inl (cI, 12, .inl (u.2 2))), (ha1_6, .inl (cI, 12, .inl (u.2 3))), (ha1_7, .inl (cI, 12, .inl (u.2 4))), (ha1, .inr (7, [.ref ha1_0, .ref ha1_1, .ref ha1_2, .int ia1_3, .ref ha1_4, .ref ha1_5, .ref ha1_6, .ref ha1_7, .int (u.1 0), .int (u.1 1), .int ia1_10, .ref ha1_11]))]) (fun u => (∀ k, 0 ≤ ((u.2 3) k).toInt ∧ ((u.2 3) k).toInt ≤ 4) ∧ (∀ k, (-48) ≤ ((u.2 4) k).toInt ∧ ((u.2 4) k).toInt ≤ 207) ∧ ((-2147483648) ≤ (u.1 0).toInt ∧ (u.1 0).toInt ≤ 2147483647) ∧ (0 ≤ (u.1 1).toInt ∧ (u.1 1).toInt ≤ 12) ∧ ((ia1_9.toInt < 12 → 0 ≤ zAt fa0_0 ia0_1.toInt (p2.toInt + 1) - 48 → zAt fa0_0 ia0_1.toInt (p2.toInt + 1) - 48 < ia1_3.toInt → (u.1 1).toInt = ia1_9.toInt + 1 ∧ (u.2 4) = zUp fa1_7 ia1_9.toNatClampNeg (zIo (zAt fa0_0 ia0_1.toInt (p2.toInt + 2 + zWd fa0_0 ia0_1.toInt (p2.toInt + 2)) - 48)))))) 0 0 (va_A [(ha0_0, .inl (cI, 80, .inl fa0_0)), (ha0, .inr (4, [.ref ha0_0, .int ia0_1])), (ha1_2, .inl (cI, 5, .inl fa1_2)), (ha1_4, .inl (cI, 12, .inl fa1_4)), (ha1_5, .inl (cI, 12, .inl fa1_5)), (ha1_6, .inl (cI, 12, .inl fa1_6)), (ha1_7, .inl (cI, 12, .inl fa1_7)), (ha1, .inr (7, [.ref ha1_0, .ref ha1_1, .ref ha1_2, .int ia1_3, .ref ha1_4, .ref ha1_5, .ref ha1_6, .ref ha1_7, .int ia1_8, .int ia1_9, .int ia1_10, .ref ha1_11]))] sz) := by
  refine Met.ofW (cc := cX4_bringLine) (maxL := 6) (ret := none) (by decide) rfl ?_
  intro p e s m args below meth c s₁ B hml hv
  obtain ⟨rfl, hsz, hP, hZ, hD0⟩ := hv
  obtain ⟨hK, hAO, hN⟩ := id hZ
  have hx := B.exec
  have hb := B.bytes
  have hr := B.returns
  have hts := atoms_spec (ws := vsX4_bringLine) B.pre
  have hown : s.vm.findClass RX4 = some m.cls := findClass_of_methodNamed B.named
  have hlocks := B.notSynchronized
  subst hsz
  have hD := hD0.self (sz := s.heap.size)
  generalize hAe : va_A [(ha0_0, .inl (cI, 80, .inl fa0_0)), (ha0, .inr (4, [.ref ha0_0, .int ia0_1])), (ha1_2, .inl (cI, 5, .inl fa1_2)), (ha1_4, .inl (cI, 12, .inl fa1_4)), (ha1_5, .inl (cI, 12, .inl fa1_5)), (ha1_6, .inl (cI, 12, .inl fa1_6)), (ha1_7, .inl (cI, 12, .inl fa1_7)), (ha1, .inr (7, [.ref ha1_0, .ref ha1_1, .ref ha1_2, .int ia1_3, .ref ha1_4, .ref ha1_5, .ref ha1_6, .ref ha1_7, .int ia1_8, .int ia1_9, .int ia1_10, .ref ha1_11]))] s.heap.size = A at hD ⊢
  have hA : ∀ q : Nat, s.heap.size ≤ q → A q := fun q h => by rw [← hAe]; exact Or.inr h
  have hS : va_S A s.heap s.heap [] := va_S.rf
  have hP : va_P (dC, dI) vwCl [(ha0_0, .inl (cI, 80, .inl fa0_0)), (ha0, .inr (4, [.ref ha0_0, .int ia0_1])), (ha1_2, .inl (cI, 5, .inl fa1_2)), (ha1_4, .inl (cI, 12, .inl fa1_4)), (ha1_5, .inl (cI, 12, .inl fa1_5)), (ha1_6, .inl (cI, 12, .inl fa1_6)), (ha1_7, .inl (cI, 12, .inl fa1_7)), (ha1, .inr (7, [.ref ha1_0, .ref ha1_1, .ref ha1_2, .int ia1_3, .ref ha1_4, .ref ha1_5, .ref ha1_6, .ref ha1_7, .int ia1_8, .int ia1_9, .int ia1_10, .ref ha1_11]))] s.heap := hP
  have hl := lv_entry ([.ref ha0, .ref ha1, .int p2]) (n := 6) (Nat.le_of_ble_eq_true rfl)
  rw [lg_entry_eq]
  generalize (lg_sl ([.ref ha0, .ref ha1, .int p2]) ++ List.replicate (6 - (lg_sl ([.ref ha0, .ref ha1, .int p2])).length) Slot.unset).toArray = ls at hl ⊢
  have hl : lv_has ls 6 [(0, .ref ha0), (1, .ref ha1), (2, .int p2)] := hl
  refine lv_aload_n hx hb dX4_bringLine_0 rfl (lv_at hl 0 rfl) ?_
  refine lv_iload_n hx hb dX4_bringLine_1 rfl (lv_at hl 2 rfl) ?_
  refine lv_iconst (v := 2) hx hb dX4_bringLine_2 (by decide) ?_
  refine lv_iadd hx hb dX4_bringLine_3 ?_
  refine lv_topi (fun y1 ey1 => ?_)
  have hy1 : y1.toInt = p2.toInt + 2 := by rw [ey1]; exact z_add rfl (by decide) (by omega) (by omega)
  refine z_rdi (va_runV (As := [.int y1]) (rest := []) ⟨hx, hb, hml, hown, hts⟩ (rX4_wordsBehind l dC dI cI cQ ha0 ha0_0 fa0_0 hBfa0_0 ia0_1 hia0_1l hia0_1h y1 (by first | omega | decide | exact z_lo _ | exact z_hi _) (by first | omega | decide | exact z_lo _ | exact z_hi _)) (cwV 1 hts gv_X4_bringLine_X4_wordsBehind_64 rfl rfl rfl (by decide +kernel) ⟨Nat.le_of_ble_eq_true rfl, Nat.le_of_ble_eq_true rfl⟩) ⟨z_blindR, va_recv hK hP (ci := 4) (q0 := 1) rfl rfl, z_preR hZ hP [0, 1] rfl⟩ rfl rfl hl.1 rfl (lv_room (Nat.le_of_ble_eq_true rfl)) dX4_bringLine_4 ⟨Nat.le_of_ble_eq_true rfl, Nat.le_of_ble_eq_true rfl⟩) (fun y2 hy2 => ?_)
  obtain ⟨hy2_0, hy2_1, hy2_2⟩ := hy2
  refine lv_istore_n (lv' := [(3, .int y2), (0, .ref ha0), (1, .ref ha1), (2, .int p2)]) hx hb dX4_bringLine_7 rfl hl (by decide) rfl (fun ls hl => ?_)
  refine lv_iconst (v := 0) hx hb dX4_bringLine_8 (by decide) ?_
  refine lv_istore (lv' := [(4, .int 0), (3, .int y2), (0, .ref ha0), (1, .ref ha1), (2, .int p2)]) hx hb dX4_bringLine_9 hl (by decide) rfl (fun ls hl => ?_)
  refine lv_iconst (v := 0) hx hb dX4_bringLine_11 (by decide) ?_
  refine lv_istore (lv' := [(5, .int 0), (4, .int 0), (3, .int y2), (0, .ref ha0), (1, .ref ha1), (2, .int p2)]) hx hb dX4_bringLine_12 hl (by decide) rfl (fun ls hl => ?_)
  have hL149 : ∀ (n : Nat) (v3 : Int32) (v4 : Int32) (H : Heap) (locs : List Loc) (ls : Array Slot), 0 ≤ v3.toInt → v3.toInt ≤ 4 → (4 - v3.toInt).toNat < n → lv_has ls 6 [(5, .int v3), (4, .int v4), (3, .int y2), (0, .ref ha0), (1, .ref ha1), (2, .int p2)] → va_P (dC, dI) vwCl [(ha0_0, .inl (cI, 80, .inl fa0_0)), (ha0, .inr (4, [.ref ha0_0, .int ia0_1])), (ha1_2, .inl (cI, 5, .inl fa1_2)), (ha1_4, .inl (cI, 12, .inl fa1_4)), (ha1_5, .inl (cI, 12, .inl fa1_5)), (ha1_6, .inl (cI, 12, .inl fa1_6)), (ha1_7, .inl (cI, 12, .inl fa1_7)), (ha1, .inr (7, [.ref ha1_0, .ref ha1_1, .ref ha1_2, .int ia1_3, .ref ha1_4, .ref ha1_5, .ref ha1_6, .ref ha1_7, .int ia1_8, .int ia1_9, .int ia1_10, .ref ha1_11]))] H → va_D A [(ha0_0, .inl (cI, 80, .inl fa0_0)), (ha0, .inr (4, [.ref ha0_0, .int ia0_1])), (ha1_2, .inl (cI, 5, .inl fa1_2)), (ha1_4, .inl (cI, 12, .inl fa1_4)), (ha1_5, .inl (cI, 12, .inl fa1_5)), (ha1_6, .inl (cI, 12, .inl fa1_6)), (ha1_7, .inl (cI, 12, .inl fa1_7)), (ha1, .inr (7, [.ref ha1_0, .ref ha1_1, .ref ha1_2, .int ia1_3, .ref ha1_4, .ref ha1_5, .ref ha1_6, .ref ha1_7, .int ia1_8, .int ia1_9, .int ia1_10, .ref ha1_11]))] → va_S A s.heap H locs → W p l e (headSpec vsX4_bringLine ({ frames := 3, cells := 0, slots := 0, locals := 64 })).room s m ([.ref ha0, .ref ha1, .int p2] : List Value).toArray below meth c H locs 0 0 (MQ below (zWv dC dI (A) (fun u => [(ha0_0, .inl (cI, 80, .inl fa0_0)), (ha0, .inr (4, [.ref ha0_0, .int ia0_1])), (ha1_2, .inl (cI, 5, .inl (u.2 0))), (ha1_4, .inl (cI, 12, .inl (u.2 1))), (ha1_5, .inl (cI, 12, .inl (u.2 2))), (ha1_6, .inl (cI, 12, .inl (u.2 3))), (ha1_7, .inl (cI, 12, .inl (u.2 4))), (ha1, .inr (7, [.ref ha1_0, .ref ha1_1, .ref ha1_2, .int ia1_3, .ref ha1_4, .ref ha1_5, .ref ha1_6, .ref ha1_7, .int (u.1 0), .int (u.1 1), .int ia1_10, .ref ha1_11]))]) (fun u => (∀ k, 0 ≤ ((u.2 3) k).toInt ∧ ((u.2 3) k).toInt ≤ 4) ∧ (∀ k, (-48) ≤ ((u.2 4) k).toInt ∧ ((u.2 4) k).toInt ≤ 207) ∧ ((-2147483648) ≤ (u.1 0).toInt ∧ (u.1 0).toInt ≤ 2147483647) ∧ (0 ≤ (u.1 1).toInt ∧ (u.1 1).toInt ≤ 12) ∧ ((ia1_9.toInt < 12 → 0 ≤ zAt fa0_0 ia0_1.toInt (p2.toInt + 1) - 48 → zAt fa0_0 ia0_1.toInt (p2.toInt + 1) - 48 < ia1_3.toInt → (u.1 1).toInt = ia1_9.toInt + 1 ∧ (u.2 4) = zUp fa1_7 ia1_9.toNatClampNeg (zIo (zAt fa0_0 ia0_1.toInt (p2.toInt + 2 + zWd fa0_0 ia0_1.toInt (p2.toInt + 2)) - 48)))))) ([.ref ha0, .ref ha1, .int p2] : List Value).toArray s 0 0 A) (F0 m 14 ls []) := by
    intro n
    induction n with
    | zero =>
      intro v3 v4 H locs ls hi150_0 hi150_1 hi150_m hl hP hD hS
      exact absurd hi150_m (Nat.not_lt_zero _)
    | succ n ih =>
      intro v3 v4 H locs ls hi150_0 hi150_1 hi150_m hl hP hD hS
      have ih151 := ih
      refine lv_iload hx hb dX4_bringLine_14 (lv_at hl 0 rfl) ?_
      refine lv_iload_n hx hb dX4_bringLine_16 rfl (lv_at hl 2 rfl) ?_
      refine lv_icmp_ge (tgt := 46) hx hb dX4_bringLine_17 (by decide) (fun hc => ?_) (fun hc => ?_)
      · have q152 : y2.toInt ≤ v3.toInt := z_le rfl rfl hc
        refine lv_iload_n hx hb dX4_bringLine_46 rfl (lv_at hl 5 rfl) ?_
        refine lv_iconst (v := 2) hx hb dX4_bringLine_47 (by decide) ?_
        refine lv_iadd hx hb dX4_bringLine_48 ?_
        refine lv_topi (fun y153 ey153 => ?_)
        obtain rfl : y1 = y153 := ey1.trans ey153.symm
        refine lv_iload_n hx hb dX4_bringLine_49 rfl (lv_at hl 2 rfl) ?_
        refine lv_iadd hx hb dX4_bringLine_50 ?_
        refine lv_topi (fun y154 ey154 => ?_)
        have hy154 : y154.toInt = y1.toInt + y2.toInt := by rw [ey154]; exact z_add rfl rfl (by omega) (by omega)
        refine lv_istore (lv' := [(5, .int y154), (4, .int v4), (3, .int y2), (0, .ref ha0), (1, .ref ha1), (2, .int p2)]) hx hb dX4_bringLine_51 hl (by decide) rfl (fun ls hl => ?_)
        refine lv_aload_n hx hb dX4_bringLine_53 rfl (lv_at hl 4 rfl) ?_
        refine lv_aload_n hx hb dX4_bringLine_54 rfl (lv_at hl 3 rfl) ?_
        refine lv_iload_n hx hb dX4_bringLine_55 rfl (lv_at hl 5 rfl) ?_
        refine lv_iconst (v := 1) hx hb dX4_bringLine_56 (by decide) ?_
        refine lv_iadd hx hb dX4_bringLine_57 ?_
        refine lv_topi (fun y155 ey155 => ?_)
        have hy155 : y155.toInt = p2.toInt + 1 := by rw [ey155]; exact z_add rfl (by decide) (by omega) (by omega)
        refine z_rdi (va_runV (As := [.int y155]) (rest := [.ref ha1]) ⟨hx, hb, hml, hown, hts⟩ (rX4_digit l dC dI cI cQ ha0 ha0_0 fa0_0 hBfa0_0 ia0_1 hia0_1l hia0_1h y155) (cwV 1 hts gv_X4_bringLine_X4_digit_61 rfl rfl rfl (by decide +kernel) ⟨Nat.le_of_ble_eq_true rfl, Nat.le_of_ble_eq_true rfl⟩) ⟨z_blindR, va_recv hK hP (ci := 4) (q0 := 1) rfl rfl, z_preR hZ hP [0, 1] rfl⟩ rfl rfl hl.1 rfl (lv_room (Nat.le_of_ble_eq_true rfl)) dX4_bringLine_58 ⟨Nat.le_of_ble_eq_true rfl, Nat.le_of_ble_eq_true rfl⟩) (fun y156 hy156 => ?_)
        obtain ⟨hy156_0, hy156_1, hy156_2⟩ := hy156
        refine lv_iload hx hb dX4_bringLine_61 (lv_at hl 1 rfl) ?_
        refine lv_iload_n hx hb dX4_bringLine_63 rfl (lv_at hl 2 rfl) ?_
        refine lv_aload_n hx hb dX4_bringLine_64 rfl (lv_at hl 3 rfl) ?_
        refine lv_iload hx hb dX4_bringLine_65 (lv_at hl 0 rfl) ?_
        refine z_rdi (va_runV (As := [.int y154]) (rest := [.int y2, .int v4, .int y156, .ref ha1]) ⟨hx, hb, hml, hown, hts⟩ (rX4_digit l dC dI cI cQ ha0 ha0_0 fa0_0 hBfa0_0 ia0_1 hia0_1l hia0_1h y154) (cwV 1 hts gv_X4_bringLine_X4_digit_61 rfl rfl rfl (by decide +kernel) ⟨Nat.le_of_ble_eq_true rfl, Nat.le_of_ble_eq_true rfl⟩) ⟨z_blindR, va_recv hK hP (ci := 4) (q0 := 1) rfl rfl, z_preR hZ hP [0, 1] rfl⟩ rfl rfl hl.1 rfl (lv_room (Nat.le_of_ble_eq_true rfl)) dX4_bringLine_67 ⟨Nat.le_of_ble_eq_true rfl, Nat.le_of_ble_eq_true rfl⟩) (fun y157 hy157 => ?_)
        obtain ⟨hy157_0, hy157_1, hy157_2⟩ := hy157
        refine lv_aload_n hx hb dX4_bringLine_70 rfl (lv_at hl 3 rfl) ?_
        refine lv_iload hx hb dX4_bringLine_71 (lv_at hl 0 rfl) ?_
        refine lv_iconst (v := 1) hx hb dX4_bringLine_73 (by decide) ?_
        refine lv_iadd hx hb dX4_bringLine_74 ?_
        refine lv_topi (fun y158 ey158 => ?_)
        have hy158 : y158.toInt = y154.toInt + 1 := by rw [ey158]; exact z_add rfl (by decide) (by omega) (by omega)
        refine z_rdi (va_runV (As := [.int y158]) (rest := [.int y157, .int y2, .int v4, .int y156, .ref ha1]) ⟨hx, hb, hml, hown, hts⟩ (rX4_at l dC dI cI cQ ha0 ha0_0 fa0_0 hBfa0_0 ia0_1 hia0_1l hia0_1h y158) (cwV 1 hts gv_X4_bringLine_X4_at_19 rfl rfl rfl (by decide +kernel) ⟨Nat.le_of_ble_eq_true rfl, Nat.le_of_ble_eq_true rfl⟩) ⟨z_blindR, va_recv hK hP (ci := 4) (q0 := 1) rfl rfl, z_preR hZ hP [0, 1] rfl⟩ rfl rfl hl.1 rfl (lv_room (Nat.le_of_ble_eq_true rfl)) dX4_bringLine_75 ⟨Nat.le_of_ble_eq_true rfl, Nat.le_of_ble_eq_true rfl⟩) (fun y159 hy159 => ?_)
        obtain ⟨hy159_0, hy159_1, hy159_2⟩ := hy159
        refine lv_bipush (v := 33) hx hb dX4_bringLine_78 (by decide) ?_
        refine lv_icmp_ne (tgt := 87) hx hb dX4_bringLine_80 (by decide) (fun hc => ?_) (fun hc => ?_)
        · have q160 : y159.toInt ≠ 33 := z_ne rfl (by decide) hc
          refine lv_iconst (v := 0) hx hb dX4_bringLine_87 (by decide) ?_
          refine z_cwv (wc := [(ha1_2, .inl (cI, 5, .inl fa1_2)), (ha1_4, .inl (cI, 12, .inl fa1_4)), (ha1_5, .inl (cI, 12, .inl fa1_5)), (ha1_6, .inl (cI, 12, .inl fa1_6)), (ha1_7, .inl (cI, 12, .inl fa1_7)), (ha1, .inr (7, [.ref ha1_0, .ref ha1_1, .ref ha1_2, .int ia1_3, .ref ha1_4, .ref ha1_5, .ref ha1_6, .ref ha1_7, .int ia1_8, .int ia1_9, .int ia1_10, .ref ha1_11]))]) (wr := [(ha0_0, .inl (cI, 80, .inl fa0_0)), (ha0, .inr (4, [.ref ha0_0, .int ia0_1]))]) (w1 := fun u162 => [(ha1_2, .inl (cI, 5, .inl (u162.2 0))), (ha1_4, .inl (cI, 12, .inl (u162.2 1))), (ha1_5, .inl (cI, 12, .inl (u162.2 2))), (ha1_6, .inl (cI, 12, .inl (u162.2 3))), (ha1_7, .inl (cI, 12, .inl (u162.2 4))), (ha1, .inr (7, [.ref ha1_0, .ref ha1_1, .ref ha1_2, .int ia1_3, .ref ha1_4, .ref ha1_5, .ref ha1_6, .ref ha1_7, .int (u162.1 0), .int (u162.1 1), .int ia1_10, .ref ha1_11]))]) (va_runV (As := [.int y156, .int v4, .int y2, .int y157, .int 0]) (rest := []) ⟨hx, hb, hml, hown, hts⟩ (wX7_addLine l dC dI cI cQ ha1 ha1_2 ha1_4 ha1_5 ha1_6 ha1_7 ha1_0 ha1_1 ha1_11 fa1_2 fa1_4 fa1_5 fa1_6 hBfa1_6 fa1_7 hBfa1_7 ia1_3 hia1_3l hia1_3h ia1_8 ia1_9 hia1_9l hia1_9h ia1_10 y156 v4 y2 hy2_0 hy2_1 y157 hy157_0 hy157_1 0 (by decide) (by decide) H.size) (cwV 5 hts gv_X4_bringLine_X7_addLine_79 rfl rfl rfl (by decide +kernel) ⟨Nat.le_of_ble_eq_true rfl, Nat.le_of_ble_eq_true rfl⟩) ⟨z_blind, va_recv hK hP (ci := 7) (q0 := 7) rfl rfl, z_pre hZ hP hD [2, 3, 4, 5, 6, 7] rfl (by decide +kernel)⟩ rfl rfl hl.1 rfl (lv_room (Nat.le_of_ble_eq_true rfl)) dX4_bringLine_88 ⟨Nat.le_of_ble_eq_true rfl, Nat.le_of_ble_eq_true rfl⟩) hP hD hS hA [2, 3, 4, 5, 6, 7] [0, 1] rfl rfl (by decide +kernel) (by decide +kernel) (fun u162 H locs hpo hP hD hS => ?_)
          generalize hgf163 : u162.2 0 = f163 at hP hD hpo
          generalize hgf164 : u162.2 1 = f164 at hP hD hpo
          generalize hgf165 : u162.2 2 = f165 at hP hD hpo
          generalize hgf166 : u162.2 3 = f166 at hP hD hpo
          generalize hgf167 : u162.2 4 = f167 at hP hD hpo
          generalize hgw168 : u162.1 0 = w168 at hP hD hpo
          generalize hgw169 : u162.1 1 = w169 at hP hD hpo
          have hP : va_P (dC, dI) vwCl [(ha0_0, .inl (cI, 80, .inl fa0_0)), (ha0, .inr (4, [.ref ha0_0, .int ia0_1])), (ha1_2, .inl (cI, 5, .inl f163)), (ha1_4, .inl (cI, 12, .inl f164)), (ha1_5, .inl (cI, 12, .inl f165)), (ha1_6, .inl (cI, 12, .inl f166)), (ha1_7, .inl (cI, 12, .inl f167)), (ha1, .inr (7, [.ref ha1_0, .ref ha1_1, .ref ha1_2, .int ia1_3, .ref ha1_4, .ref ha1_5, .ref ha1_6, .ref ha1_7, .int w168, .int w169, .int ia1_10, .ref ha1_11]))] H := hP
          have hD : va_D A [(ha0_0, .inl (cI, 80, .inl fa0_0)), (ha0, .inr (4, [.ref ha0_0, .int ia0_1])), (ha1_2, .inl (cI, 5, .inl f163)), (ha1_4, .inl (cI, 12, .inl f164)), (ha1_5, .inl (cI, 12, .inl f165)), (ha1_6, .inl (cI, 12, .inl f166)), (ha1_7, .inl (cI, 12, .inl f167)), (ha1, .inr (7, [.ref ha1_0, .ref ha1_1, .ref ha1_2, .int ia1_3, .ref ha1_4, .ref ha1_5, .ref ha1_6, .ref ha1_7, .int w168, .int w169, .int ia1_10, .ref ha1_11]))] := hD
          obtain ⟨hBf166, hBf167, hw168p, hw169p, hy161po⟩ := hpo
          obtain ⟨hw168l, hw168h⟩ := hw168p
          obtain ⟨hw169l, hw169h⟩ := hw169p
          have hP9 := hP.sub (ws' := [(ha0_0, .inl (cI, 80, .inl fa0_0)), (ha0, .inr (4, [.ref ha0_0, .int ia0_1])), (ha1_2, .inl (cI, 5, .inl f163)), (ha1_4, .inl (cI, 12, .inl f164)), (ha1_5, .inl (cI, 12, .inl f165)), (ha1_6, .inl (cI, 12, .inl f166)), (ha1_7, .inl (cI, 12, .inl f167)), (ha1, .inr (7, [.ref ha1_0, .ref ha1_1, .ref ha1_2, .int ia1_3, .ref ha1_4, .ref ha1_5, .ref ha1_6, .ref ha1_7, .int w168, .int w169, .int ia1_10, .ref ha1_11]))]) [0, 1, 2, 3, 4, 5, 6, 7] rfl
          have hD9 := hD.sub (ws' := [(ha0_0, .inl (cI, 80, .inl fa0_0)), (ha0, .inr (4, [.ref ha0_0, .int ia0_1])), (ha1_2, .inl (cI, 5, .inl f163)), (ha1_4, .inl (cI, 12, .inl f164)), (ha1_5, .inl (cI, 12, .inl f165)), (ha1_6, .inl (cI, 12, .inl f166)), (ha1_7, .inl (cI, 12, .inl f167)), (ha1, .inr (7, [.ref ha1_0, .ref ha1_1, .ref ha1_2, .int ia1_3, .ref ha1_4, .ref ha1_5, .ref ha1_6, .ref ha1_7, .int w168, .int w169, .int ia1_10, .ref ha1_11]))]) [0, 1, 2, 3, 4, 5, 6, 7] (by decide) rfl
          have hpo : (ia1_9.toInt < 12 → 0 ≤ zAt fa0_0 ia0_1.toInt (p2.toInt + 1) - 48 → zAt fa0_0 ia0_1.toInt (p2.toInt + 1) - 48 < ia1_3.toInt → (w169 : Int32).toInt = ia1_9.toInt + 1 ∧ f167 = zUp fa1_7 ia1_9.toNatClampNeg (zIo (zAt fa0_0 ia0_1.toInt (p2.toInt + 2 + zWd fa0_0 ia0_1.toInt (p2.toInt + 2)) - 48))) := by have q1 := z_rwA (k := p2.toInt + 1) hy156_2 (by omega); have q2 := z_ilC (a := p2.toInt) hy2_2 (by omega) hy157_2 (by omega); exact fun c1 c2 c3 => by rw [← z_io q2]; exact hy161po c1 (by omega) (by omega)
          exact W.vret hx hb hr (fun t ht hW => ⟨⟨(fun k => [w168, w169].getD k 0, fun k => [f163, f164, f165, f166, f167].getD k (fun _ => 0)), rfl, (show (∀ k, 0 ≤ (f166 k).toInt ∧ (f166 k).toInt ≤ 4) ∧ (∀ k, (-48) ≤ (f167 k).toInt ∧ (f167 k).toInt ≤ 207) ∧ ((-2147483648) ≤ (w168 : Int32).toInt ∧ (w168 : Int32).toInt ≤ 2147483647) ∧ (0 ≤ (w169 : Int32).toInt ∧ (w169 : Int32).toInt ≤ 12) ∧ ((ia1_9.toInt < 12 → 0 ≤ zAt fa0_0 ia0_1.toInt (p2.toInt + 1) - 48 → zAt fa0_0 ia0_1.toInt (p2.toInt + 1) - 48 < ia1_3.toInt → (w169 : Int32).toInt = ia1_9.toInt + 1 ∧ f167 = zUp fa1_7 ia1_9.toNatClampNeg (zIo (zAt fa0_0 ia0_1.toInt (p2.toInt + 2 + zWd fa0_0 ia0_1.toInt (p2.toInt + 2)) - 48)))) from ⟨hBf166, hBf167, ⟨hw168l, hw168h⟩, ⟨hw169l, hw169h⟩, hpo⟩), by rw [ht]; exact hP9, hD9⟩, hS.F ht⟩) hS.2.2 dX4_bringLine_91
        · have q170 : y159.toInt = 33 := z_eq rfl (by decide) hc
          refine lv_iconst (v := 1) hx hb dX4_bringLine_83 (by decide) ?_
          refine lv_goto (tgt := 88) hx hb dX4_bringLine_84 (by decide) ?_
          refine z_cwv (wc := [(ha1_2, .inl (cI, 5, .inl fa1_2)), (ha1_4, .inl (cI, 12, .inl fa1_4)), (ha1_5, .inl (cI, 12, .inl fa1_5)), (ha1_6, .inl (cI, 12, .inl fa1_6)), (ha1_7, .inl (cI, 12, .inl fa1_7)), (ha1, .inr (7, [.ref ha1_0, .ref ha1_1, .ref ha1_2, .int ia1_3, .ref ha1_4, .ref ha1_5, .ref ha1_6, .ref ha1_7, .int ia1_8, .int ia1_9, .int ia1_10, .ref ha1_11]))]) (wr := [(ha0_0, .inl (cI, 80, .inl fa0_0)), (ha0, .inr (4, [.ref ha0_0, .int ia0_1]))]) (w1 := fun u172 => [(ha1_2, .inl (cI, 5, .inl (u172.2 0))), (ha1_4, .inl (cI, 12, .inl (u172.2 1))), (ha1_5, .inl (cI, 12, .inl (u172.2 2))), (ha1_6, .inl (cI, 12, .inl (u172.2 3))), (ha1_7, .inl (cI, 12, .inl (u172.2 4))), (ha1, .inr (7, [.ref ha1_0, .ref ha1_1, .ref ha1_2, .int ia1_3, .ref ha1_4, .ref ha1_5, .ref ha1_6, .ref ha1_7, .int (u172.1 0), .int (u172.1 1), .int ia1_10, .ref ha1_11]))]) (va_runV (As := [.int y156, .int v4, .int y2, .int y157, .int 1]) (rest := []) ⟨hx, hb, hml, hown, hts⟩ (wX7_addLine l dC dI cI cQ ha1 ha1_2 ha1_4 ha1_5 ha1_6 ha1_7 ha1_0 ha1_1 ha1_11 fa1_2 fa1_4 fa1_5 fa1_6 hBfa1_6 fa1_7 hBfa1_7 ia1_3 hia1_3l hia1_3h ia1_8 ia1_9 hia1_9l hia1_9h ia1_10 y156 v4 y2 hy2_0 hy2_1 y157 hy157_0 hy157_1 1 (by decide) (by decide) H.size) (cwV 5 hts gv_X4_bringLine_X7_addLine_79 rfl rfl rfl (by decide +kernel) ⟨Nat.le_of_ble_eq_true rfl, Nat.le_of_ble_eq_true rfl⟩) ⟨z_blind, va_recv hK hP (ci := 7) (q0 := 7) rfl rfl, z_pre hZ hP hD [2, 3, 4, 5, 6, 7] rfl (by decide +kernel)⟩ rfl rfl hl.1 rfl (lv_room (Nat.le_of_ble_eq_true rfl)) dX4_bringLine_88 ⟨Nat.le_of_ble_eq_true rfl, Nat.le_of_ble_eq_true rfl⟩) hP hD hS hA [2, 3, 4, 5, 6, 7] [0, 1] rfl rfl (by decide +kernel) (by decide +kernel) (fun u172 H locs hpo hP hD hS => ?_)
          generalize hgf173 : u172.2 0 = f173 at hP hD hpo
          generalize hgf174 : u172.2 1 = f174 at hP hD hpo
          generalize hgf175 : u172.2 2 = f175 at hP hD hpo
          generalize hgf176 : u172.2 3 = f176 at hP hD hpo
          generalize hgf177 : u172.2 4 = f177 at hP hD hpo
          generalize hgw178 : u172.1 0 = w178 at hP hD hpo
          generalize hgw179 : u172.1 1 = w179 at hP hD hpo
          have hP : va_P (dC, dI) vwCl [(ha0_0, .inl (cI, 80, .inl fa0_0)), (ha0, .inr (4, [.ref ha0_0, .int ia0_1])), (ha1_2, .inl (cI, 5, .inl f173)), (ha1_4, .inl (cI, 12, .inl f174)), (ha1_5, .inl (cI, 12, .inl f175)), (ha1_6, .inl (cI, 12, .inl f176)), (ha1_7, .inl (cI, 12, .inl f177)), (ha1, .inr (7, [.ref ha1_0, .ref ha1_1, .ref ha1_2, .int ia1_3, .ref ha1_4, .ref ha1_5, .ref ha1_6, .ref ha1_7, .int w178, .int w179, .int ia1_10, .ref ha1_11]))] H := hP
          have hD : va_D A [(ha0_0, .inl (cI, 80, .inl fa0_0)), (ha0, .inr (4, [.ref ha0_0, .int ia0_1])), (ha1_2, .inl (cI, 5, .inl f173)), (ha1_4, .inl (cI, 12, .inl f174)), (ha1_5, .inl (cI, 12, .inl f175)), (ha1_6, .inl (cI, 12, .inl f176)), (ha1_7, .inl (cI, 12, .inl f177)), (ha1, .inr (7, [.ref ha1_0, .ref ha1_1, .ref ha1_2, .int ia1_3, .ref ha1_4, .ref ha1_5, .ref ha1_6, .ref ha1_7, .int w178, .int w179, .int ia1_10, .ref ha1_11]))] := hD
          obtain ⟨hBf176, hBf177, hw178p, hw179p, hy171po⟩ := hpo
          obtain ⟨hw178l, hw178h⟩ := hw178p
          obtain ⟨hw179l, hw179h⟩ := hw179p
          have hP9 := hP.sub (ws' := [(ha0_0, .inl (cI, 80, .inl fa0_0)), (ha0, .inr (4, [.ref ha0_0, .int ia0_1])), (ha1_2, .inl (cI, 5, .inl f173)), (ha1_4, .inl (cI, 12, .inl f174)), (ha1_5, .inl (cI, 12, .inl f175)), (ha1_6, .inl (cI, 12, .inl f176)), (ha1_7, .inl (cI, 12, .inl f177)), (ha1, .inr (7, [.ref ha1_0, .ref ha1_1, .ref ha1_2, .int ia1_3, .ref ha1_4, .ref ha1_5, .ref ha1_6, .ref ha1_7, .int w178, .int w179, .int ia1_10, .ref ha1_11]))]) [0, 1, 2, 3, 4, 5, 6, 7] rfl
          have hD9 := hD.sub (ws' := [(ha0_0, .inl (cI, 80, .inl fa0_0)), (ha0, .inr (4, [.ref ha0_0, .int ia0_1])), (ha1_2, .inl (cI, 5, .inl f173)), (ha1_4, .inl (cI, 12, .inl f174)), (ha1_5, .inl (cI, 12, .inl f175)), (ha1_6, .inl (cI, 12, .inl f176)), (ha1_7, .inl (cI, 12, .inl f177)), (ha1, .inr (7, [.ref ha1_0, .ref ha1_1, .ref ha1_2, .int ia1_3, .ref ha1_4, .ref ha1_5, .ref ha1_6, .ref ha1_7, .int w178, .int w179, .int ia1_10, .ref ha1_11]))]) [0, 1, 2, 3, 4, 5, 6, 7] (by decide) rfl
          have hpo : (ia1_9.toInt < 12 → 0 ≤ zAt fa0_0 ia0_1.toInt (p2.toInt + 1) - 48 → zAt fa0_0 ia0_1.toInt (p2.toInt + 1) - 48 < ia1_3.toInt → (w179 : Int32).toInt = ia1_9.toInt + 1 ∧ f177 = zUp fa1_7 ia1_9.toNatClampNeg (zIo (zAt fa0_0 ia0_1.toInt (p2.toInt + 2 + zWd fa0_0 ia0_1.toInt (p2.toInt + 2)) - 48))) := by have q1 := z_rwA (k := p2.toInt + 1) hy156_2 (by omega); have q2 := z_ilC (a := p2.toInt) hy2_2 (by omega) hy157_2 (by omega); exact fun c1 c2 c3 => by rw [← z_io q2]; exact hy171po c1 (by omega) (by omega)
          exact W.vret hx hb hr (fun t ht hW => ⟨⟨(fun k => [w178, w179].getD k 0, fun k => [f173, f174, f175, f176, f177].getD k (fun _ => 0)), rfl, (show (∀ k, 0 ≤ (f176 k).toInt ∧ (f176 k).toInt ≤ 4) ∧ (∀ k, (-48) ≤ (f177 k).toInt ∧ (f177 k).toInt ≤ 207) ∧ ((-2147483648) ≤ (w178 : Int32).toInt ∧ (w178 : Int32).toInt ≤ 2147483647) ∧ (0 ≤ (w179 : Int32).toInt ∧ (w179 : Int32).toInt ≤ 12) ∧ ((ia1_9.toInt < 12 → 0 ≤ zAt fa0_0 ia0_1.toInt (p2.toInt + 1) - 48 → zAt fa0_0 ia0_1.toInt (p2.toInt + 1) - 48 < ia1_3.toInt → (w179 : Int32).toInt = ia1_9.toInt + 1 ∧ f177 = zUp fa1_7 ia1_9.toNatClampNeg (zIo (zAt fa0_0 ia0_1.toInt (p2.toInt + 2 + zWd fa0_0 ia0_1.toInt (p2.toInt + 2)) - 48)))) from ⟨hBf176, hBf177, ⟨hw178l, hw178h⟩, ⟨hw179l, hw179h⟩, hpo⟩), by rw [ht]; exact hP9, hD9⟩, hS.F ht⟩) hS.2.2 dX4_bringLine_91
      · have q180 : v3.toInt < y2.toInt := z_nle rfl rfl hc
        refine lv_iload hx hb dX4_bringLine_20 (lv_at hl 1 rfl) ?_
        refine lv_iconst (v := 5) hx hb dX4_bringLine_22 (by decide) ?_
        refine lv_ishl hx hb dX4_bringLine_23 ?_
        refine lv_topi (fun y181 ey181 => ?_)
        refine lv_aload_n hx hb dX4_bringLine_24 rfl (lv_at hl 3 rfl) ?_
        refine lv_iload_n hx hb dX4_bringLine_25 rfl (lv_at hl 5 rfl) ?_
        refine lv_iconst (v := 2) hx hb dX4_bringLine_26 (by decide) ?_
        refine lv_iadd hx hb dX4_bringLine_27 ?_
        refine lv_topi (fun y182 ey182 => ?_)
        obtain rfl : y1 = y182 := ey1.trans ey182.symm
        refine lv_iload hx hb dX4_bringLine_28 (lv_at hl 0 rfl) ?_
        refine lv_iadd hx hb dX4_bringLine_30 ?_
        refine lv_topi (fun y183 ey183 => ?_)
        have hy183 : y183.toInt = y1.toInt + v3.toInt := by rw [ey183]; exact z_add rfl rfl (by omega) (by omega)
        refine z_rdi (va_runV (As := [.int y183]) (rest := [.int y181]) ⟨hx, hb, hml, hown, hts⟩ (rX4_at l dC dI cI cQ ha0 ha0_0 fa0_0 hBfa0_0 ia0_1 hia0_1l hia0_1h y183) (cwV 1 hts gv_X4_bringLine_X4_at_19 rfl rfl rfl (by decide +kernel) ⟨Nat.le_of_ble_eq_true rfl, Nat.le_of_ble_eq_true rfl⟩) ⟨z_blindR, va_recv hK hP (ci := 4) (q0 := 1) rfl rfl, z_preR hZ hP [0, 1] rfl⟩ rfl rfl hl.1 rfl (lv_room (Nat.le_of_ble_eq_true rfl)) dX4_bringLine_31 ⟨Nat.le_of_ble_eq_true rfl, Nat.le_of_ble_eq_true rfl⟩) (fun y184 hy184 => ?_)
        obtain ⟨hy184_0, hy184_1, hy184_2⟩ := hy184
        refine lv_bipush (v := 97) hx hb dX4_bringLine_34 (by decide) ?_
        refine lv_isub hx hb dX4_bringLine_36 ?_
        refine lv_topi (fun y185 ey185 => ?_)
        have hy185 : y185.toInt = y184.toInt - 97 := by rw [ey185]; exact z_sub rfl (by decide) (by omega) (by omega)
        refine lv_ior hx hb dX4_bringLine_37 ?_
        refine lv_topi (fun y186 ey186 => ?_)
        refine lv_istore (lv' := [(4, .int y186), (5, .int v3), (3, .int y2), (0, .ref ha0), (1, .ref ha1), (2, .int p2)]) hx hb dX4_bringLine_38 hl (by decide) rfl (fun ls hl => ?_)
        obtain ⟨y187, ey187⟩ : ∃ y : Int32, y = v3 + 1 := ⟨_, rfl⟩
        refine lv_iinc (v := y187) (lv' := [(5, .int y187), (4, .int y186), (3, .int y2), (0, .ref ha0), (1, .ref ha1), (2, .int p2)]) hx hb dX4_bringLine_40 hl (k := 1) rfl (by rw [ey187]; rfl) (by decide) rfl (fun ls hl => ?_)
        have hy187 : y187.toInt = v3.toInt + 1 := by rw [ey187]; exact z_add rfl (by decide) (by omega) (by omega)
        refine lv_goto (tgt := 14) hx hb dX4_bringLine_43 (by decide) ?_
        exact ih151 y187 y186 _ _ ls (by first | omega | decide | exact z_lo _ | exact z_hi _) (by first | omega | decide | exact z_lo _ | exact z_hi _) (by omega) (lv_sub hl [0, 1, 2, 3, 4, 5] rfl) hP hD hS
  exact hL149 ((4 - (0 : Int32).toInt).toNat + 1) 0 0 _ _ ls (by decide) (by decide) (by omega) hl hP hD hS
theorem dX6_init_0 : decode cX6_init 0 = .ok (.aload_n 0, 1) := by decide +kernel
theorem dX6_init_1 : decode cX6_init 1 = .ok (.invokespecial 3, 3) := by decide +kernel
theorem dX6_init_4 : decode cX6_init 4 = .ok (.aload_n 0, 1) := by decide +kernel
theorem dX6_init_5 : decode cX6_init 5 = .ok (.iload_n 1, 1) := by decide +kernel
theorem dX6_init_6 : decode cX6_init 6 = .ok (.putfield 9, 3) := by decide +kernel
theorem dX6_init_9 : decode cX6_init 9 = .ok (.return_, 1) := by decide +kernel
noncomputable def voX6_init : List Cond := [.methodLink RX6 3 objectInit, .instanceMethod objectInit, .fieldLink RX6 9 "EachOnHisCue$Next" "figure" "I", .code objectInit ⟨#[0xb1]⟩ 1 none]
noncomputable def vsX6_init : List Cond := .code yX6_init cX6_init 2 none :: (voX6_init ++ (wsX00 ++ (wsX10 ++ (wsX30 ++ (wsX60 ++ (wsX80 ++ (wsX100)))))))
theorem zgX6_init : zGd vsX6_init := z_gdC rfl (z_gdA (z_gdO (by decide +kernel) : zGd voX6_init) (z_gdA zgX0 (z_gdA zgX1 (z_gdA zgX3 (z_gdA zgX6 (z_gdA zgX8 (zgX10)))))))
theorem in_X6_init_X0 : ∀ w ∈ wsX00, w ∈ vsX6_init := fun _ h => List.mem_cons_of_mem _ (List.mem_append_right _ (List.mem_append_left _ h))
theorem in_X6_init_X1 : ∀ w ∈ wsX10, w ∈ vsX6_init := fun _ h => List.mem_cons_of_mem _ (List.mem_append_right _ (List.mem_append_right _ (List.mem_append_left _ h)))
theorem in_X6_init_X3 : ∀ w ∈ wsX30, w ∈ vsX6_init := fun _ h => List.mem_cons_of_mem _ (List.mem_append_right _ (List.mem_append_right _ (List.mem_append_right _ (List.mem_append_left _ h))))
theorem in_X6_init_X6 : ∀ w ∈ wsX60, w ∈ vsX6_init := fun _ h => List.mem_cons_of_mem _ (List.mem_append_right _ (List.mem_append_right _ (List.mem_append_right _ (List.mem_append_right _ (List.mem_append_left _ h)))))
theorem in_X6_init_X8 : ∀ w ∈ wsX80, w ∈ vsX6_init := fun _ h => List.mem_cons_of_mem _ (List.mem_append_right _ (List.mem_append_right _ (List.mem_append_right _ (List.mem_append_right _ (List.mem_append_right _ (List.mem_append_left _ h))))))
theorem in_X6_init_X10 : ∀ w ∈ wsX100, w ∈ vsX6_init := fun _ h => List.mem_cons_of_mem _ (List.mem_append_right _ (List.mem_append_right _ (List.mem_append_right _ (List.mem_append_right _ (List.mem_append_right _ (List.mem_append_right _ (h)))))))
set_option maxHeartbeats 4000000 in
set_option maxRecDepth 100000 in
theorem wX6_init (l : Launch) (dC : Nat → ClassId) (dI : Nat → Nat → Nat) (cI cQ : ClassId) (ha0 : Nat) (ia0_0 : Int32) (p1 : Int32) (sz : Nat) : Met l yX6_init vsX6_init ({ frames := 1, cells := 0, slots := 0, locals := 12 }) (va_Pc [.ref ha0, .int p1] (zB dC dI cI cQ [(ha0, .inr (6, [.int ia0_0]))] sz)) (zWv dC dI (va_A [(ha0, .inr (6, [.int ia0_0]))] sz) (fun u => [(ha0, .inr (6, [.int (u.1 0)]))]) (fun u => ((-2147483648) ≤ (u.1 0).toInt ∧ (u.1 0).toInt ≤ 2147483647) ∧ True)) 0 0 (va_A [(ha0, .inr (6, [.int ia0_0]))] sz) := by
  refine Met.ofW (cc := cX6_init) (maxL := 2) (ret := none) (by decide) rfl ?_
  intro p e s m args below meth c s₁ B hml hv
  obtain ⟨rfl, hsz, hP, hZ, hD0⟩ := hv
  obtain ⟨hK, hAO, hN⟩ := id hZ
  have hx := B.exec
  have hb := B.bytes
  have hr := B.returns
  have hts := atoms_spec (ws := vsX6_init) B.pre
  have hown : s.vm.findClass RX6 = some m.cls := findClass_of_methodNamed B.named
  have hlocks := B.notSynchronized
  subst hsz
  have hD := hD0.self (sz := s.heap.size)
  generalize hAe : va_A [(ha0, .inr (6, [.int ia0_0]))] s.heap.size = A at hD ⊢
  have hA : ∀ q : Nat, s.heap.size ≤ q → A q := fun q h => by rw [← hAe]; exact Or.inr h
  have hS : va_S A s.heap s.heap [] := va_S.rf
  have hP : va_P (dC, dI) vwCl [(ha0, .inr (6, [.int ia0_0]))] s.heap := hP
  have hin : meth.name = "<init>" := (name_of_methodNamed B.named B.method).1
  have hp1l := z_lo p1
  have hp1h := z_hi p1
  have hl := lv_entry ([.ref ha0, .int p1]) (n := 2) (Nat.le_of_ble_eq_true rfl)
  rw [lg_entry_eq]
  generalize (lg_sl ([.ref ha0, .int p1]) ++ List.replicate (2 - (lg_sl ([.ref ha0, .int p1])).length) Slot.unset).toArray = ls at hl ⊢
  have hl : lv_has ls 2 [(0, .ref ha0), (1, .int p1)] := hl
  refine lv_aload_n hx hb dX6_init_0 rfl (lv_at hl 0 rfl) ?_
  refine W.objInit hx hb hown (hts (.methodLink RX6 3 objectInit) (by decide +kernel)) (hts (.instanceMethod objectInit) (by decide +kernel)) (hts _ (List.mem_of_getElem? (i := 4) rfl)) rfl (by rw [hml]; exact hl.1) rfl dX6_init_1 (Nat.le_of_ble_eq_true rfl) (Nat.le_of_ble_eq_true rfl) ?_
  refine W.eq (g2 := F0 m 4 ls []) rfl ?_
  refine lv_aload_n hx hb dX6_init_4 rfl (lv_at hl 0 rfl) ?_
  refine lv_iload_n hx hb dX6_init_5 rfl (lv_at hl 1 rfl) ?_
  refine va_putF (D := (dC, dI)) (ci := 6) (v := .int p1) (ty := .int) (C := RX6) (T := TX6) (N := 1) hx hb hts in_X6_init_X6 tyX6 tyX6_ok nmX6 hown hK hP hD hS 0 rfl rfl 0 (by decide) (hts (.fieldLink RX6 9 "EachOnHisCue$Next" "figure" "I") (by decide +kernel)) (fun _ h9 => h9) rfl hin rfl (by decide +kernel) rfl rfl (Nat.le_of_ble_eq_true rfl) dX6_init_6 (fun H locs hP hD hS => ?_)
  have hP : va_P (dC, dI) vwCl [(ha0, .inr (6, [.int p1]))] H := hP
  have hD : va_D A [(ha0, .inr (6, [.int p1]))] := hD
  have hP9 := hP.sub (ws' := [(ha0, .inr (6, [.int p1]))]) [0] rfl
  have hD9 := hD.sub (ws' := [(ha0, .inr (6, [.int p1]))]) [0] (by decide) rfl
  exact W.vret hx hb hr (fun t ht hW => ⟨⟨(fun k => [p1].getD k 0, fun k => [].getD k (fun _ => 0)), rfl, (show ((-2147483648) ≤ (p1 : Int32).toInt ∧ (p1 : Int32).toInt ≤ 2147483647) ∧ (True) from ⟨⟨hp1l, hp1h⟩, trivial⟩), by rw [ht]; exact hP9, hD9⟩, hS.F ht⟩) hS.2.2 dX6_init_9
set_option maxHeartbeats 4000000 in
set_option maxRecDepth 100000 in
theorem wX6_init_X0 (l : Launch) (dC : Nat → ClassId) (dI : Nat → Nat → Nat) (cI cQ : ClassId) (ha0 : Nat) (ia0_0 : Int32) (p1 : Int32) (sz : Nat) : Met l yX6_init vsX6_init ({ frames := 1, cells := 0, slots := 0, locals := 12 }) (va_Pc [.ref ha0, .int p1] (zB dC dI cI cQ [(ha0, .inr (0, [.int ia0_0]))] sz)) (zWv dC dI (va_A [(ha0, .inr (0, [.int ia0_0]))] sz) (fun u => [(ha0, .inr (0, [.int (u.1 0)]))]) (fun u => ((-2147483648) ≤ (u.1 0).toInt ∧ (u.1 0).toInt ≤ 2147483647) ∧ True)) 0 0 (va_A [(ha0, .inr (0, [.int ia0_0]))] sz) := by
  refine Met.ofW (cc := cX6_init) (maxL := 2) (ret := none) (by decide) rfl ?_
  intro p e s m args below meth c s₁ B hml hv
  obtain ⟨rfl, hsz, hP, hZ, hD0⟩ := hv
  obtain ⟨hK, hAO, hN⟩ := id hZ
  have hx := B.exec
  have hb := B.bytes
  have hr := B.returns
  have hts := atoms_spec (ws := vsX6_init) B.pre
  have hown : s.vm.findClass RX6 = some m.cls := findClass_of_methodNamed B.named
  have hlocks := B.notSynchronized
  subst hsz
  have hD := hD0.self (sz := s.heap.size)
  generalize hAe : va_A [(ha0, .inr (0, [.int ia0_0]))] s.heap.size = A at hD ⊢
  have hA : ∀ q : Nat, s.heap.size ≤ q → A q := fun q h => by rw [← hAe]; exact Or.inr h
  have hS : va_S A s.heap s.heap [] := va_S.rf
  have hP : va_P (dC, dI) vwCl [(ha0, .inr (0, [.int ia0_0]))] s.heap := hP
  have hin : meth.name = "<init>" := (name_of_methodNamed B.named B.method).1
  have hp1l := z_lo p1
  have hp1h := z_hi p1
  have hl := lv_entry ([.ref ha0, .int p1]) (n := 2) (Nat.le_of_ble_eq_true rfl)
  rw [lg_entry_eq]
  generalize (lg_sl ([.ref ha0, .int p1]) ++ List.replicate (2 - (lg_sl ([.ref ha0, .int p1])).length) Slot.unset).toArray = ls at hl ⊢
  have hl : lv_has ls 2 [(0, .ref ha0), (1, .int p1)] := hl
  refine lv_aload_n hx hb dX6_init_0 rfl (lv_at hl 0 rfl) ?_
  refine W.objInit hx hb hown (hts (.methodLink RX6 3 objectInit) (by decide +kernel)) (hts (.instanceMethod objectInit) (by decide +kernel)) (hts _ (List.mem_of_getElem? (i := 4) rfl)) rfl (by rw [hml]; exact hl.1) rfl dX6_init_1 (Nat.le_of_ble_eq_true rfl) (Nat.le_of_ble_eq_true rfl) ?_
  refine W.eq (g2 := F0 m 4 ls []) rfl ?_
  refine lv_aload_n hx hb dX6_init_4 rfl (lv_at hl 0 rfl) ?_
  refine lv_iload_n hx hb dX6_init_5 rfl (lv_at hl 1 rfl) ?_
  refine va_putF (D := (dC, dI)) (ci := 0) (v := .int p1) (ty := .int) (C := RX0) (T := TX0) (N := 1) hx hb hts in_X6_init_X0 tyX0 tyX0_ok nmX0 hown hK hP hD hS 0 rfl rfl 0 (by decide) (hts (.fieldLink RX6 9 "EachOnHisCue$Next" "figure" "I") (by decide +kernel)) (fun _ h9 => h9) rfl hin rfl (by decide +kernel) rfl rfl (Nat.le_of_ble_eq_true rfl) dX6_init_6 (fun H locs hP hD hS => ?_)
  have hP : va_P (dC, dI) vwCl [(ha0, .inr (0, [.int p1]))] H := hP
  have hD : va_D A [(ha0, .inr (0, [.int p1]))] := hD
  have hP9 := hP.sub (ws' := [(ha0, .inr (0, [.int p1]))]) [0] rfl
  have hD9 := hD.sub (ws' := [(ha0, .inr (0, [.int p1]))]) [0] (by decide) rfl
  exact W.vret hx hb hr (fun t ht hW => ⟨⟨(fun k => [p1].getD k 0, fun k => [].getD k (fun _ => 0)), rfl, (show ((-2147483648) ≤ (p1 : Int32).toInt ∧ (p1 : Int32).toInt ≤ 2147483647) ∧ (True) from ⟨⟨hp1l, hp1h⟩, trivial⟩), by rw [ht]; exact hP9, hD9⟩, hS.F ht⟩) hS.2.2 dX6_init_9
theorem dX0_init_0 : decode cX0_init 0 = .ok (.aload_n 0, 1) := by decide +kernel
theorem dX0_init_1 : decode cX0_init 1 = .ok (.iload_n 1, 1) := by decide +kernel
theorem dX0_init_2 : decode cX0_init 2 = .ok (.invokespecial 1, 3) := by decide +kernel
theorem dX0_init_5 : decode cX0_init 5 = .ok (.return_, 1) := by decide +kernel
noncomputable def voX0_init : List Cond := [.initialized RX6, .methodLink RX0 1 yX6_init, .instanceMethod yX6_init]
noncomputable def vsX0_init : List Cond := .code yX0_init cX0_init 2 none :: (voX0_init ++ (vsX6_init))
theorem zgX0_init : zGd vsX0_init := z_gdC rfl (z_gdA (z_gdO (by decide +kernel) : zGd voX0_init) (zgX6_init))
theorem gw_X0_init_X6_init : GoodIn vsX0_init vsX6_init := z_gdI (fun _ h => List.mem_cons_of_mem _ (List.mem_append_right _ (h))) zgX6_init
set_option maxRecDepth 20000 in
theorem gv_X0_init_X6_init_1 : GoodIn vsX0_init (vsX6_init) := gw_X0_init_X6_init
set_option maxHeartbeats 4000000 in
set_option maxRecDepth 100000 in
theorem wX0_init (l : Launch) (dC : Nat → ClassId) (dI : Nat → Nat → Nat) (cI cQ : ClassId) (ha0 : Nat) (ia0_0 : Int32) (p1 : Int32) (sz : Nat) : Met l yX0_init vsX0_init ({ frames := 2, cells := 0, slots := 0, locals := 33 }) (va_Pc [.ref ha0, .int p1] (zB dC dI cI cQ [(ha0, .inr (0, [.int ia0_0]))] sz)) (zWv dC dI (va_A [(ha0, .inr (0, [.int ia0_0]))] sz) (fun u => [(ha0, .inr (0, [.int (u.1 0)]))]) (fun u => ((-2147483648) ≤ (u.1 0).toInt ∧ (u.1 0).toInt ≤ 2147483647) ∧ True)) 0 0 (va_A [(ha0, .inr (0, [.int ia0_0]))] sz) := by
  refine Met.ofW (cc := cX0_init) (maxL := 2) (ret := none) (by decide) rfl ?_
  intro p e s m args below meth c s₁ B hml hv
  obtain ⟨rfl, hsz, hP, hZ, hD0⟩ := hv
  obtain ⟨hK, hAO, hN⟩ := id hZ
  have hx := B.exec
  have hb := B.bytes
  have hr := B.returns
  have hts := atoms_spec (ws := vsX0_init) B.pre
  have hown : s.vm.findClass RX0 = some m.cls := findClass_of_methodNamed B.named
  have hlocks := B.notSynchronized
  subst hsz
  have hD := hD0.self (sz := s.heap.size)
  generalize hAe : va_A [(ha0, .inr (0, [.int ia0_0]))] s.heap.size = A at hD ⊢
  have hA : ∀ q : Nat, s.heap.size ≤ q → A q := fun q h => by rw [← hAe]; exact Or.inr h
  have hS : va_S A s.heap s.heap [] := va_S.rf
  have hP : va_P (dC, dI) vwCl [(ha0, .inr (0, [.int ia0_0]))] s.heap := hP
  have hin : meth.name = "<init>" := (name_of_methodNamed B.named B.method).1
  have hp1l := z_lo p1
  have hp1h := z_hi p1
  have hl := lv_entry ([.ref ha0, .int p1]) (n := 2) (Nat.le_of_ble_eq_true rfl)
  rw [lg_entry_eq]
  generalize (lg_sl ([.ref ha0, .int p1]) ++ List.replicate (2 - (lg_sl ([.ref ha0, .int p1])).length) Slot.unset).toArray = ls at hl ⊢
  have hl : lv_has ls 2 [(0, .ref ha0), (1, .int p1)] := hl
  refine lv_aload_n hx hb dX0_init_0 rfl (lv_at hl 0 rfl) ?_
  refine lv_iload_n hx hb dX0_init_1 rfl (lv_at hl 1 rfl) ?_
  refine z_cwv (wc := [(ha0, .inr (0, [.int ia0_0]))]) (wr := []) (w1 := fun u2 => [(ha0, .inr (0, [.int (u2.1 0)]))]) (va_runI (As := [.int p1]) (rest := []) ⟨hx, hb, hml, hown, hts⟩ (wX6_init_X0 l dC dI cI cQ ha0 ia0_0 p1 s.heap.size) (cwI 1 hts gv_X0_init_X6_init_1 rfl rfl rfl (hts (.initialized RX6) (by decide +kernel)) (hts (.methodLink RX0 1 yX6_init) (by decide +kernel)) (hts (.instanceMethod yX6_init) (by decide +kernel)) rfl (by decide +kernel) ⟨Nat.le_of_ble_eq_true rfl, Nat.le_of_ble_eq_true rfl⟩) ⟨z_blind, z_pre hZ hP hD [0] rfl (by decide +kernel)⟩ rfl rfl hl.1 rfl (lv_room (Nat.le_of_ble_eq_true rfl)) dX0_init_2 ⟨Nat.le_of_ble_eq_true rfl, Nat.le_of_ble_eq_true rfl⟩) hP hD hS hA [0] [] rfl rfl (by decide +kernel) (by decide +kernel) (fun u2 H locs hpo hP hD hS => ?_)
  generalize hgw3 : u2.1 0 = w3 at hP hD hpo
  have hP : va_P (dC, dI) vwCl [(ha0, .inr (0, [.int w3]))] H := hP
  have hD : va_D A [(ha0, .inr (0, [.int w3]))] := hD
  obtain ⟨hw3p, hy1po⟩ := hpo
  obtain ⟨hw3l, hw3h⟩ := hw3p
  have hP9 := hP.sub (ws' := [(ha0, .inr (0, [.int w3]))]) [0] rfl
  have hD9 := hD.sub (ws' := [(ha0, .inr (0, [.int w3]))]) [0] (by decide) rfl
  exact W.vret hx hb hr (fun t ht hW => ⟨⟨(fun k => [w3].getD k 0, fun k => [].getD k (fun _ => 0)), rfl, (show ((-2147483648) ≤ (w3 : Int32).toInt ∧ (w3 : Int32).toInt ≤ 2147483647) ∧ (True) from ⟨⟨hw3l, hw3h⟩, trivial⟩), by rw [ht]; exact hP9, hD9⟩, hS.F ht⟩) hS.2.2 dX0_init_5
set_option maxHeartbeats 4000000 in
set_option maxRecDepth 100000 in
theorem wX6_init_X8 (l : Launch) (dC : Nat → ClassId) (dI : Nat → Nat → Nat) (cI cQ : ClassId) (ha0 : Nat) (ia0_0 : Int32) (p1 : Int32) (sz : Nat) : Met l yX6_init vsX6_init ({ frames := 1, cells := 0, slots := 0, locals := 12 }) (va_Pc [.ref ha0, .int p1] (zB dC dI cI cQ [(ha0, .inr (8, [.int ia0_0]))] sz)) (zWv dC dI (va_A [(ha0, .inr (8, [.int ia0_0]))] sz) (fun u => [(ha0, .inr (8, [.int (u.1 0)]))]) (fun u => ((-2147483648) ≤ (u.1 0).toInt ∧ (u.1 0).toInt ≤ 2147483647) ∧ True)) 0 0 (va_A [(ha0, .inr (8, [.int ia0_0]))] sz) := by
  refine Met.ofW (cc := cX6_init) (maxL := 2) (ret := none) (by decide) rfl ?_
  intro p e s m args below meth c s₁ B hml hv
  obtain ⟨rfl, hsz, hP, hZ, hD0⟩ := hv
  obtain ⟨hK, hAO, hN⟩ := id hZ
  have hx := B.exec
  have hb := B.bytes
  have hr := B.returns
  have hts := atoms_spec (ws := vsX6_init) B.pre
  have hown : s.vm.findClass RX6 = some m.cls := findClass_of_methodNamed B.named
  have hlocks := B.notSynchronized
  subst hsz
  have hD := hD0.self (sz := s.heap.size)
  generalize hAe : va_A [(ha0, .inr (8, [.int ia0_0]))] s.heap.size = A at hD ⊢
  have hA : ∀ q : Nat, s.heap.size ≤ q → A q := fun q h => by rw [← hAe]; exact Or.inr h
  have hS : va_S A s.heap s.heap [] := va_S.rf
  have hP : va_P (dC, dI) vwCl [(ha0, .inr (8, [.int ia0_0]))] s.heap := hP
  have hin : meth.name = "<init>" := (name_of_methodNamed B.named B.method).1
  have hp1l := z_lo p1
  have hp1h := z_hi p1
  have hl := lv_entry ([.ref ha0, .int p1]) (n := 2) (Nat.le_of_ble_eq_true rfl)
  rw [lg_entry_eq]
  generalize (lg_sl ([.ref ha0, .int p1]) ++ List.replicate (2 - (lg_sl ([.ref ha0, .int p1])).length) Slot.unset).toArray = ls at hl ⊢
  have hl : lv_has ls 2 [(0, .ref ha0), (1, .int p1)] := hl
  refine lv_aload_n hx hb dX6_init_0 rfl (lv_at hl 0 rfl) ?_
  refine W.objInit hx hb hown (hts (.methodLink RX6 3 objectInit) (by decide +kernel)) (hts (.instanceMethod objectInit) (by decide +kernel)) (hts _ (List.mem_of_getElem? (i := 4) rfl)) rfl (by rw [hml]; exact hl.1) rfl dX6_init_1 (Nat.le_of_ble_eq_true rfl) (Nat.le_of_ble_eq_true rfl) ?_
  refine W.eq (g2 := F0 m 4 ls []) rfl ?_
  refine lv_aload_n hx hb dX6_init_4 rfl (lv_at hl 0 rfl) ?_
  refine lv_iload_n hx hb dX6_init_5 rfl (lv_at hl 1 rfl) ?_
  refine va_putF (D := (dC, dI)) (ci := 8) (v := .int p1) (ty := .int) (C := RX8) (T := TX8) (N := 1) hx hb hts in_X6_init_X8 tyX8 tyX8_ok nmX8 hown hK hP hD hS 0 rfl rfl 0 (by decide) (hts (.fieldLink RX6 9 "EachOnHisCue$Next" "figure" "I") (by decide +kernel)) (fun _ h9 => h9) rfl hin rfl (by decide +kernel) rfl rfl (Nat.le_of_ble_eq_true rfl) dX6_init_6 (fun H locs hP hD hS => ?_)
  have hP : va_P (dC, dI) vwCl [(ha0, .inr (8, [.int p1]))] H := hP
  have hD : va_D A [(ha0, .inr (8, [.int p1]))] := hD
  have hP9 := hP.sub (ws' := [(ha0, .inr (8, [.int p1]))]) [0] rfl
  have hD9 := hD.sub (ws' := [(ha0, .inr (8, [.int p1]))]) [0] (by decide) rfl
  exact W.vret hx hb hr (fun t ht hW => ⟨⟨(fun k => [p1].getD k 0, fun k => [].getD k (fun _ => 0)), rfl, (show ((-2147483648) ≤ (p1 : Int32).toInt ∧ (p1 : Int32).toInt ≤ 2147483647) ∧ (True) from ⟨⟨hp1l, hp1h⟩, trivial⟩), by rw [ht]; exact hP9, hD9⟩, hS.F ht⟩) hS.2.2 dX6_init_9
theorem dX8_init_0 : decode cX8_init 0 = .ok (.aload_n 0, 1) := by decide +kernel
theorem dX8_init_1 : decode cX8_init 1 = .ok (.iload_n 1, 1) := by decide +kernel
theorem dX8_init_2 : decode cX8_init 2 = .ok (.invokespecial 1, 3) := by decide +kernel
theorem dX8_init_5 : decode cX8_init 5 = .ok (.return_, 1) := by decide +kernel
noncomputable def voX8_init : List Cond := [.initialized RX6, .methodLink RX8 1 yX6_init, .instanceMethod yX6_init]
noncomputable def vsX8_init : List Cond := .code yX8_init cX8_init 2 none :: (voX8_init ++ (vsX6_init))
theorem zgX8_init : zGd vsX8_init := z_gdC rfl (z_gdA (z_gdO (by decide +kernel) : zGd voX8_init) (zgX6_init))
theorem gw_X8_init_X6_init : GoodIn vsX8_init vsX6_init := z_gdI (fun _ h => List.mem_cons_of_mem _ (List.mem_append_right _ (h))) zgX6_init
set_option maxRecDepth 20000 in
theorem gv_X8_init_X6_init_1 : GoodIn vsX8_init (vsX6_init) := gw_X8_init_X6_init
set_option maxHeartbeats 4000000 in
set_option maxRecDepth 100000 in
theorem wX8_init (l : Launch) (dC : Nat → ClassId) (dI : Nat → Nat → Nat) (cI cQ : ClassId) (ha0 : Nat) (ia0_0 : Int32) (p1 : Int32) (sz : Nat) : Met l yX8_init vsX8_init ({ frames := 2, cells := 0, slots := 0, locals := 33 }) (va_Pc [.ref ha0, .int p1] (zB dC dI cI cQ [(ha0, .inr (8, [.int ia0_0]))] sz)) (zWv dC dI (va_A [(ha0, .inr (8, [.int ia0_0]))] sz) (fun u => [(ha0, .inr (8, [.int (u.1 0)]))]) (fun u => ((-2147483648) ≤ (u.1 0).toInt ∧ (u.1 0).toInt ≤ 2147483647) ∧ True)) 0 0 (va_A [(ha0, .inr (8, [.int ia0_0]))] sz) := by
  refine Met.ofW (cc := cX8_init) (maxL := 2) (ret := none) (by decide) rfl ?_
  intro p e s m args below meth c s₁ B hml hv
  obtain ⟨rfl, hsz, hP, hZ, hD0⟩ := hv
  obtain ⟨hK, hAO, hN⟩ := id hZ
  have hx := B.exec
  have hb := B.bytes
  have hr := B.returns
  have hts := atoms_spec (ws := vsX8_init) B.pre
  have hown : s.vm.findClass RX8 = some m.cls := findClass_of_methodNamed B.named
  have hlocks := B.notSynchronized
  subst hsz
  have hD := hD0.self (sz := s.heap.size)
  generalize hAe : va_A [(ha0, .inr (8, [.int ia0_0]))] s.heap.size = A at hD ⊢
  have hA : ∀ q : Nat, s.heap.size ≤ q → A q := fun q h => by rw [← hAe]; exact Or.inr h
  have hS : va_S A s.heap s.heap [] := va_S.rf
  have hP : va_P (dC, dI) vwCl [(ha0, .inr (8, [.int ia0_0]))] s.heap := hP
  have hin : meth.name = "<init>" := (name_of_methodNamed B.named B.method).1
  have hp1l := z_lo p1
  have hp1h := z_hi p1
  have hl := lv_entry ([.ref ha0, .int p1]) (n := 2) (Nat.le_of_ble_eq_true rfl)
  rw [lg_entry_eq]
  generalize (lg_sl ([.ref ha0, .int p1]) ++ List.replicate (2 - (lg_sl ([.ref ha0, .int p1])).length) Slot.unset).toArray = ls at hl ⊢
  have hl : lv_has ls 2 [(0, .ref ha0), (1, .int p1)] := hl
  refine lv_aload_n hx hb dX8_init_0 rfl (lv_at hl 0 rfl) ?_
  refine lv_iload_n hx hb dX8_init_1 rfl (lv_at hl 1 rfl) ?_
  refine z_cwv (wc := [(ha0, .inr (8, [.int ia0_0]))]) (wr := []) (w1 := fun u2 => [(ha0, .inr (8, [.int (u2.1 0)]))]) (va_runI (As := [.int p1]) (rest := []) ⟨hx, hb, hml, hown, hts⟩ (wX6_init_X8 l dC dI cI cQ ha0 ia0_0 p1 s.heap.size) (cwI 1 hts gv_X8_init_X6_init_1 rfl rfl rfl (hts (.initialized RX6) (by decide +kernel)) (hts (.methodLink RX8 1 yX6_init) (by decide +kernel)) (hts (.instanceMethod yX6_init) (by decide +kernel)) rfl (by decide +kernel) ⟨Nat.le_of_ble_eq_true rfl, Nat.le_of_ble_eq_true rfl⟩) ⟨z_blind, z_pre hZ hP hD [0] rfl (by decide +kernel)⟩ rfl rfl hl.1 rfl (lv_room (Nat.le_of_ble_eq_true rfl)) dX8_init_2 ⟨Nat.le_of_ble_eq_true rfl, Nat.le_of_ble_eq_true rfl⟩) hP hD hS hA [0] [] rfl rfl (by decide +kernel) (by decide +kernel) (fun u2 H locs hpo hP hD hS => ?_)
  generalize hgw3 : u2.1 0 = w3 at hP hD hpo
  have hP : va_P (dC, dI) vwCl [(ha0, .inr (8, [.int w3]))] H := hP
  have hD : va_D A [(ha0, .inr (8, [.int w3]))] := hD
  obtain ⟨hw3p, hy1po⟩ := hpo
  obtain ⟨hw3l, hw3h⟩ := hw3p
  have hP9 := hP.sub (ws' := [(ha0, .inr (8, [.int w3]))]) [0] rfl
  have hD9 := hD.sub (ws' := [(ha0, .inr (8, [.int w3]))]) [0] (by decide) rfl
  exact W.vret hx hb hr (fun t ht hW => ⟨⟨(fun k => [w3].getD k 0, fun k => [].getD k (fun _ => 0)), rfl, (show ((-2147483648) ≤ (w3 : Int32).toInt ∧ (w3 : Int32).toInt ≤ 2147483647) ∧ (True) from ⟨⟨hw3l, hw3h⟩, trivial⟩), by rw [ht]; exact hP9, hD9⟩, hS.F ht⟩) hS.2.2 dX8_init_5
set_option maxHeartbeats 4000000 in
set_option maxRecDepth 100000 in
theorem wX6_init_X1 (l : Launch) (dC : Nat → ClassId) (dI : Nat → Nat → Nat) (cI cQ : ClassId) (ha0 : Nat) (ia0_0 : Int32) (p1 : Int32) (sz : Nat) : Met l yX6_init vsX6_init ({ frames := 1, cells := 0, slots := 0, locals := 12 }) (va_Pc [.ref ha0, .int p1] (zB dC dI cI cQ [(ha0, .inr (1, [.int ia0_0]))] sz)) (zWv dC dI (va_A [(ha0, .inr (1, [.int ia0_0]))] sz) (fun u => [(ha0, .inr (1, [.int (u.1 0)]))]) (fun u => ((-2147483648) ≤ (u.1 0).toInt ∧ (u.1 0).toInt ≤ 2147483647) ∧ True)) 0 0 (va_A [(ha0, .inr (1, [.int ia0_0]))] sz) := by
  refine Met.ofW (cc := cX6_init) (maxL := 2) (ret := none) (by decide) rfl ?_
  intro p e s m args below meth c s₁ B hml hv
  obtain ⟨rfl, hsz, hP, hZ, hD0⟩ := hv
  obtain ⟨hK, hAO, hN⟩ := id hZ
  have hx := B.exec
  have hb := B.bytes
  have hr := B.returns
  have hts := atoms_spec (ws := vsX6_init) B.pre
  have hown : s.vm.findClass RX6 = some m.cls := findClass_of_methodNamed B.named
  have hlocks := B.notSynchronized
  subst hsz
  have hD := hD0.self (sz := s.heap.size)
  generalize hAe : va_A [(ha0, .inr (1, [.int ia0_0]))] s.heap.size = A at hD ⊢
  have hA : ∀ q : Nat, s.heap.size ≤ q → A q := fun q h => by rw [← hAe]; exact Or.inr h
  have hS : va_S A s.heap s.heap [] := va_S.rf
  have hP : va_P (dC, dI) vwCl [(ha0, .inr (1, [.int ia0_0]))] s.heap := hP
  have hin : meth.name = "<init>" := (name_of_methodNamed B.named B.method).1
  have hp1l := z_lo p1
  have hp1h := z_hi p1
  have hl := lv_entry ([.ref ha0, .int p1]) (n := 2) (Nat.le_of_ble_eq_true rfl)
  rw [lg_entry_eq]
  generalize (lg_sl ([.ref ha0, .int p1]) ++ List.replicate (2 - (lg_sl ([.ref ha0, .int p1])).length) Slot.unset).toArray = ls at hl ⊢
  have hl : lv_has ls 2 [(0, .ref ha0), (1, .int p1)] := hl
  refine lv_aload_n hx hb dX6_init_0 rfl (lv_at hl 0 rfl) ?_
  refine W.objInit hx hb hown (hts (.methodLink RX6 3 objectInit) (by decide +kernel)) (hts (.instanceMethod objectInit) (by decide +kernel)) (hts _ (List.mem_of_getElem? (i := 4) rfl)) rfl (by rw [hml]; exact hl.1) rfl dX6_init_1 (Nat.le_of_ble_eq_true rfl) (Nat.le_of_ble_eq_true rfl) ?_
  refine W.eq (g2 := F0 m 4 ls []) rfl ?_
  refine lv_aload_n hx hb dX6_init_4 rfl (lv_at hl 0 rfl) ?_
  refine lv_iload_n hx hb dX6_init_5 rfl (lv_at hl 1 rfl) ?_
  refine va_putF (D := (dC, dI)) (ci := 1) (v := .int p1) (ty := .int) (C := RX1) (T := TX1) (N := 1) hx hb hts in_X6_init_X1 tyX1 tyX1_ok nmX1 hown hK hP hD hS 0 rfl rfl 0 (by decide) (hts (.fieldLink RX6 9 "EachOnHisCue$Next" "figure" "I") (by decide +kernel)) (fun _ h9 => h9) rfl hin rfl (by decide +kernel) rfl rfl (Nat.le_of_ble_eq_true rfl) dX6_init_6 (fun H locs hP hD hS => ?_)
  have hP : va_P (dC, dI) vwCl [(ha0, .inr (1, [.int p1]))] H := hP
  have hD : va_D A [(ha0, .inr (1, [.int p1]))] := hD
  have hP9 := hP.sub (ws' := [(ha0, .inr (1, [.int p1]))]) [0] rfl
  have hD9 := hD.sub (ws' := [(ha0, .inr (1, [.int p1]))]) [0] (by decide) rfl
  exact W.vret hx hb hr (fun t ht hW => ⟨⟨(fun k => [p1].getD k 0, fun k => [].getD k (fun _ => 0)), rfl, (show ((-2147483648) ≤ (p1 : Int32).toInt ∧ (p1 : Int32).toInt ≤ 2147483647) ∧ (True) from ⟨⟨hp1l, hp1h⟩, trivial⟩), by rw [ht]; exact hP9, hD9⟩, hS.F ht⟩) hS.2.2 dX6_init_9
