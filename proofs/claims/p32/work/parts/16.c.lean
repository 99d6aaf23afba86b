set_option maxRecDepth 20000 in
theorem edX9_take_0 : decode cX9_take 0 = .ok (.aload_n 0, 1) ∧ decode cX9_take 1 = .ok (.aload_n 1, 1) ∧ decode cX9_take 2 = .ok (.getfield 9, 3) ∧ decode cX9_take 5 = .ok (.putfield 9, 3) ∧ decode cX9_take 8 = .ok (.aload_n 0, 1) ∧ decode cX9_take 9 = .ok (.aload_n 1, 1) ∧ decode cX9_take 10 = .ok (.getfield 15, 3) ∧ decode cX9_take 13 = .ok (.putfield 15, 3) ∧ decode cX9_take 16 = .ok (.aload_n 0, 1) ∧ decode cX9_take 17 = .ok (.aload_n 1, 1) ∧ decode cX9_take 18 = .ok (.getfield 18, 3) ∧ decode cX9_take 21 = .ok (.putfield 18, 3) := by decide +kernel
theorem dX9_take_0 : decode cX9_take 0 = .ok (.aload_n 0, 1) := edX9_take_0.1
theorem dX9_take_1 : decode cX9_take 1 = .ok (.aload_n 1, 1) := edX9_take_0.2.1
theorem dX9_take_2 : decode cX9_take 2 = .ok (.getfield 9, 3) := edX9_take_0.2.2.1
theorem dX9_take_5 : decode cX9_take 5 = .ok (.putfield 9, 3) := edX9_take_0.2.2.2.1
theorem dX9_take_8 : decode cX9_take 8 = .ok (.aload_n 0, 1) := edX9_take_0.2.2.2.2.1
theorem dX9_take_9 : decode cX9_take 9 = .ok (.aload_n 1, 1) := edX9_take_0.2.2.2.2.2.1
theorem dX9_take_10 : decode cX9_take 10 = .ok (.getfield 15, 3) := edX9_take_0.2.2.2.2.2.2.1
theorem dX9_take_13 : decode cX9_take 13 = .ok (.putfield 15, 3) := edX9_take_0.2.2.2.2.2.2.2.1
theorem dX9_take_16 : decode cX9_take 16 = .ok (.aload_n 0, 1) := edX9_take_0.2.2.2.2.2.2.2.2.1
theorem dX9_take_17 : decode cX9_take 17 = .ok (.aload_n 1, 1) := edX9_take_0.2.2.2.2.2.2.2.2.2.1
theorem dX9_take_18 : decode cX9_take 18 = .ok (.getfield 18, 3) := edX9_take_0.2.2.2.2.2.2.2.2.2.2.1
theorem dX9_take_21 : decode cX9_take 21 = .ok (.putfield 18, 3) := edX9_take_0.2.2.2.2.2.2.2.2.2.2.2
set_option maxRecDepth 20000 in
theorem edX9_take_24 : decode cX9_take 24 = .ok (.aload_n 0, 1) ∧ decode cX9_take 25 = .ok (.aload_n 1, 1) ∧ decode cX9_take 26 = .ok (.getfield 21, 3) ∧ decode cX9_take 29 = .ok (.putfield 21, 3) ∧ decode cX9_take 32 = .ok (.aload_n 0, 1) ∧ decode cX9_take 33 = .ok (.aload_n 1, 1) ∧ decode cX9_take 34 = .ok (.getfield 24, 3) ∧ decode cX9_take 37 = .ok (.putfield 24, 3) ∧ decode cX9_take 40 = .ok (.return_, 1) := by decide +kernel
theorem dX9_take_24 : decode cX9_take 24 = .ok (.aload_n 0, 1) := edX9_take_24.1
theorem dX9_take_25 : decode cX9_take 25 = .ok (.aload_n 1, 1) := edX9_take_24.2.1
theorem dX9_take_26 : decode cX9_take 26 = .ok (.getfield 21, 3) := edX9_take_24.2.2.1
theorem dX9_take_29 : decode cX9_take 29 = .ok (.putfield 21, 3) := edX9_take_24.2.2.2.1
theorem dX9_take_32 : decode cX9_take 32 = .ok (.aload_n 0, 1) := edX9_take_24.2.2.2.2.1
theorem dX9_take_33 : decode cX9_take 33 = .ok (.aload_n 1, 1) := edX9_take_24.2.2.2.2.2.1
theorem dX9_take_34 : decode cX9_take 34 = .ok (.getfield 24, 3) := edX9_take_24.2.2.2.2.2.2.1
theorem dX9_take_37 : decode cX9_take 37 = .ok (.putfield 24, 3) := edX9_take_24.2.2.2.2.2.2.2.1
theorem dX9_take_40 : decode cX9_take 40 = .ok (.return_, 1) := edX9_take_24.2.2.2.2.2.2.2.2
noncomputable def voX9_take : List Cond := [.fieldLink RX9 9 "EachOnHisCue$Saying" "said" "I", .fieldLink RX9 15 "EachOnHisCue$Saying" "dead" "I", .fieldLink RX9 18 "EachOnHisCue$Saying" "latest" "I", .fieldLink RX9 21 "EachOnHisCue$Saying" "times" "I", .fieldLink RX9 24 "EachOnHisCue$Saying" "leaps" "I"]
noncomputable def vsX9_take : List Cond := .code yX9_take cX9_take 2 none :: (voX9_take ++ (wsX90))
theorem zgX9_take : zGd vsX9_take := z_gdC rfl (z_gdA (z_gdO (by decide +kernel) : zGd voX9_take) (zgX9))
theorem in_X9_take_X9 : ∀ w ∈ wsX90, w ∈ vsX9_take := fun _ h => List.mem_cons_of_mem _ (List.mem_append_right _ (h))
set_option maxHeartbeats 4000000 in
set_option maxRecDepth 100000 in
theorem wX9_take (l : Launch) (dC : Nat → ClassId) (dI : Nat → Nat → Nat) (cI cQ : ClassId) (ha0 ha1 : Nat) (ia0_0 : Int32) (ia0_1 : Int32) (ia0_2 : Int32) (ia0_3 : Int32) (ia0_4 : Int32) (ia1_0 : Int32) (ia1_1 : Int32) (ia1_2 : Int32) (ia1_3 : Int32) (ia1_4 : Int32) (sz : Nat) : Met l yX9_take vsX9_take ({ frames := 0, cells := 0, slots := 0, locals := 0 }) (va_Pc [.ref ha0, .ref ha1] (zB dC dI cI cQ [(ha0, .inr (9, [.int ia0_0, .int ia0_1, .int ia0_2, .int ia0_3, .int ia0_4])), (ha1, .inr (9, [.int ia1_0, .int ia1_1, .int ia1_2, .int ia1_3, .int ia1_4]))] sz)) (zWv dC dI (va_A [(ha0, .inr (9, [.int ia0_0, .int ia0_1, .int ia0_2, .int ia0_3, .int ia0_4])), (ha1, .inr (9, [.int ia1_0, .int ia1_1, .int ia1_2, .int ia1_3, .int ia1_4]))] sz) (fun u => [(ha0, .inr (9, [.int (u.1 0), .int (u.1 1), .int (u.1 2), .int (u.1 3), .int (u.1 4)])), (ha1, .inr (9, [.int ia1_0, .int ia1_1, .int ia1_2, .int ia1_3, .int ia1_4]))]) (fun u => ((-2147483648) ≤ (u.1 0).toInt ∧ (u.1 0).toInt ≤ 2147483647) ∧ ((-2147483648) ≤ (u.1 1).toInt ∧ (u.1 1).toInt ≤ 2147483647) ∧ ((-2147483648) ≤ (u.1 2).toInt ∧ (u.1 2).toInt ≤ 2147483647) ∧ ((-2147483648) ≤ (u.1 3).toInt ∧ (u.1 3).toInt ≤ 2147483647) ∧ ((-2147483648) ≤ (u.1 4).toInt ∧ (u.1 4).toInt ≤ 2147483647) ∧ (((u.1 0) = ia1_0 ∧ (u.1 1) = ia1_1 ∧ (u.1 2) = ia1_2 ∧ (u.1 3) = ia1_3 ∧ (u.1 4) = ia1_4)))) 0 0 (va_A [(ha0, .inr (9, [.int ia0_0, .int ia0_1, .int ia0_2, .int ia0_3, .int ia0_4])), (ha1, .inr (9, [.int ia1_0, .int ia1_1, .int ia1_2, .int ia1_3, .int ia1_4]))] sz) := by
  refine Met.ofW (cc := cX9_take) (maxL := 2) (ret := none) (by decide) rfl ?_
  intro p e s m args below meth c s₁ B hml hv
  obtain ⟨rfl, hsz, hP, hZ, hD0⟩ := hv
  obtain ⟨hK, hAO, hN⟩ := id hZ
  have hx := B.exec
  have hb := B.bytes
  have hr := B.returns
  have hts := atoms_spec (ws := vsX9_take) B.pre
  have hown : s.vm.findClass RX9 = some m.cls := findClass_of_methodNamed B.named
  have hlocks := B.notSynchronized
  subst hsz
  have hD := hD0.self (sz := s.heap.size)
  generalize hAe : va_A [(ha0, .inr (9, [.int ia0_0, .int ia0_1, .int ia0_2, .int ia0_3, .int ia0_4])), (ha1, .inr (9, [.int ia1_0, .int ia1_1, .int ia1_2, .int ia1_3, .int ia1_4]))] s.heap.size = A at hD ⊢
  have hA : ∀ q : Nat, s.heap.size ≤ q → A q := fun q h => by rw [← hAe]; exact Or.inr h
  have hS : va_S A s.heap s.heap [] := va_S.rf
  have hP : va_P (dC, dI) vwCl [(ha0, .inr (9, [.int ia0_0, .int ia0_1, .int ia0_2, .int ia0_3, .int ia0_4])), (ha1, .inr (9, [.int ia1_0, .int ia1_1, .int ia1_2, .int ia1_3, .int ia1_4]))] s.heap := hP
  have hl := lv_entry ([.ref ha0, .ref ha1]) (n := 2) (Nat.le_of_ble_eq_true rfl)
  rw [lg_entry_eq]
  generalize (lg_sl ([.ref ha0, .ref ha1]) ++ List.replicate (2 - (lg_sl ([.ref ha0, .ref ha1])).length) Slot.unset).toArray = ls at hl ⊢
  have hl : lv_has ls 2 [(0, .ref ha0), (1, .ref ha1)] := hl
  refine lv_aload_n hx hb dX9_take_0 rfl (lv_at hl 0 rfl) ?_
  refine lv_aload_n hx hb dX9_take_1 rfl (lv_at hl 1 rfl) ?_
  refine va_get (D := (dC, dI)) (ci := 9) (v := .int ia1_0) (C := RX9) (T := TX9) (N := 5) hx hb hts in_X9_take_X9 hown hK hP 1 rfl rfl 0 (by decide) (hts (.fieldLink RX9 9 "EachOnHisCue$Saying" "said" "I") (by decide +kernel)) (fun _ h9 => h9) rfl dX9_take_2 ?_
  refine va_put (D := (dC, dI)) (ci := 9) (v := .int ia1_0) (ty := .int) (C := RX9) (T := TX9) (N := 5) hx hb hts in_X9_take_X9 tyX9 tyX9_ok nmX9 hown hK hP hD hS 0 rfl rfl 0 (by decide) (hts (.fieldLink RX9 9 "EachOnHisCue$Saying" "said" "I") (by decide +kernel)) (fun _ h9 => h9) rfl (by decide +kernel) rfl rfl (Nat.le_of_ble_eq_true rfl) dX9_take_5 (fun H locs hP hD hS => ?_)
  have hP : va_P (dC, dI) vwCl [(ha0, .inr (9, [.int ia1_0, .int ia0_1, .int ia0_2, .int ia0_3, .int ia0_4])), (ha1, .inr (9, [.int ia1_0, .int ia1_1, .int ia1_2, .int ia1_3, .int ia1_4]))] H := hP
  have hD : va_D A [(ha0, .inr (9, [.int ia1_0, .int ia0_1, .int ia0_2, .int ia0_3, .int ia0_4])), (ha1, .inr (9, [.int ia1_0, .int ia1_1, .int ia1_2, .int ia1_3, .int ia1_4]))] := hD
  refine lv_aload_n hx hb dX9_take_8 rfl (lv_at hl 0 rfl) ?_
  refine lv_aload_n hx hb dX9_take_9 rfl (lv_at hl 1 rfl) ?_
  refine va_get (D := (dC, dI)) (ci := 9) (v := .int ia1_1) (C := RX9) (T := TX9) (N := 5) hx hb hts in_X9_take_X9 hown hK hP 1 rfl rfl 1 (by decide) (hts (.fieldLink RX9 15 "EachOnHisCue$Saying" "dead" "I") (by decide +kernel)) (fun _ h9 => h9) rfl dX9_take_10 ?_
  refine va_put (D := (dC, dI)) (ci := 9) (v := .int ia1_1) (ty := .int) (C := RX9) (T := TX9) (N := 5) hx hb hts in_X9_take_X9 tyX9 tyX9_ok nmX9 hown hK hP hD hS 0 rfl rfl 1 (by decide) (hts (.fieldLink RX9 15 "EachOnHisCue$Saying" "dead" "I") (by decide +kernel)) (fun _ h9 => h9) rfl (by decide +kernel) rfl rfl (Nat.le_of_ble_eq_true rfl) dX9_take_13 (fun H locs hP hD hS => ?_)
  have hP : va_P (dC, dI) vwCl [(ha0, .inr (9, [.int ia1_0, .int ia1_1, .int ia0_2, .int ia0_3, .int ia0_4])), (ha1, .inr (9, [.int ia1_0, .int ia1_1, .int ia1_2, .int ia1_3, .int ia1_4]))] H := hP
  have hD : va_D A [(ha0, .inr (9, [.int ia1_0, .int ia1_1, .int ia0_2, .int ia0_3, .int ia0_4])), (ha1, .inr (9, [.int ia1_0, .int ia1_1, .int ia1_2, .int ia1_3, .int ia1_4]))] := hD
  refine lv_aload_n hx hb dX9_take_16 rfl (lv_at hl 0 rfl) ?_
  refine lv_aload_n hx hb dX9_take_17 rfl (lv_at hl 1 rfl) ?_
  refine va_get (D := (dC, dI)) (ci := 9) (v := .int ia1_2) (C := RX9) (T := TX9) (N := 5) hx hb hts in_X9_take_X9 hown hK hP 1 rfl rfl 2 (by decide) (hts (.fieldLink RX9 18 "EachOnHisCue$Saying" "latest" "I") (by decide +kernel)) (fun _ h9 => h9) rfl dX9_take_18 ?_
  refine va_put (D := (dC, dI)) (ci := 9) (v := .int ia1_2) (ty := .int) (C := RX9) (T := TX9) (N := 5) hx hb hts in_X9_take_X9 tyX9 tyX9_ok nmX9 hown hK hP hD hS 0 rfl rfl 2 (by decide) (hts (.fieldLink RX9 18 "EachOnHisCue$Saying" "latest" "I") (by decide +kernel)) (fun _ h9 => h9) rfl (by decide +kernel) rfl rfl (Nat.le_of_ble_eq_true rfl) dX9_take_21 (fun H locs hP hD hS => ?_)
  have hP : va_P (dC, dI) vwCl [(ha0, .inr (9, [.int ia1_0, .int ia1_1, .int ia1_2, .int ia0_3, .int ia0_4])), (ha1, .inr (9, [.int ia1_0, .int ia1_1, .int ia1_2, .int ia1_3, .int ia1_4]))] H := hP
  have hD : va_D A [(ha0, .inr (9, [.int ia1_0, .int ia1_1, .int ia1_2, .int ia0_3, .int ia0_4])), (ha1, .inr (9, [.int ia1_0, .int ia1_1, .int ia1_2, .int ia1_3, .int ia1_4]))] := hD
  refine lv_aload_n hx hb dX9_take_24 rfl (lv_at hl 0 rfl) ?_
  refine lv_aload_n hx hb dX9_take_25 rfl (lv_at hl 1 rfl) ?_
  refine va_get (D := (dC, dI)) (ci := 9) (v := .int ia1_3) (C := RX9) (T := TX9) (N := 5) hx hb hts in_X9_take_X9 hown hK hP 1 rfl rfl 3 (by decide) (hts (.fieldLink RX9 21 "EachOnHisCue$Saying" "times" "I") (by decide +kernel)) (fun _ h9 => h9) rfl dX9_take_26 ?_
  refine va_put (D := (dC, dI)) (ci := 9) (v := .int ia1_3) (ty := .int) (C := RX9) (T := TX9) (N := 5) hx hb hts in_X9_take_X9 tyX9 tyX9_ok nmX9 hown hK hP hD hS 0 rfl rfl 3 (by decide) (hts (.fieldLink RX9 21 "EachOnHisCue$Saying" "times" "I") (by decide +kernel)) (fun _ h9 => h9) rfl (by decide +kernel) rfl rfl (Nat.le_of_ble_eq_true rfl) dX9_take_29 (fun H locs hP hD hS => ?_)
  have hP : va_P (dC, dI) vwCl [(ha0, .inr (9, [.int ia1_0, .int ia1_1, .int ia1_2, .int ia1_3, .int ia0_4])), (ha1, .inr (9, [.int ia1_0, .int ia1_1, .int ia1_2, .int ia1_3, .int ia1_4]))] H := hP
  have hD : va_D A [(ha0, .inr (9, [.int ia1_0, .int ia1_1, .int ia1_2, .int ia1_3, .int ia0_4])), (ha1, .inr (9, [.int ia1_0, .int ia1_1, .int ia1_2, .int ia1_3, .int ia1_4]))] := hD
  refine lv_aload_n hx hb dX9_take_32 rfl (lv_at hl 0 rfl) ?_
  refine lv_aload_n hx hb dX9_take_33 rfl (lv_at hl 1 rfl) ?_
  refine va_get (D := (dC, dI)) (ci := 9) (v := .int ia1_4) (C := RX9) (T := TX9) (N := 5) hx hb hts in_X9_take_X9 hown hK hP 1 rfl rfl 4 (by decide) (hts (.fieldLink RX9 24 "EachOnHisCue$Saying" "leaps" "I") (by decide +kernel)) (fun _ h9 => h9) rfl dX9_take_34 ?_
  refine va_put (D := (dC, dI)) (ci := 9) (v := .int ia1_4) (ty := .int) (C := RX9) (T := TX9) (N := 5) hx hb hts in_X9_take_X9 tyX9 tyX9_ok nmX9 hown hK hP hD hS 0 rfl rfl 4 (by decide) (hts (.fieldLink RX9 24 "EachOnHisCue$Saying" "leaps" "I") (by decide +kernel)) (fun _ h9 => h9) rfl (by decide +kernel) rfl rfl (Nat.le_of_ble_eq_true rfl) dX9_take_37 (fun H locs hP hD hS => ?_)
  have hP : va_P (dC, dI) vwCl [(ha0, .inr (9, [.int ia1_0, .int ia1_1, .int ia1_2, .int ia1_3, .int ia1_4])), (ha1, .inr (9, [.int ia1_0, .int ia1_1, .int ia1_2, .int ia1_3, .int ia1_4]))] H := hP
  have hD : va_D A [(ha0, .inr (9, [.int ia1_0, .int ia1_1, .int ia1_2, .int ia1_3, .int ia1_4])), (ha1, .inr (9, [.int ia1_0, .int ia1_1, .int ia1_2, .int ia1_3, .int ia1_4]))] := hD
  have hP9 := hP.sub (ws' := [(ha0, .inr (9, [.int ia1_0, .int ia1_1, .int ia1_2, .int ia1_3, .int ia1_4])), (ha1, .inr (9, [.int ia1_0, .int ia1_1, .int ia1_2, .int ia1_3, .int ia1_4]))]) [0, 1] rfl
  have hD9 := hD.sub (ws' := [(ha0, .inr (9, [.int ia1_0, .int ia1_1, .int ia1_2, .int ia1_3, .int ia1_4])), (ha1, .inr (9, [.int ia1_0, .int ia1_1, .int ia1_2, .int ia1_3, .int ia1_4]))]) [0, 1] (by decide) rfl
  have hpo : ((ia1_0 : Int32) = ia1_0 ∧ (ia1_1 : Int32) = ia1_1 ∧ (ia1_2 : Int32) = ia1_2 ∧ (ia1_3 : Int32) = ia1_3 ∧ (ia1_4 : Int32) = ia1_4) := by exact ⟨rfl, rfl, rfl, rfl, rfl⟩
  exact W.vret hx hb hr (fun t ht hW => ⟨⟨(fun k => [ia1_0, ia1_1, ia1_2, ia1_3, ia1_4].getD k 0, fun k => [].getD k (fun _ => 0)), rfl, (show ((-2147483648) ≤ (ia1_0 : Int32).toInt ∧ (ia1_0 : Int32).toInt ≤ 2147483647) ∧ ((-2147483648) ≤ (ia1_1 : Int32).toInt ∧ (ia1_1 : Int32).toInt ≤ 2147483647) ∧ ((-2147483648) ≤ (ia1_2 : Int32).toInt ∧ (ia1_2 : Int32).toInt ≤ 2147483647) ∧ ((-2147483648) ≤ (ia1_3 : Int32).toInt ∧ (ia1_3 : Int32).toInt ≤ 2147483647) ∧ ((-2147483648) ≤ (ia1_4 : Int32).toInt ∧ (ia1_4 : Int32).toInt ≤ 2147483647) ∧ (((ia1_0 : Int32) = ia1_0 ∧ (ia1_1 : Int32) = ia1_1 ∧ (ia1_2 : Int32) = ia1_2 ∧ (ia1_3 : Int32) = ia1_3 ∧ (ia1_4 : Int32) = ia1_4)) from ⟨⟨(z_lo _), (z_hi _)⟩, ⟨(z_lo _), (z_hi _)⟩, ⟨(z_lo _), (z_hi _)⟩, ⟨(z_lo _), (z_hi _)⟩, ⟨(z_lo _), (z_hi _)⟩, hpo⟩), by rw [ht]; exact hP9, hD9⟩, hS.F ht⟩) hS.2.2 dX9_take_40
set_option maxRecDepth 20000 in
theorem edX4_add_0 : decode cX4_add 0 = .ok (.aload_n 0, 1) ∧ decode cX4_add 1 = .ok (.getfield 15, 3) ∧ decode cX4_add 4 = .ok (.bipush 80, 2) ∧ decode cX4_add 6 = .ok (.if_icmp .ge 23, 3) ∧ decode cX4_add 9 = .ok (.aload_n 0, 1) ∧ decode cX4_add 10 = .ok (.getfield 9, 3) ∧ decode cX4_add 13 = .ok (.aload_n 0, 1) ∧ decode cX4_add 14 = .ok (.getfield 15, 3) ∧ decode cX4_add 17 = .ok (.iload_n 1, 1) ∧ decode cX4_add 18 = .ok (.iastore, 1) ∧ decode cX4_add 19 = .ok (.aload_n 0, 1) ∧ decode cX4_add 20 = .ok (.dup, 1) := by decide +kernel
theorem dX4_add_0 : decode cX4_add 0 = .ok (.aload_n 0, 1) := edX4_add_0.1
theorem dX4_add_1 : decode cX4_add 1 = .ok (.getfield 15, 3) := edX4_add_0.2.1
theorem dX4_add_4 : decode cX4_add 4 = .ok (.bipush 80, 2) := edX4_add_0.2.2.1
theorem dX4_add_6 : decode cX4_add 6 = .ok (.if_icmp .ge 23, 3) := edX4_add_0.2.2.2.1
theorem dX4_add_9 : decode cX4_add 9 = .ok (.aload_n 0, 1) := edX4_add_0.2.2.2.2.1
theorem dX4_add_10 : decode cX4_add 10 = .ok (.getfield 9, 3) := edX4_add_0.2.2.2.2.2.1
theorem dX4_add_13 : decode cX4_add 13 = .ok (.aload_n 0, 1) := edX4_add_0.2.2.2.2.2.2.1
theorem dX4_add_14 : decode cX4_add 14 = .ok (.getfield 15, 3) := edX4_add_0.2.2.2.2.2.2.2.1
theorem dX4_add_17 : decode cX4_add 17 = .ok (.iload_n 1, 1) := edX4_add_0.2.2.2.2.2.2.2.2.1
theorem dX4_add_18 : decode cX4_add 18 = .ok (.iastore, 1) := edX4_add_0.2.2.2.2.2.2.2.2.2.1
theorem dX4_add_19 : decode cX4_add 19 = .ok (.aload_n 0, 1) := edX4_add_0.2.2.2.2.2.2.2.2.2.2.1
theorem dX4_add_20 : decode cX4_add 20 = .ok (.dup, 1) := edX4_add_0.2.2.2.2.2.2.2.2.2.2.2
set_option maxRecDepth 20000 in
theorem edX4_add_21 : decode cX4_add 21 = .ok (.getfield 15, 3) ∧ decode cX4_add 24 = .ok (.iconst 1, 1) ∧ decode cX4_add 25 = .ok (.iadd, 1) ∧ decode cX4_add 26 = .ok (.putfield 15, 3) ∧ decode cX4_add 29 = .ok (.return_, 1) := by decide +kernel
theorem dX4_add_21 : decode cX4_add 21 = .ok (.getfield 15, 3) := edX4_add_21.1
theorem dX4_add_24 : decode cX4_add 24 = .ok (.iconst 1, 1) := edX4_add_21.2.1
theorem dX4_add_25 : decode cX4_add 25 = .ok (.iadd, 1) := edX4_add_21.2.2.1
theorem dX4_add_26 : decode cX4_add 26 = .ok (.putfield 15, 3) := edX4_add_21.2.2.2.1
theorem dX4_add_29 : decode cX4_add 29 = .ok (.return_, 1) := edX4_add_21.2.2.2.2
noncomputable def voX4_add : List Cond := [.fieldLink RX4 15 "EachOnHisCue$Letters" "size" "I", .fieldLink RX4 9 "EachOnHisCue$Letters" "row" "[I"]
noncomputable def vsX4_add : List Cond := .code yX4_add cX4_add 2 none :: (voX4_add ++ (wsX40))
theorem zgX4_add : zGd vsX4_add := z_gdC rfl (z_gdA (z_gdO (by decide +kernel) : zGd voX4_add) (zgX4))
theorem in_X4_add_X4 : ∀ w ∈ wsX40, w ∈ vsX4_add := fun _ h => List.mem_cons_of_mem _ (List.mem_append_right _ (h))
set_option maxHeartbeats 4000000 in
set_option maxRecDepth 100000 in
theorem wX4_add (l : Launch) (dC : Nat → ClassId) (dI : Nat → Nat → Nat) (cI cQ : ClassId) (ha0 ha0_0 : Nat) (fa0_0 : Nat → Int32) (hBfa0_0 : ∀ k, 0 ≤ (fa0_0 k).toInt ∧ (fa0_0 k).toInt ≤ 255) (ia0_1 : Int32) (hia0_1l : 0 ≤ ia0_1.toInt) (hia0_1h : ia0_1.toInt ≤ 80) (p1 : Int32) (hp1l : 0 ≤ p1.toInt) (hp1h : p1.toInt ≤ 255) (sz : Nat) : Met l yX4_add vsX4_add ({ frames := 0, cells := 0, slots := 0, locals := 0 }) (va_Pc [.ref ha0, .int p1] (zB dC dI cI cQ [(ha0_0, .inl (cI, 80, .inl fa0_0)), (ha0, .inr (4, [.ref ha0_0, .int ia0_1]))] sz)) (zWv dC dI (va_A [(ha0_0, .inl (cI, 80, .inl fa0_0)), (ha0, .inr (4, [.ref ha0_0, .int ia0_1]))] sz) (fun u => [(ha0_0, .inl (cI, 80, .inl (u.2 0))), (ha0, .inr (4, [.ref ha0_0, .int (u.1 0)]))]) (fun u => (∀ k, 0 ≤ ((u.2 0) k).toInt ∧ ((u.2 0) k).toInt ≤ 255) ∧ (1 ≤ (u.1 0).toInt ∧ (u.1 0).toInt ≤ 80) ∧ ((ia0_1.toInt < 80 → (u.1 0).toInt = ia0_1.toInt + 1 ∧ (u.2 0) = zUp fa0_0 ia0_1.toNatClampNeg p1)))) 0 0 (va_A [(ha0_0, .inl (cI, 80, .inl fa0_0)), (ha0, .inr (4, [.ref ha0_0, .int ia0_1]))] sz) := by
  refine Met.ofW (cc := cX4_add) (maxL := 2) (ret := none) (by decide) rfl ?_
  intro p e s m args below meth c s₁ B hml hv
  obtain ⟨rfl, hsz, hP, hZ, hD0⟩ := hv
  obtain ⟨hK, hAO, hN⟩ := id hZ
  have hx := B.exec
  have hb := B.bytes
  have hr := B.returns
  have hts := atoms_spec (ws := vsX4_add) B.pre
  have hown : s.vm.findClass RX4 = some m.cls := findClass_of_methodNamed B.named
  have hlocks := B.notSynchronized
  subst hsz
  have hD := hD0.self (sz := s.heap.size)
  generalize hAe : va_A [(ha0_0, .inl (cI, 80, .inl fa0_0)), (ha0, .inr (4, [.ref ha0_0, .int ia0_1]))] s.heap.size = A at hD ⊢
  have hA : ∀ q : Nat, s.heap.size ≤ q → A q := fun q h => by rw [← hAe]; exact Or.inr h
  have hS : va_S A s.heap s.heap [] := va_S.rf
  have hP : va_P (dC, dI) vwCl [(ha0_0, .inl (cI, 80, .inl fa0_0)), (ha0, .inr (4, [.ref ha0_0, .int ia0_1]))] s.heap := hP
  have hl := lv_entry ([.ref ha0, .int p1]) (n := 2) (Nat.le_of_ble_eq_true rfl)
  rw [lg_entry_eq]
  generalize (lg_sl ([.ref ha0, .int p1]) ++ List.replicate (2 - (lg_sl ([.ref ha0, .int p1])).length) Slot.unset).toArray = ls at hl ⊢
  have hl : lv_has ls 2 [(0, .ref ha0), (1, .int p1)] := hl
  refine lv_aload_n hx hb dX4_add_0 rfl (lv_at hl 0 rfl) ?_
  refine va_get (D := (dC, dI)) (ci := 4) (v := .int ia0_1) (C := RX4) (T := TX4) (N := 2) hx hb hts in_X4_add_X4 hown hK hP 1 rfl rfl 1 (by decide) (hts (.fieldLink RX4 15 "EachOnHisCue$Letters" "size" "I") (by decide +kernel)) (fun _ h9 => h9) rfl dX4_add_1 ?_
  refine lv_bipush (v := 80) hx hb dX4_add_4 (by decide) ?_
  refine lv_icmp_ge (tgt := 29) hx hb dX4_add_6 (by decide) (fun hc => ?_) (fun hc => ?_)
  · have q1 : 80 ≤ ia0_1.toInt := z_le (by decide) rfl hc
    have hP9 := hP.sub (ws' := [(ha0_0, .inl (cI, 80, .inl fa0_0)), (ha0, .inr (4, [.ref ha0_0, .int ia0_1]))]) [0, 1] rfl
    have hD9 := hD.sub (ws' := [(ha0_0, .inl (cI, 80, .inl fa0_0)), (ha0, .inr (4, [.ref ha0_0, .int ia0_1]))]) [0, 1] (by decide) rfl
    have hpo : (ia0_1.toInt < 80 → (ia0_1 : Int32).toInt = ia0_1.toInt + 1 ∧ fa0_0 = zUp fa0_0 ia0_1.toNatClampNeg p1) := by first | exact fun _ => ⟨by omega, Eq.symm (by assumption)⟩ | exact fun h => by omega
    exact W.vret hx hb hr (fun t ht hW => ⟨⟨(fun k => [ia0_1].getD k 0, fun k => [fa0_0].getD k (fun _ => 0)), rfl, (show (∀ k, 0 ≤ (fa0_0 k).toInt ∧ (fa0_0 k).toInt ≤ 255) ∧ (1 ≤ (ia0_1 : Int32).toInt ∧ (ia0_1 : Int32).toInt ≤ 80) ∧ ((ia0_1.toInt < 80 → (ia0_1 : Int32).toInt = ia0_1.toInt + 1 ∧ fa0_0 = zUp fa0_0 ia0_1.toNatClampNeg p1)) from ⟨hBfa0_0, ⟨(by first | decide | omega), (by first | decide | omega)⟩, hpo⟩), by rw [ht]; exact hP9, hD9⟩, hS.F ht⟩) hS.2.2 dX4_add_29
  · have q2 : ia0_1.toInt < 80 := z_nle (by decide) rfl hc
    refine lv_aload_n hx hb dX4_add_9 rfl (lv_at hl 0 rfl) ?_
    refine va_get (D := (dC, dI)) (ci := 4) (v := .ref ha0_0) (C := RX4) (T := TX4) (N := 2) hx hb hts in_X4_add_X4 hown hK hP 1 rfl rfl 0 (by decide) (hts (.fieldLink RX4 9 "EachOnHisCue$Letters" "row" "[I") (by decide +kernel)) (fun _ h9 => h9) rfl dX4_add_10 ?_
    refine lv_aload_n hx hb dX4_add_13 rfl (lv_at hl 0 rfl) ?_
    refine va_get (D := (dC, dI)) (ci := 4) (v := .int ia0_1) (C := RX4) (T := TX4) (N := 2) hx hb hts in_X4_add_X4 hown hK hP 1 rfl rfl 1 (by decide) (hts (.fieldLink RX4 15 "EachOnHisCue$Letters" "size" "I") (by decide +kernel)) (fun _ h9 => h9) rfl dX4_add_14 ?_
    refine lv_iload_n hx hb dX4_add_17 rfl (lv_at hl 1 rfl) ?_
    refine va_iast hx hb hK hP hD hS 0 0 rfl rfl (z_in (by omega) (by omega)) dX4_add_18 (fun H locs hP hD hS => ?_)
    generalize ef3 : upd fa0_0 (ia0_1 : Int32).toNatClampNeg p1 = f3 at hP hD
    have hBf3 : ∀ k, 0 ≤ (f3 k).toInt ∧ (f3 k).toInt ≤ 255 := by rw [← ef3]; exact z_updB hBfa0_0 (by first | decide | omega) (by first | decide | omega)
    have hP : va_P (dC, dI) vwCl [(ha0_0, .inl (cI, 80, .inl f3)), (ha0, .inr (4, [.ref ha0_0, .int ia0_1]))] H := hP
    have hD : va_D A [(ha0_0, .inl (cI, 80, .inl f3)), (ha0, .inr (4, [.ref ha0_0, .int ia0_1]))] := hD
    refine lv_aload_n hx hb dX4_add_19 rfl (lv_at hl 0 rfl) ?_
    refine lv_dup hx hb dX4_add_20 rfl ?_
    refine va_get (D := (dC, dI)) (ci := 4) (v := .int ia0_1) (C := RX4) (T := TX4) (N := 2) hx hb hts in_X4_add_X4 hown hK hP 1 rfl rfl 1 (by decide) (hts (.fieldLink RX4 15 "EachOnHisCue$Letters" "size" "I") (by decide +kernel)) (fun _ h9 => h9) rfl dX4_add_21 ?_
    refine lv_iconst (v := 1) hx hb dX4_add_24 (by decide) ?_
    refine lv_iadd hx hb dX4_add_25 ?_
    refine lv_topi (fun y4 ey4 => ?_)
    have hy4 : y4.toInt = ia0_1.toInt + 1 := by rw [ey4]; exact z_add rfl (by decide) (by omega) (by omega)
    refine va_put (D := (dC, dI)) (ci := 4) (v := .int y4) (ty := .int) (C := RX4) (T := TX4) (N := 2) hx hb hts in_X4_add_X4 tyX4 tyX4_ok nmX4 hown hK hP hD hS 1 rfl rfl 1 (by decide) (hts (.fieldLink RX4 15 "EachOnHisCue$Letters" "size" "I") (by decide +kernel)) (fun _ h9 => h9) rfl (by decide +kernel) rfl rfl (Nat.le_of_ble_eq_true rfl) dX4_add_26 (fun H locs hP hD hS => ?_)
    have hP : va_P (dC, dI) vwCl [(ha0_0, .inl (cI, 80, .inl f3)), (ha0, .inr (4, [.ref ha0_0, .int y4]))] H := hP
    have hD : va_D A [(ha0_0, .inl (cI, 80, .inl f3)), (ha0, .inr (4, [.ref ha0_0, .int y4]))] := hD
    have hP9 := hP.sub (ws' := [(ha0_0, .inl (cI, 80, .inl f3)), (ha0, .inr (4, [.ref ha0_0, .int y4]))]) [0, 1] rfl
    have hD9 := hD.sub (ws' := [(ha0_0, .inl (cI, 80, .inl f3)), (ha0, .inr (4, [.ref ha0_0, .int y4]))]) [0, 1] (by decide) rfl
    have hpo : (ia0_1.toInt < 80 → (y4 : Int32).toInt = ia0_1.toInt + 1 ∧ f3 = zUp fa0_0 ia0_1.toNatClampNeg p1) := by first | exact fun _ => ⟨by omega, Eq.symm (by assumption)⟩ | exact fun h => by omega
    exact W.vret hx hb hr (fun t ht hW => ⟨⟨(fun k => [y4].getD k 0, fun k => [f3].getD k (fun _ => 0)), rfl, (show (∀ k, 0 ≤ (f3 k).toInt ∧ (f3 k).toInt ≤ 255) ∧ (1 ≤ (y4 : Int32).toInt ∧ (y4 : Int32).toInt ≤ 80) ∧ ((ia0_1.toInt < 80 → (y4 : Int32).toInt = ia0_1.toInt + 1 ∧ f3 = zUp fa0_0 ia0_1.toNatClampNeg p1)) from ⟨hBf3, ⟨(by first | decide | omega), (by first | decide | omega)⟩, hpo⟩), by rw [ht]; exact hP9, hD9⟩, hS.F ht⟩) hS.2.2 dX4_add_29
set_option maxRecDepth 20000 in
theorem edX2_draw_0 : decode cX2_draw 0 = .ok (.aload_n 0, 1) ∧ decode cX2_draw 1 = .ok (.aload_n 0, 1) ∧ decode cX2_draw 2 = .ok (.getfield 25, 3) ∧ decode cX2_draw 5 = .ok (.ldc 93, 2) ∧ decode cX2_draw 7 = .ok (.imul, 1) ∧ decode cX2_draw 8 = .ok (.sipush 12345, 3) ∧ decode cX2_draw 11 = .ok (.iadd, 1) ∧ decode cX2_draw 12 = .ok (.putfield 25, 3) ∧ decode cX2_draw 15 = .ok (.iload_n 1, 1) ∧ decode cX2_draw 16 = .ok (.iconst 1, 1) ∧ decode cX2_draw 17 = .ok (.if_icmp .ge 7, 3) ∧ decode cX2_draw 20 = .ok (.iconst 0, 1) := by decide +kernel
theorem dX2_draw_0 : decode cX2_draw 0 = .ok (.aload_n 0, 1) := edX2_draw_0.1
theorem dX2_draw_1 : decode cX2_draw 1 = .ok (.aload_n 0, 1) := edX2_draw_0.2.1
theorem dX2_draw_2 : decode cX2_draw 2 = .ok (.getfield 25, 3) := edX2_draw_0.2.2.1
theorem dX2_draw_5 : decode cX2_draw 5 = .ok (.ldc 93, 2) := edX2_draw_0.2.2.2.1
theorem dX2_draw_7 : decode cX2_draw 7 = .ok (.imul, 1) := edX2_draw_0.2.2.2.2.1
theorem dX2_draw_8 : decode cX2_draw 8 = .ok (.sipush 12345, 3) := edX2_draw_0.2.2.2.2.2.1
theorem dX2_draw_11 : decode cX2_draw 11 = .ok (.iadd, 1) := edX2_draw_0.2.2.2.2.2.2.1
theorem dX2_draw_12 : decode cX2_draw 12 = .ok (.putfield 25, 3) := edX2_draw_0.2.2.2.2.2.2.2.1
theorem dX2_draw_15 : decode cX2_draw 15 = .ok (.iload_n 1, 1) := edX2_draw_0.2.2.2.2.2.2.2.2.1
theorem dX2_draw_16 : decode cX2_draw 16 = .ok (.iconst 1, 1) := edX2_draw_0.2.2.2.2.2.2.2.2.2.1
theorem dX2_draw_17 : decode cX2_draw 17 = .ok (.if_icmp .ge 7, 3) := edX2_draw_0.2.2.2.2.2.2.2.2.2.2.1
theorem dX2_draw_20 : decode cX2_draw 20 = .ok (.iconst 0, 1) := edX2_draw_0.2.2.2.2.2.2.2.2.2.2.2
set_option maxRecDepth 20000 in
theorem edX2_draw_21 : decode cX2_draw 21 = .ok (.goto 15, 3) ∧ decode cX2_draw 24 = .ok (.aload_n 0, 1) ∧ decode cX2_draw 25 = .ok (.getfield 25, 3) ∧ decode cX2_draw 28 = .ok (.ldc 94, 2) ∧ decode cX2_draw 30 = .ok (.iand, 1) ∧ decode cX2_draw 31 = .ok (.ldc 95, 2) ∧ decode cX2_draw 33 = .ok (.idiv, 1) ∧ decode cX2_draw 34 = .ok (.iload_n 1, 1) ∧ decode cX2_draw 35 = .ok (.irem, 1) ∧ decode cX2_draw 36 = .ok (.ireturn, 1) := by decide +kernel
theorem dX2_draw_21 : decode cX2_draw 21 = .ok (.goto 15, 3) := edX2_draw_21.1
theorem dX2_draw_24 : decode cX2_draw 24 = .ok (.aload_n 0, 1) := edX2_draw_21.2.1
theorem dX2_draw_25 : decode cX2_draw 25 = .ok (.getfield 25, 3) := edX2_draw_21.2.2.1
theorem dX2_draw_28 : decode cX2_draw 28 = .ok (.ldc 94, 2) := edX2_draw_21.2.2.2.1
theorem dX2_draw_30 : decode cX2_draw 30 = .ok (.iand, 1) := edX2_draw_21.2.2.2.2.1
theorem dX2_draw_31 : decode cX2_draw 31 = .ok (.ldc 95, 2) := edX2_draw_21.2.2.2.2.2.1
theorem dX2_draw_33 : decode cX2_draw 33 = .ok (.idiv, 1) := edX2_draw_21.2.2.2.2.2.2.1
theorem dX2_draw_34 : decode cX2_draw 34 = .ok (.iload_n 1, 1) := edX2_draw_21.2.2.2.2.2.2.2.1
theorem dX2_draw_35 : decode cX2_draw 35 = .ok (.irem, 1) := edX2_draw_21.2.2.2.2.2.2.2.2.1
theorem dX2_draw_36 : decode cX2_draw 36 = .ok (.ireturn, 1) := edX2_draw_21.2.2.2.2.2.2.2.2.2
noncomputable def voX2_draw : List Cond := [.fieldLink RX2 25 "EachOnHisCue$Evening" "seed" "I", .constant RX2 93 (1103515245), .constant RX2 94 (2147483647), .constant RX2 95 (65536)]
noncomputable def vsX2_draw : List Cond := .code yX2_draw cX2_draw 2 (some .int) :: (voX2_draw ++ (wsX20))
theorem zgX2 : zGd wsX20 := z_gdO (by decide +kernel)
theorem zgX2_draw : zGd vsX2_draw := z_gdC rfl (z_gdA (z_gdO (by decide +kernel) : zGd voX2_draw) (zgX2))
theorem in_X2_draw_X2 : ∀ w ∈ wsX20, w ∈ vsX2_draw := fun _ h => List.mem_cons_of_mem _ (List.mem_append_right _ (h))
set_option maxHeartbeats 4000000 in
set_option maxRecDepth 100000 in
theorem wX2_draw (l : Launch) (dC : Nat → ClassId) (dI : Nat → Nat → Nat) (cI cQ : ClassId) (ha0 ha0_0 ha0_1 : Nat) (ia0_2 : Int32) (p1 : Int32) (sz : Nat) : Met l yX2_draw vsX2_draw ({ frames := 0, cells := 0, slots := 0, locals := 0 }) (va_Pc [.ref ha0, .int p1] (zB dC dI cI cQ [(ha0, .inr (2, [.ref ha0_0, .ref ha0_1, .int ia0_2]))] sz)) (zWi dC dI (va_A [(ha0, .inr (2, [.ref ha0_0, .ref ha0_1, .int ia0_2]))] sz) (fun u => [(ha0, .inr (2, [.ref ha0_0, .ref ha0_1, .int (u.1 0)]))]) (fun r u => ((-2147483648) ≤ (u.1 0).toInt ∧ (u.1 0).toInt ≤ 2147483647) ∧ ((-2147483648) ≤ r.toInt ∧ r.toInt ≤ 2147483647) ∧ True)) 0 0 (va_A [(ha0, .inr (2, [.ref ha0_0, .ref ha0_1, .int ia0_2]))] sz) := by
  refine Met.ofW (cc := cX2_draw) (maxL := 2) (ret := (some .int)) (by decide) rfl ?_
  intro p e s m args below meth c s₁ B hml hv
  obtain ⟨rfl, hsz, hP, hZ, hD0⟩ := hv
  obtain ⟨hK, hAO, hN⟩ := id hZ
  have hx := B.exec
  have hb := B.bytes
  have hr := B.returns
  have hts := atoms_spec (ws := vsX2_draw) B.pre
  have hown : s.vm.findClass RX2 = some m.cls := findClass_of_methodNamed B.named
  have hlocks := B.notSynchronized
  subst hsz
  have hD := hD0.self (sz := s.heap.size)
  generalize hAe : va_A [(ha0, .inr (2, [.ref ha0_0, .ref ha0_1, .int ia0_2]))] s.heap.size = A at hD ⊢
  have hA : ∀ q : Nat, s.heap.size ≤ q → A q := fun q h => by rw [← hAe]; exact Or.inr h
  have hS : va_S A s.heap s.heap [] := va_S.rf
  have hP : va_P (dC, dI) vwCl [(ha0, .inr (2, [.ref ha0_0, .ref ha0_1, .int ia0_2]))] s.heap := hP
  have hp1l := z_lo p1
  have hp1h := z_hi p1
  have hl := lv_entry ([.ref ha0, .int p1]) (n := 2) (Nat.le_of_ble_eq_true rfl)
  rw [lg_entry_eq]
  generalize (lg_sl ([.ref ha0, .int p1]) ++ List.replicate (2 - (lg_sl ([.ref ha0, .int p1])).length) Slot.unset).toArray = ls at hl ⊢
  have hl : lv_has ls 2 [(0, .ref ha0), (1, .int p1)] := hl
  refine lv_aload_n hx hb dX2_draw_0 rfl (lv_at hl 0 rfl) ?_
  refine lv_aload_n hx hb dX2_draw_1 rfl (lv_at hl 0 rfl) ?_
  refine va_get (D := (dC, dI)) (ci := 2) (v := .int ia0_2) (C := RX2) (T := TX2) (N := 3) hx hb hts in_X2_draw_X2 hown hK hP 0 rfl rfl 2 (by decide) (hts (.fieldLink RX2 25 "EachOnHisCue$Evening" "seed" "I") (by decide +kernel)) (fun _ h9 => h9) rfl dX2_draw_2 ?_
  refine lv_ldc (own := RX2) (v := 1103515245) hx hb hown (hts (.constant RX2 93 (1103515245)) (by decide +kernel)) dX2_draw_5 ?_
  refine lv_imul hx hb dX2_draw_7 ?_
  refine lv_topi (fun y1 ey1 => ?_)
  refine lv_sipush (v := 12345) hx hb dX2_draw_8 (by decide) ?_
  refine lv_iadd hx hb dX2_draw_11 ?_
  refine lv_topi (fun y2 ey2 => ?_)
  refine va_put (D := (dC, dI)) (ci := 2) (v := .int y2) (ty := .int) (C := RX2) (T := TX2) (N := 3) hx hb hts in_X2_draw_X2 tyX2 tyX2_ok nmX2 hown hK hP hD hS 0 rfl rfl 2 (by decide) (hts (.fieldLink RX2 25 "EachOnHisCue$Evening" "seed" "I") (by decide +kernel)) (fun _ h9 => h9) rfl (by decide +kernel) rfl rfl (Nat.le_of_ble_eq_true rfl) dX2_draw_12 (fun H locs hP hD hS => ?_)
  have hP : va_P (dC, dI) vwCl [(ha0, .inr (2, [.ref ha0_0, .ref ha0_1, .int y2]))] H := hP
  have hD : va_D A [(ha0, .inr (2, [.ref ha0_0, .ref ha0_1, .int y2]))] := hD
  refine lv_iload_n hx hb dX2_draw_15 rfl (lv_at hl 1 rfl) ?_
  refine lv_iconst (v := 1) hx hb dX2_draw_16 (by decide) ?_
  refine lv_icmp_ge (tgt := 24) hx hb dX2_draw_17 (by decide) (fun hc => ?_) (fun hc => ?_)
  · have q3 : 1 ≤ p1.toInt := z_le (by decide) rfl hc
    refine lv_aload_n hx hb dX2_draw_24 rfl (lv_at hl 0 rfl) ?_
    refine va_get (D := (dC, dI)) (ci := 2) (v := .int y2) (C := RX2) (T := TX2) (N := 3) hx hb hts in_X2_draw_X2 hown hK hP 0 rfl rfl 2 (by decide) (hts (.fieldLink RX2 25 "EachOnHisCue$Evening" "seed" "I") (by decide +kernel)) (fun _ h9 => h9) rfl dX2_draw_25 ?_
    refine lv_ldc (own := RX2) (v := 2147483647) hx hb hown (hts (.constant RX2 94 (2147483647)) (by decide +kernel)) dX2_draw_28 ?_
    refine lv_iand hx hb dX2_draw_30 ?_
    refine lv_topi (fun y4 ey4 => ?_)
    refine lv_ldc (own := RX2) (v := 65536) hx hb hown (hts (.constant RX2 95 (65536)) (by decide +kernel)) dX2_draw_31 ?_
    refine lv_idiv hx hb dX2_draw_33 (by decide) ?_
    refine lv_topi (fun y5 ey5 => ?_)
    refine lv_iload_n hx hb dX2_draw_34 rfl (lv_at hl 1 rfl) ?_
    refine lv_irem hx hb dX2_draw_35 (z_n0 (by omega)) ?_
    refine lv_topi (fun y6 ey6 => ?_)
    have hP9 := hP.sub (ws' := [(ha0, .inr (2, [.ref ha0_0, .ref ha0_1, .int y2]))]) [0] rfl
    have hD9 := hD.sub (ws' := [(ha0, .inr (2, [.ref ha0_0, .ref ha0_1, .int y2]))]) [0] (by decide) rfl
    exact W.iret (v := y6) hx hb hr (fun t ht hW => ⟨⟨y6, (fun k => [y2].getD k 0, fun k => [].getD k (fun _ => 0)), rfl, (show ((-2147483648) ≤ (y2 : Int32).toInt ∧ (y2 : Int32).toInt ≤ 2147483647) ∧ ((-2147483648) ≤ (y6 : Int32).toInt ∧ (y6 : Int32).toInt ≤ 2147483647) ∧ (True) from ⟨⟨(z_lo _), (z_hi _)⟩, ⟨z_lo _, z_hi _⟩, trivial⟩), by rw [ht]; exact hP9, hD9⟩, hS.F ht⟩) hS.2.2 dX2_draw_36
  · have q7 : p1.toInt < 1 := z_nle (by decide) rfl hc
    refine lv_iconst (v := 0) hx hb dX2_draw_20 (by decide) ?_
    refine lv_goto (tgt := 36) hx hb dX2_draw_21 (by decide) ?_
    have hP9 := hP.sub (ws' := [(ha0, .inr (2, [.ref ha0_0, .ref ha0_1, .int y2]))]) [0] rfl
    have hD9 := hD.sub (ws' := [(ha0, .inr (2, [.ref ha0_0, .ref ha0_1, .int y2]))]) [0] (by decide) rfl
    exact W.iret (v := 0) hx hb hr (fun t ht hW => ⟨⟨0, (fun k => [y2].getD k 0, fun k => [].getD k (fun _ => 0)), rfl, (show ((-2147483648) ≤ (y2 : Int32).toInt ∧ (y2 : Int32).toInt ≤ 2147483647) ∧ ((-2147483648) ≤ (0 : Int32).toInt ∧ (0 : Int32).toInt ≤ 2147483647) ∧ (True) from ⟨⟨(z_lo _), (z_hi _)⟩, ⟨z_lo _, z_hi _⟩, trivial⟩), by rw [ht]; exact hP9, hD9⟩, hS.F ht⟩) hS.2.2 dX2_draw_36
set_option maxRecDepth 20000 in
theorem edX11_refuse_0 : decode cX11_refuse 0 = .ok (.iload_n 1, 1) ∧ decode cX11_refuse 1 = .ok (.ineg, 1) ∧ decode cX11_refuse 2 = .ok (.istore_n 2, 1) ∧ decode cX11_refuse 3 = .ok (.iload_n 2, 1) ∧ decode cX11_refuse 4 = .ok (.iconst 1, 1) ∧ decode cX11_refuse 5 = .ok (.if_icmp .lt 19, 3) ∧ decode cX11_refuse 8 = .ok (.iload_n 2, 1) ∧ decode cX11_refuse 9 = .ok (.bipush 6, 2) ∧ decode cX11_refuse 11 = .ok (.if_icmp .gt 13, 3) ∧ decode cX11_refuse 14 = .ok (.aload_n 0, 1) ∧ decode cX11_refuse 15 = .ok (.getfield 50, 3) ∧ decode cX11_refuse 18 = .ok (.iload_n 2, 1) := by decide +kernel
theorem dX11_refuse_0 : decode cX11_refuse 0 = .ok (.iload_n 1, 1) := edX11_refuse_0.1
theorem dX11_refuse_1 : decode cX11_refuse 1 = .ok (.ineg, 1) := edX11_refuse_0.2.1
theorem dX11_refuse_2 : decode cX11_refuse 2 = .ok (.istore_n 2, 1) := edX11_refuse_0.2.2.1
theorem dX11_refuse_3 : decode cX11_refuse 3 = .ok (.iload_n 2, 1) := edX11_refuse_0.2.2.2.1
theorem dX11_refuse_4 : decode cX11_refuse 4 = .ok (.iconst 1, 1) := edX11_refuse_0.2.2.2.2.1
theorem dX11_refuse_5 : decode cX11_refuse 5 = .ok (.if_icmp .lt 19, 3) := edX11_refuse_0.2.2.2.2.2.1
theorem dX11_refuse_8 : decode cX11_refuse 8 = .ok (.iload_n 2, 1) := edX11_refuse_0.2.2.2.2.2.2.1
theorem dX11_refuse_9 : decode cX11_refuse 9 = .ok (.bipush 6, 2) := edX11_refuse_0.2.2.2.2.2.2.2.1
theorem dX11_refuse_11 : decode cX11_refuse 11 = .ok (.if_icmp .gt 13, 3) := edX11_refuse_0.2.2.2.2.2.2.2.2.1
theorem dX11_refuse_14 : decode cX11_refuse 14 = .ok (.aload_n 0, 1) := edX11_refuse_0.2.2.2.2.2.2.2.2.2.1
theorem dX11_refuse_15 : decode cX11_refuse 15 = .ok (.getfield 50, 3) := edX11_refuse_0.2.2.2.2.2.2.2.2.2.2.1
theorem dX11_refuse_18 : decode cX11_refuse 18 = .ok (.iload_n 2, 1) := edX11_refuse_0.2.2.2.2.2.2.2.2.2.2.2
set_option maxRecDepth 20000 in
theorem edX11_refuse_19 : decode cX11_refuse 19 = .ok (.dup2, 1) ∧ decode cX11_refuse 20 = .ok (.iaload, 1) ∧ decode cX11_refuse 21 = .ok (.iconst 1, 1) ∧ decode cX11_refuse 22 = .ok (.iadd, 1) ∧ decode cX11_refuse 23 = .ok (.iastore, 1) ∧ decode cX11_refuse 24 = .ok (.iload_n 1, 1) ∧ decode cX11_refuse 25 = .ok (.ireturn, 1) := by decide +kernel
theorem dX11_refuse_19 : decode cX11_refuse 19 = .ok (.dup2, 1) := edX11_refuse_19.1
theorem dX11_refuse_20 : decode cX11_refuse 20 = .ok (.iaload, 1) := edX11_refuse_19.2.1
theorem dX11_refuse_21 : decode cX11_refuse 21 = .ok (.iconst 1, 1) := edX11_refuse_19.2.2.1
theorem dX11_refuse_22 : decode cX11_refuse 22 = .ok (.iadd, 1) := edX11_refuse_19.2.2.2.1
theorem dX11_refuse_23 : decode cX11_refuse 23 = .ok (.iastore, 1) := edX11_refuse_19.2.2.2.2.1
theorem dX11_refuse_24 : decode cX11_refuse 24 = .ok (.iload_n 1, 1) := edX11_refuse_19.2.2.2.2.2.1
theorem dX11_refuse_25 : decode cX11_refuse 25 = .ok (.ireturn, 1) := edX11_refuse_19.2.2.2.2.2.2
noncomputable def voX11_refuse : List Cond := [.fieldLink RX11 50 "EachOnHisCue" "refusals" "[I"]
noncomputable def vsX11_refuse : List Cond := .code yX11_refuse cX11_refuse 3 (some .int) :: (voX11_refuse ++ (wsX110))
theorem zgX11 : zGd wsX110 := z_gdO (by decide +kernel)
theorem zgX11_refuse : zGd vsX11_refuse := z_gdC rfl (z_gdA (z_gdO (by decide +kernel) : zGd voX11_refuse) (zgX11))
theorem in_X11_refuse_X11 : ∀ w ∈ wsX110, w ∈ vsX11_refuse := fun _ h => List.mem_cons_of_mem _ (List.mem_append_right _ (h))
set_option maxHeartbeats 4000000 in
set_option maxRecDepth 100000 in
theorem wX11_refuse (l : Launch) (dC : Nat → ClassId) (dI : Nat → Nat → Nat) (cI cQ : ClassId) (ha0 ha0_8 ha0_0 ha0_1 ha0_3 ha0_3_0 ha0_5 ha0_6 : Nat) (fa0_8 : Nat → Int32) (ia0_2 : Int32) (hia0_2l : 0 ≤ ia0_2.toInt) (hia0_2h : ia0_2.toInt ≤ 1) (ia0_7 : Int32) (hia0_7l : 0 ≤ ia0_7.toInt) (hia0_7h : ia0_7.toInt ≤ 12) (p1 : Int32) (sz : Nat) : Met l yX11_refuse vsX11_refuse ({ frames := 0, cells := 0, slots := 0, locals := 0 }) (va_Pc [.ref ha0, .int p1] (zB dC dI cI cQ [(ha0_8, .inl (cI, 7, .inl fa0_8)), (ha0, .inr (11, [.ref ha0_0, .ref ha0_1, .int ia0_2, .ref ha0_3, .ref ha0_3_0, .ref ha0_5, .ref ha0_6, .int ia0_7, .ref ha0_8]))] sz)) (zWi dC dI (va_A [(ha0_8, .inl (cI, 7, .inl fa0_8)), (ha0, .inr (11, [.ref ha0_0, .ref ha0_1, .int ia0_2, .ref ha0_3, .ref ha0_3_0, .ref ha0_5, .ref ha0_6, .int ia0_7, .ref ha0_8]))] sz) (fun u => [(ha0_8, .inl (cI, 7, .inl (u.2 0))), (ha0, .inr (11, [.ref ha0_0, .ref ha0_1, .int ia0_2, .ref ha0_3, .ref ha0_3_0, .ref ha0_5, .ref ha0_6, .int ia0_7, .ref ha0_8]))]) (fun r u => ((-2147483648) ≤ r.toInt ∧ r.toInt ≤ 2147483647) ∧ ((r.toInt = p1.toInt)))) 0 0 (va_A [(ha0_8, .inl (cI, 7, .inl fa0_8)), (ha0, .inr (11, [.ref ha0_0, .ref ha0_1, .int ia0_2, .ref ha0_3, .ref ha0_3_0, .ref ha0_5, .ref ha0_6, .int ia0_7, .ref ha0_8]))] sz) := by
  refine Met.ofW (cc := cX11_refuse) (maxL := 3) (ret := (some .int)) (by decide) rfl ?_
  intro p e s m args below meth c s₁ B hml hv
  obtain ⟨rfl, hsz, hP, hZ, hD0⟩ := hv
  obtain ⟨hK, hAO, hN⟩ := id hZ
  have hx := B.exec
  have hb := B.bytes
  have hr := B.returns
  have hts := atoms_spec (ws := vsX11_refuse) B.pre
  have hown : s.vm.findClass RX11 = some m.cls := findClass_of_methodNamed B.named
  have hlocks := B.notSynchronized
  have hlt0 : ((-9) : Int32).toInt = (-9) := by decide
  have hlt1 : ((-6) : Int32).toInt = (-6) := by decide
  have hlt2 : ((-4) : Int32).toInt = (-4) := by decide
  have hlt3 : ((-3) : Int32).toInt = (-3) := by decide
  have hlt4 : ((-2) : Int32).toInt = (-2) := by decide
  have hlt5 : ((-1) : Int32).toInt = (-1) := by decide
  have hlt6 : (0 : Int32).toInt = 0 := by decide
  have hlt7 : (1 : Int32).toInt = 1 := by decide
  subst hsz
  have hD := hD0.self (sz := s.heap.size)
  generalize hAe : va_A [(ha0_8, .inl (cI, 7, .inl fa0_8)), (ha0, .inr (11, [.ref ha0_0, .ref ha0_1, .int ia0_2, .ref ha0_3, .ref ha0_3_0, .ref ha0_5, .ref ha0_6, .int ia0_7, .ref ha0_8]))] s.heap.size = A at hD ⊢
  have hA : ∀ q : Nat, s.heap.size ≤ q → A q := fun q h => by rw [← hAe]; exact Or.inr h
  have hS : va_S A s.heap s.heap [] := va_S.rf
  have hP : va_P (dC, dI) vwCl [(ha0_8, .inl (cI, 7, .inl fa0_8)), (ha0, .inr (11, [.ref ha0_0, .ref ha0_1, .int ia0_2, .ref ha0_3, .ref ha0_3_0, .ref ha0_5, .ref ha0_6, .int ia0_7, .ref ha0_8]))] s.heap := hP
  have hp1l := z_lo p1
  have hp1h := z_hi p1
  have hl := lv_entry ([.ref ha0, .int p1]) (n := 3) (Nat.le_of_ble_eq_true rfl)
  rw [lg_entry_eq]
  generalize (lg_sl ([.ref ha0, .int p1]) ++ List.replicate (3 - (lg_sl ([.ref ha0, .int p1])).length) Slot.unset).toArray = ls at hl ⊢
  have hl : lv_has ls 3 [(0, .ref ha0), (1, .int p1)] := hl
  refine lv_iload_n hx hb dX11_refuse_0 rfl (lv_at hl 1 rfl) ?_
  refine lv_ineg hx hb dX11_refuse_1 ?_
  refine lv_topi (fun y1 ey1 => ?_)
  refine lv_istore_n (lv' := [(2, .int y1), (0, .ref ha0), (1, .int p1)]) hx hb dX11_refuse_2 rfl hl (by decide) rfl (fun ls hl => ?_)
  refine lv_iload_n hx hb dX11_refuse_3 rfl (lv_at hl 0 rfl) ?_
  refine lv_iconst (v := 1) hx hb dX11_refuse_4 (by decide) ?_
  refine lv_icmp_lt (tgt := 24) hx hb dX11_refuse_5 (by decide) (fun hc => ?_) (fun hc => ?_)
  · have q2 : y1.toInt < 1 := z_lt rfl (by decide) hc
    refine lv_iload_n hx hb dX11_refuse_24 rfl (lv_at hl 2 rfl) ?_
    have hP9 := hP.sub (ws' := [(ha0_8, .inl (cI, 7, .inl fa0_8)), (ha0, .inr (11, [.ref ha0_0, .ref ha0_1, .int ia0_2, .ref ha0_3, .ref ha0_3_0, .ref ha0_5, .ref ha0_6, .int ia0_7, .ref ha0_8]))]) [0, 1] rfl
    have hD9 := hD.sub (ws' := [(ha0_8, .inl (cI, 7, .inl fa0_8)), (ha0, .inr (11, [.ref ha0_0, .ref ha0_1, .int ia0_2, .ref ha0_3, .ref ha0_3_0, .ref ha0_5, .ref ha0_6, .int ia0_7, .ref ha0_8]))]) [0, 1] (by decide) rfl
    have hpo : ((p1 : Int32).toInt = p1.toInt) := by first | omega | decide | (simp; omega)
    exact W.iret (v := p1) hx hb hr (fun t ht hW => ⟨⟨p1, (fun k => [].getD k 0, fun k => [fa0_8].getD k (fun _ => 0)), rfl, (show ((-2147483648) ≤ (p1 : Int32).toInt ∧ (p1 : Int32).toInt ≤ 2147483647) ∧ (((p1 : Int32).toInt = p1.toInt)) from ⟨⟨z_lo _, z_hi _⟩, hpo⟩), by rw [ht]; exact hP9, hD9⟩, hS.F ht⟩) hS.2.2 dX11_refuse_25
  · have q3 : 1 ≤ y1.toInt := z_nlt rfl (by decide) hc
    refine lv_iload_n hx hb dX11_refuse_8 rfl (lv_at hl 0 rfl) ?_
    refine lv_bipush (v := 6) hx hb dX11_refuse_9 (by decide) ?_
    refine lv_icmp_gt (tgt := 24) hx hb dX11_refuse_11 (by decide) (fun hc => ?_) (fun hc => ?_)
    · have q4 : 6 < y1.toInt := z_lt (by decide) rfl hc
      refine lv_iload_n hx hb dX11_refuse_24 rfl (lv_at hl 2 rfl) ?_
      have hP9 := hP.sub (ws' := [(ha0_8, .inl (cI, 7, .inl fa0_8)), (ha0, .inr (11, [.ref ha0_0, .ref ha0_1, .int ia0_2, .ref ha0_3, .ref ha0_3_0, .ref ha0_5, .ref ha0_6, .int ia0_7, .ref ha0_8]))]) [0, 1] rfl
      have hD9 := hD.sub (ws' := [(ha0_8, .inl (cI, 7, .inl fa0_8)), (ha0, .inr (11, [.ref ha0_0, .ref ha0_1, .int ia0_2, .ref ha0_3, .ref ha0_3_0, .ref ha0_5, .ref ha0_6, .int ia0_7, .ref ha0_8]))]) [0, 1] (by decide) rfl
      have hpo : ((p1 : Int32).toInt = p1.toInt) := by first | omega | decide | (simp; omega)
      exact W.iret (v := p1) hx hb hr (fun t ht hW => ⟨⟨p1, (fun k => [].getD k 0, fun k => [fa0_8].getD k (fun _ => 0)), rfl, (show ((-2147483648) ≤ (p1 : Int32).toInt ∧ (p1 : Int32).toInt ≤ 2147483647) ∧ (((p1 : Int32).toInt = p1.toInt)) from ⟨⟨z_lo _, z_hi _⟩, hpo⟩), by rw [ht]; exact hP9, hD9⟩, hS.F ht⟩) hS.2.2 dX11_refuse_25
    · have q5 : y1.toInt ≤ 6 := z_nlt (by decide) rfl hc
      refine lv_aload_n hx hb dX11_refuse_14 rfl (lv_at hl 1 rfl) ?_
      refine va_get (D := (dC, dI)) (ci := 11) (v := .ref ha0_8) (C := RX11) (T := TX11) (N := 9) hx hb hts in_X11_refuse_X11 hown hK hP 1 rfl rfl 8 (by decide) (hts (.fieldLink RX11 50 "EachOnHisCue" "refusals" "[I") (by decide +kernel)) (fun _ h9 => h9) rfl dX11_refuse_15 ?_
      refine lv_iload_n hx hb dX11_refuse_18 rfl (lv_at hl 0 rfl) ?_
      refine lv_dup2_11 hx hb dX11_refuse_19 rfl rfl ?_
      refine va_iald hx hb hK hP 0 0 rfl rfl (z_in (by omega) (by omega)) dX11_refuse_20 ?_
      refine lv_topi (fun y6 ey6 => ?_)
      have gy6 : y6.toInt = (fa0_8 (y1 : Int32).toNatClampNeg).toInt := by rw [ey6]
      refine lv_iconst (v := 1) hx hb dX11_refuse_21 (by decide) ?_
      refine lv_iadd hx hb dX11_refuse_22 ?_
      refine lv_topi (fun y7 ey7 => ?_)
      refine va_iast hx hb hK hP hD hS 0 0 rfl rfl (z_in (by omega) (by omega)) dX11_refuse_23 (fun H locs hP hD hS => ?_)
      generalize ef8 : upd fa0_8 (y1 : Int32).toNatClampNeg y7 = f8 at hP hD
      have hP : va_P (dC, dI) vwCl [(ha0_8, .inl (cI, 7, .inl f8)), (ha0, .inr (11, [.ref ha0_0, .ref ha0_1, .int ia0_2, .ref ha0_3, .ref ha0_3_0, .ref ha0_5, .ref ha0_6, .int ia0_7, .ref ha0_8]))] H := hP
      have hD : va_D A [(ha0_8, .inl (cI, 7, .inl f8)), (ha0, .inr (11, [.ref ha0_0, .ref ha0_1, .int ia0_2, .ref ha0_3, .ref ha0_3_0, .ref ha0_5, .ref ha0_6, .int ia0_7, .ref ha0_8]))] := hD
      refine lv_iload_n hx hb dX11_refuse_24 rfl (lv_at hl 2 rfl) ?_
      have hP9 := hP.sub (ws' := [(ha0_8, .inl (cI, 7, .inl f8)), (ha0, .inr (11, [.ref ha0_0, .ref ha0_1, .int ia0_2, .ref ha0_3, .ref ha0_3_0, .ref ha0_5, .ref ha0_6, .int ia0_7, .ref ha0_8]))]) [0, 1] rfl
      have hD9 := hD.sub (ws' := [(ha0_8, .inl (cI, 7, .inl f8)), (ha0, .inr (11, [.ref ha0_0, .ref ha0_1, .int ia0_2, .ref ha0_3, .ref ha0_3_0, .ref ha0_5, .ref ha0_6, .int ia0_7, .ref ha0_8]))]) [0, 1] (by decide) rfl
      have hpo : ((p1 : Int32).toInt = p1.toInt) := by first | omega | decide | (simp; omega)
      exact W.iret (v := p1) hx hb hr (fun t ht hW => ⟨⟨p1, (fun k => [].getD k 0, fun k => [f8].getD k (fun _ => 0)), rfl, (show ((-2147483648) ≤ (p1 : Int32).toInt ∧ (p1 : Int32).toInt ≤ 2147483647) ∧ (((p1 : Int32).toInt = p1.toInt)) from ⟨⟨z_lo _, z_hi _⟩, hpo⟩), by rw [ht]; exact hP9, hD9⟩, hS.F ht⟩) hS.2.2 dX11_refuse_25
set_option maxRecDepth 20000 in
theorem edX12_no_0 : decode cX12_no 0 = .ok (.aload_n 0, 1) ∧ decode cX12_no 1 = .ok (.getfield 7, 3) ∧ decode cX12_no 4 = .ok (.iload_n 1, 1) ∧ decode cX12_no 5 = .ok (.ineg, 1) ∧ decode cX12_no 6 = .ok (.dup2, 1) ∧ decode cX12_no 7 = .ok (.iaload, 1) ∧ decode cX12_no 8 = .ok (.iconst 1, 1) ∧ decode cX12_no 9 = .ok (.iadd, 1) ∧ decode cX12_no 10 = .ok (.iastore, 1) ∧ decode cX12_no 11 = .ok (.iload_n 1, 1) ∧ decode cX12_no 12 = .ok (.ireturn, 1) := by decide +kernel
theorem dX12_no_0 : decode cX12_no 0 = .ok (.aload_n 0, 1) := edX12_no_0.1
theorem dX12_no_1 : decode cX12_no 1 = .ok (.getfield 7, 3) := edX12_no_0.2.1
theorem dX12_no_4 : decode cX12_no 4 = .ok (.iload_n 1, 1) := edX12_no_0.2.2.1
theorem dX12_no_5 : decode cX12_no 5 = .ok (.ineg, 1) := edX12_no_0.2.2.2.1
theorem dX12_no_6 : decode cX12_no 6 = .ok (.dup2, 1) := edX12_no_0.2.2.2.2.1
theorem dX12_no_7 : decode cX12_no 7 = .ok (.iaload, 1) := edX12_no_0.2.2.2.2.2.1
theorem dX12_no_8 : decode cX12_no 8 = .ok (.iconst 1, 1) := edX12_no_0.2.2.2.2.2.2.1
theorem dX12_no_9 : decode cX12_no 9 = .ok (.iadd, 1) := edX12_no_0.2.2.2.2.2.2.2.1
theorem dX12_no_10 : decode cX12_no 10 = .ok (.iastore, 1) := edX12_no_0.2.2.2.2.2.2.2.2.1
theorem dX12_no_11 : decode cX12_no 11 = .ok (.iload_n 1, 1) := edX12_no_0.2.2.2.2.2.2.2.2.2.1
theorem dX12_no_12 : decode cX12_no 12 = .ok (.ireturn, 1) := edX12_no_0.2.2.2.2.2.2.2.2.2.2
noncomputable def voX12_no : List Cond := [.fieldLink RX12 7 "EachOnHisCueModel" "refused" "[I"]
noncomputable def vsX12_no : List Cond := .code yX12_no cX12_no 2 (some .int) :: (voX12_no ++ (wsX120))
theorem zgX12_no : zGd vsX12_no := z_gdC rfl (z_gdA (z_gdO (by decide +kernel) : zGd voX12_no) (zgX12))
theorem in_X12_no_X12 : ∀ w ∈ wsX120, w ∈ vsX12_no := fun _ h => List.mem_cons_of_mem _ (List.mem_append_right _ (h))
set_option maxHeartbeats 4000000 in
set_option maxRecDepth 100000 in
theorem wX12_no (l : Launch) (dC : Nat → ClassId) (dI : Nat → Nat → Nat) (cI cQ : ClassId) (ha0 ha0_0 ha0_1 ha0_2 ha0_3 ha0_4 ha0_5 ha0_6 ha0_7 ha0_8 ha0_16 ha0_17 ha0_18 ha0_19 ha0_23 ha0_29 ha0_33 ha0_34 ha0_35 : Nat) (fa0_0 : Nat → Int32) (ia0_9 : Int32) (hia0_9l : 0 ≤ ia0_9.toInt) (hia0_9h : ia0_9.toInt ≤ 5) (ia0_10 : Int32) (hia0_10l : 0 ≤ ia0_10.toInt) (hia0_10h : ia0_10.toInt ≤ 12) (ia0_11 : Int32) (ia0_12 : Int32) (ia0_13 : Int32) (ia0_14 : Int32) (hia0_14l : (-9) ≤ ia0_14.toInt) (hia0_14h : ia0_14.toInt ≤ 11) (ia0_15 : Int32) (ia0_20 : Int32) (hia0_20l : 0 ≤ ia0_20.toInt) (hia0_20h : ia0_20.toInt ≤ 80) (ia0_21 : Int32) (hia0_21l : 0 ≤ ia0_21.toInt) (hia0_21h : ia0_21.toInt ≤ 80) (ia0_22 : Int32) (hia0_22l : 0 ≤ ia0_22.toInt) (hia0_22h : ia0_22.toInt ≤ 40) (ia0_24 : Int32) (hia0_24l : 0 ≤ ia0_24.toInt) (hia0_24h : ia0_24.toInt ≤ 1) (ia0_25 : Int32) (hia0_25l : 0 ≤ ia0_25.toInt) (hia0_25h : ia0_25.toInt ≤ 1) (ia0_26 : Int32) (hia0_26l : 0 ≤ ia0_26.toInt) (hia0_26h : ia0_26.toInt ≤ 300) (ia0_27 : Int32) (hia0_27l : (-9) ≤ ia0_27.toInt) (hia0_27h : ia0_27.toInt ≤ 11) (ia0_28 : Int32) (ia0_30 : Int32) (hia0_30l : 0 ≤ ia0_30.toInt) (hia0_30h : ia0_30.toInt ≤ 60) (ia0_31 : Int32) (ia0_32 : Int32) (hia0_32l : 0 ≤ ia0_32.toInt) (hia0_32h : ia0_32.toInt ≤ 1) (ia0_36 : Int32) (hia0_36l : 0 ≤ ia0_36.toInt) (hia0_36h : ia0_36.toInt ≤ 12) (ia0_37 : Int32) (p1 : Int32) (hp1l : (-6) ≤ p1.toInt) (hp1h : p1.toInt ≤ (-1)) (sz : Nat) : Met l yX12_no vsX12_no ({ frames := 0, cells := 0, slots := 0, locals := 0 }) (va_Pc [.ref ha0, .int p1] (zB dC dI cI cQ [(ha0_0, .inl (cI, 7, .inl fa0_0)), (ha0, .inr (12, [.ref ha0_0, .ref ha0_1, .ref ha0_2, .ref ha0_3, .ref ha0_4, .ref ha0_5, .ref ha0_6, .ref ha0_7, .ref ha0_8, .int ia0_9, .int ia0_10, .int ia0_11, .int ia0_12, .int ia0_13, .int ia0_14, .int ia0_15, .ref ha0_16, .ref ha0_17, .ref ha0_18, .ref ha0_19, .int ia0_20, .int ia0_21, .int ia0_22, .ref ha0_23, .int ia0_24, .int ia0_25, .int ia0_26, .int ia0_27, .int ia0_28, .ref ha0_29, .int ia0_30, .int ia0_31, .int ia0_32, .ref ha0_33, .ref ha0_34, .ref ha0_35, .int ia0_36, .int ia0_37]))] sz)) (zWi dC dI (va_A [(ha0_0, .inl (cI, 7, .inl fa0_0)), (ha0, .inr (12, [.ref ha0_0, .ref ha0_1, .ref ha0_2, .ref ha0_3, .ref ha0_4, .ref ha0_5, .ref ha0_6, .ref ha0_7, .ref ha0_8, .int ia0_9, .int ia0_10, .int ia0_11, .int ia0_12, .int ia0_13, .int ia0_14, .int ia0_15, .ref ha0_16, .ref ha0_17, .ref ha0_18, .ref ha0_19, .int ia0_20, .int ia0_21, .int ia0_22, .ref ha0_23, .int ia0_24, .int ia0_25, .int ia0_26, .int ia0_27, .int ia0_28, .ref ha0_29, .int ia0_30, .int ia0_31, .int ia0_32, .ref ha0_33, .ref ha0_34, .ref ha0_35, .int ia0_36, .int ia0_37]))] sz) (fun u => [(ha0_0, .inl (cI, 7, .inl (u.2 0))), (ha0, .inr (12, [.ref ha0_0, .ref ha0_1, .ref ha0_2, .ref ha0_3, .ref ha0_4, .ref ha0_5, .ref ha0_6, .ref ha0_7, .ref ha0_8, .int ia0_9, .int ia0_10, .int ia0_11, .int ia0_12, .int ia0_13, .int ia0_14, .int ia0_15, .ref ha0_16, .ref ha0_17, .ref ha0_18, .ref ha0_19, .int ia0_20, .int ia0_21, .int ia0_22, .ref ha0_23, .int ia0_24, .int ia0_25, .int ia0_26, .int ia0_27, .int ia0_28, .ref ha0_29, .int ia0_30, .int ia0_31, .int ia0_32, .ref ha0_33, .ref ha0_34, .ref ha0_35, .int ia0_36, .int ia0_37]))]) (fun r u => ((-6) ≤ r.toInt ∧ r.toInt ≤ (-1)) ∧ ((r.toInt = p1.toInt)))) 0 0 (va_A [(ha0_0, .inl (cI, 7, .inl fa0_0)), (ha0, .inr (12, [.ref ha0_0, .ref ha0_1, .ref ha0_2, .ref ha0_3, .ref ha0_4, .ref ha0_5, .ref ha0_6, .ref ha0_7, .ref ha0_8, .int ia0_9, .int ia0_10, .int ia0_11, .int ia0_12, .int ia0_13, .int ia0_14, .int ia0_15, .ref ha0_16, .ref ha0_17, .ref ha0_18, .ref ha0_19, .int ia0_20, .int ia0_21, .int ia0_22, .ref ha0_23, .int ia0_24, .int ia0_25, .int ia0_26, .int ia0_27, .int ia0_28, .ref ha0_29, .int ia0_30, .int ia0_31, .int ia0_32, .ref ha0_33, .ref ha0_34, .ref ha0_35, .int ia0_36, .int ia0_37]))] sz) := by
  refine Met.ofW (cc := cX12_no) (maxL := 2) (ret := (some .int)) (by decide) rfl ?_
  intro p e s m args below meth c s₁ B hml hv
  obtain ⟨rfl, hsz, hP, hZ, hD0⟩ := hv
  obtain ⟨hK, hAO, hN⟩ := id hZ
  have hx := B.exec
  have hb := B.bytes
  have hr := B.returns
  have hts := atoms_spec (ws := vsX12_no) B.pre
  have hown : s.vm.findClass RX12 = some m.cls := findClass_of_methodNamed B.named
  have hlocks := B.notSynchronized
  have hlt0 : ((-9) : Int32).toInt = (-9) := by decide
  have hlt1 : ((-6) : Int32).toInt = (-6) := by decide
  have hlt2 : ((-4) : Int32).toInt = (-4) := by decide
  have hlt3 : ((-3) : Int32).toInt = (-3) := by decide
  have hlt4 : ((-2) : Int32).toInt = (-2) := by decide
  have hlt5 : ((-1) : Int32).toInt = (-1) := by decide
  have hlt6 : (0 : Int32).toInt = 0 := by decide
  have hlt7 : (1 : Int32).toInt = 1 := by decide
  subst hsz
  have hD := hD0.self (sz := s.heap.size)
  generalize hAe : va_A [(ha0_0, .inl (cI, 7, .inl fa0_0)), (ha0, .inr (12, [.ref ha0_0, .ref ha0_1, .ref ha0_2, .ref ha0_3, .ref ha0_4, .ref ha0_5, .ref ha0_6, .ref ha0_7, .ref ha0_8, .int ia0_9, .int ia0_10, .int ia0_11, .int ia0_12, .int ia0_13, .int ia0_14, .int ia0_15, .ref ha0_16, .ref ha0_17, .ref ha0_18, .ref ha0_19, .int ia0_20, .int ia0_21, .int ia0_22, .ref ha0_23, .int ia0_24, .int ia0_25, .int ia0_26, .int ia0_27, .int ia0_28, .ref ha0_29, .int ia0_30, .int ia0_31, .int ia0_32, .ref ha0_33, .ref ha0_34, .ref ha0_35, .int ia0_36, .int ia0_37]))] s.heap.size = A at hD ⊢
  have hA : ∀ q : Nat, s.heap.size ≤ q → A q := fun q h => by rw [← hAe]; exact Or.inr h
  have hS : va_S A s.heap s.heap [] := va_S.rf
  have hP : va_P (dC, dI) vwCl [(ha0_0, .inl (cI, 7, .inl fa0_0)), (ha0, .inr (12, [.ref ha0_0, .ref ha0_1, .ref ha0_2, .ref ha0_3, .ref ha0_4, .ref ha0_5, .ref ha0_6, .ref ha0_7, .ref ha0_8, .int ia0_9, .int ia0_10, .int ia0_11, .int ia0_12, .int ia0_13, .int ia0_14, .int ia0_15, .ref ha0_16, .ref ha0_17, .ref ha0_18, .ref ha0_19, .int ia0_20, .int ia0_21, .int ia0_22, .ref ha0_23, .int ia0_24, .int ia0_25, .int ia0_26, .int ia0_27, .int ia0_28, .ref ha0_29, .int ia0_30, .int ia0_31, .int ia0_32, .ref ha0_33, .ref ha0_34, .ref ha0_35, .int ia0_36, .int ia0_37]))] s.heap := hP
  have hl := lv_entry ([.ref ha0, .int p1]) (n := 2) (Nat.le_of_ble_eq_true rfl)
  rw [lg_entry_eq]
  generalize (lg_sl ([.ref ha0, .int p1]) ++ List.replicate (2 - (lg_sl ([.ref ha0, .int p1])).length) Slot.unset).toArray = ls at hl ⊢
  have hl : lv_has ls 2 [(0, .ref ha0), (1, .int p1)] := hl
  refine lv_aload_n hx hb dX12_no_0 rfl (lv_at hl 0 rfl) ?_
  refine va_get (D := (dC, dI)) (ci := 12) (v := .ref ha0_0) (C := RX12) (T := TX12) (N := 38) hx hb hts in_X12_no_X12 hown hK hP 1 rfl rfl 0 (by decide) (hts (.fieldLink RX12 7 "EachOnHisCueModel" "refused" "[I") (by decide +kernel)) (fun _ h9 => h9) rfl dX12_no_1 ?_
  refine lv_iload_n hx hb dX12_no_4 rfl (lv_at hl 1 rfl) ?_
  refine lv_ineg hx hb dX12_no_5 ?_
  refine lv_topi (fun y1 ey1 => ?_)
  have hy1 : y1.toInt = -p1.toInt := by rw [ey1]; exact z_neg rfl (by omega) (by omega)
  refine lv_dup2_11 hx hb dX12_no_6 rfl rfl ?_
  refine va_iald hx hb hK hP 0 0 rfl rfl (z_in (by omega) (by omega)) dX12_no_7 ?_
  refine lv_topi (fun y2 ey2 => ?_)
  have gy2 : y2.toInt = (fa0_0 (y1 : Int32).toNatClampNeg).toInt := by rw [ey2]
  refine lv_iconst (v := 1) hx hb dX12_no_8 (by decide) ?_
  refine lv_iadd hx hb dX12_no_9 ?_
  refine lv_topi (fun y3 ey3 => ?_)
  refine va_iast hx hb hK hP hD hS 0 0 rfl rfl (z_in (by omega) (by omega)) dX12_no_10 (fun H locs hP hD hS => ?_)
  generalize ef4 : upd fa0_0 (y1 : Int32).toNatClampNeg y3 = f4 at hP hD
  have hP : va_P (dC, dI) vwCl [(ha0_0, .inl (cI, 7, .inl f4)), (ha0, .inr (12, [.ref ha0_0, .ref ha0_1, .ref ha0_2, .ref ha0_3, .ref ha0_4, .ref ha0_5, .ref ha0_6, .ref ha0_7, .ref ha0_8, .int ia0_9, .int ia0_10, .int ia0_11, .int ia0_12, .int ia0_13, .int ia0_14, .int ia0_15, .ref ha0_16, .ref ha0_17, .ref ha0_18, .ref ha0_19, .int ia0_20, .int ia0_21, .int ia0_22, .ref ha0_23, .int ia0_24, .int ia0_25, .int ia0_26, .int ia0_27, .int ia0_28, .ref ha0_29, .int ia0_30, .int ia0_31, .int ia0_32, .ref ha0_33, .ref ha0_34, .ref ha0_35, .int ia0_36, .int ia0_37]))] H := hP
  have hD : va_D A [(ha0_0, .inl (cI, 7, .inl f4)), (ha0, .inr (12, [.ref ha0_0, .ref ha0_1, .ref ha0_2, .ref ha0_3, .ref ha0_4, .ref ha0_5, .ref ha0_6, .ref ha0_7, .ref ha0_8, .int ia0_9, .int ia0_10, .int ia0_11, .int ia0_12, .int ia0_13, .int ia0_14, .int ia0_15, .ref ha0_16, .ref ha0_17, .ref ha0_18, .ref ha0_19, .int ia0_20, .int ia0_21, .int ia0_22, .ref ha0_23, .int ia0_24, .int ia0_25, .int ia0_26, .int ia0_27, .int ia0_28, .ref ha0_29, .int ia0_30, .int ia0_31, .int ia0_32, .ref ha0_33, .ref ha0_34, .ref ha0_35, .int ia0_36, .int ia0_37]))] := hD
  refine lv_iload_n hx hb dX12_no_11 rfl (lv_at hl 1 rfl) ?_
  have hP9 := hP.sub (ws' := [(ha0_0, .inl (cI, 7, .inl f4)), (ha0, .inr (12, [.ref ha0_0, .ref ha0_1, .ref ha0_2, .ref ha0_3, .ref ha0_4, .ref ha0_5, .ref ha0_6, .ref ha0_7, .ref ha0_8, .int ia0_9, .int ia0_10, .int ia0_11, .int ia0_12, .int ia0_13, .int ia0_14, .int ia0_15, .ref ha0_16, .ref ha0_17, .ref ha0_18, .ref ha0_19, .int ia0_20, .int ia0_21, .int ia0_22, .ref ha0_23, .int ia0_24, .int ia0_25, .int ia0_26, .int ia0_27, .int ia0_28, .ref ha0_29, .int ia0_30, .int ia0_31, .int ia0_32, .ref ha0_33, .ref ha0_34, .ref ha0_35, .int ia0_36, .int ia0_37]))]) [0, 1] rfl
  have hD9 := hD.sub (ws' := [(ha0_0, .inl (cI, 7, .inl f4)), (ha0, .inr (12, [.ref ha0_0, .ref ha0_1, .ref ha0_2, .ref ha0_3, .ref ha0_4, .ref ha0_5, .ref ha0_6, .ref ha0_7, .ref ha0_8, .int ia0_9, .int ia0_10, .int ia0_11, .int ia0_12, .int ia0_13, .int ia0_14, .int ia0_15, .ref ha0_16, .ref ha0_17, .ref ha0_18, .ref ha0_19, .int ia0_20, .int ia0_21, .int ia0_22, .ref ha0_23, .int ia0_24, .int ia0_25, .int ia0_26, .int ia0_27, .int ia0_28, .ref ha0_29, .int ia0_30, .int ia0_31, .int ia0_32, .ref ha0_33, .ref ha0_34, .ref ha0_35, .int ia0_36, .int ia0_37]))]) [0, 1] (by decide) rfl
  have hpo : ((p1 : Int32).toInt = p1.toInt) := by first | omega | decide | (simp; omega)
  exact W.iret (v := p1) hx hb hr (fun t ht hW => ⟨⟨p1, (fun k => [].getD k 0, fun k => [f4].getD k (fun _ => 0)), rfl, (show ((-6) ≤ (p1 : Int32).toInt ∧ (p1 : Int32).toInt ≤ (-1)) ∧ (((p1 : Int32).toInt = p1.toInt)) from ⟨⟨by first | decide | omega, by first | decide | omega⟩, hpo⟩), by rw [ht]; exact hP9, hD9⟩, hS.F ht⟩) hS.2.2 dX12_no_12
set_option maxRecDepth 20000 in
theorem edX12_lowest_0 : decode cX12_lowest 0 = .ok (.aload_n 0, 1) ∧ decode cX12_lowest 1 = .ok (.getfield 7, 3) ∧ decode cX12_lowest 4 = .ok (.iload_n 1, 1) ∧ decode cX12_lowest 5 = .ok (.ineg, 1) ∧ decode cX12_lowest 6 = .ok (.dup2, 1) ∧ decode cX12_lowest 7 = .ok (.iaload, 1) ∧ decode cX12_lowest 8 = .ok (.iconst 1, 1) ∧ decode cX12_lowest 9 = .ok (.iadd, 1) ∧ decode cX12_lowest 10 = .ok (.iastore, 1) ∧ decode cX12_lowest 11 = .ok (.ldc2_w 74, 3) ∧ decode cX12_lowest 14 = .ok (.iload_n 1, 1) ∧ decode cX12_lowest 15 = .ok (.i2l, 1) := by decide +kernel
theorem dX12_lowest_0 : decode cX12_lowest 0 = .ok (.aload_n 0, 1) := edX12_lowest_0.1
theorem dX12_lowest_1 : decode cX12_lowest 1 = .ok (.getfield 7, 3) := edX12_lowest_0.2.1
theorem dX12_lowest_4 : decode cX12_lowest 4 = .ok (.iload_n 1, 1) := edX12_lowest_0.2.2.1
theorem dX12_lowest_5 : decode cX12_lowest 5 = .ok (.ineg, 1) := edX12_lowest_0.2.2.2.1
theorem dX12_lowest_6 : decode cX12_lowest 6 = .ok (.dup2, 1) := edX12_lowest_0.2.2.2.2.1
theorem dX12_lowest_7 : decode cX12_lowest 7 = .ok (.iaload, 1) := edX12_lowest_0.2.2.2.2.2.1
theorem dX12_lowest_8 : decode cX12_lowest 8 = .ok (.iconst 1, 1) := edX12_lowest_0.2.2.2.2.2.2.1
theorem dX12_lowest_9 : decode cX12_lowest 9 = .ok (.iadd, 1) := edX12_lowest_0.2.2.2.2.2.2.2.1
theorem dX12_lowest_10 : decode cX12_lowest 10 = .ok (.iastore, 1) := edX12_lowest_0.2.2.2.2.2.2.2.2.1
theorem dX12_lowest_11 : decode cX12_lowest 11 = .ok (.ldc2_w 74, 3) := edX12_lowest_0.2.2.2.2.2.2.2.2.2.1
theorem dX12_lowest_14 : decode cX12_lowest 14 = .ok (.iload_n 1, 1) := edX12_lowest_0.2.2.2.2.2.2.2.2.2.2.1
theorem dX12_lowest_15 : decode cX12_lowest 15 = .ok (.i2l, 1) := edX12_lowest_0.2.2.2.2.2.2.2.2.2.2.2
set_option maxRecDepth 20000 in
theorem edX12_lowest_16 : decode cX12_lowest 16 = .ok (.lsub, 1) ∧ decode cX12_lowest 17 = .ok (.lreturn, 1) := by decide +kernel
theorem dX12_lowest_16 : decode cX12_lowest 16 = .ok (.lsub, 1) := edX12_lowest_16.1
theorem dX12_lowest_17 : decode cX12_lowest 17 = .ok (.lreturn, 1) := edX12_lowest_16.2
noncomputable def voX12_lowest : List Cond := [.fieldLink RX12 7 "EachOnHisCueModel" "refused" "[I", .constantLong RX12 74 (4000000000000000000)]
noncomputable def vsX12_lowest : List Cond := .code yX12_lowest cX12_lowest 2 (some .long) :: (voX12_lowest ++ (wsX120))
theorem zgX12_lowest : zGd vsX12_lowest := z_gdC rfl (z_gdA (z_gdO (by decide +kernel) : zGd voX12_lowest) (zgX12))
theorem in_X12_lowest_X12 : ∀ w ∈ wsX120, w ∈ vsX12_lowest := fun _ h => List.mem_cons_of_mem _ (List.mem_append_right _ (h))
set_option maxHeartbeats 4000000 in
set_option maxRecDepth 100000 in
theorem wX12_lowest (l : Launch) (dC : Nat → ClassId) (dI : Nat → Nat → Nat) (cI cQ : ClassId) (ha0 ha0_0 ha0_1 ha0_2 ha0_3 ha0_4 ha0_5 ha0_6 ha0_7 ha0_8 ha0_16 ha0_17 ha0_18 ha0_19 ha0_23 ha0_29 ha0_33 ha0_34 ha0_35 : Nat) (fa0_0 : Nat → Int32) (ia0_9 : Int32) (hia0_9l : 0 ≤ ia0_9.toInt) (hia0_9h : ia0_9.toInt ≤ 5) (ia0_10 : Int32) (hia0_10l : 0 ≤ ia0_10.toInt) (hia0_10h : ia0_10.toInt ≤ 12) (ia0_11 : Int32) (ia0_12 : Int32) (ia0_13 : Int32) (ia0_14 : Int32) (hia0_14l : (-9) ≤ ia0_14.toInt) (hia0_14h : ia0_14.toInt ≤ 11) (ia0_15 : Int32) (ia0_20 : Int32) (hia0_20l : 0 ≤ ia0_20.toInt) (hia0_20h : ia0_20.toInt ≤ 80) (ia0_21 : Int32) (hia0_21l : 0 ≤ ia0_21.toInt) (hia0_21h : ia0_21.toInt ≤ 80) (ia0_22 : Int32) (hia0_22l : 0 ≤ ia0_22.toInt) (hia0_22h : ia0_22.toInt ≤ 40) (ia0_24 : Int32) (hia0_24l : 0 ≤ ia0_24.toInt) (hia0_24h : ia0_24.toInt ≤ 1) (ia0_25 : Int32) (hia0_25l : 0 ≤ ia0_25.toInt) (hia0_25h : ia0_25.toInt ≤ 1) (ia0_26 : Int32) (hia0_26l : 0 ≤ ia0_26.toInt) (hia0_26h : ia0_26.toInt ≤ 300) (ia0_27 : Int32) (hia0_27l : (-9) ≤ ia0_27.toInt) (hia0_27h : ia0_27.toInt ≤ 11) (ia0_28 : Int32) (ia0_30 : Int32) (hia0_30l : 0 ≤ ia0_30.toInt) (hia0_30h : ia0_30.toInt ≤ 60) (ia0_31 : Int32) (ia0_32 : Int32) (hia0_32l : 0 ≤ ia0_32.toInt) (hia0_32h : ia0_32.toInt ≤ 1) (ia0_36 : Int32) (hia0_36l : 0 ≤ ia0_36.toInt) (hia0_36h : ia0_36.toInt ≤ 12) (ia0_37 : Int32) (p1 : Int32) (hp1l : (-6) ≤ p1.toInt) (hp1h : p1.toInt ≤ (-1)) (sz : Nat) : Met l yX12_lowest vsX12_lowest ({ frames := 0, cells := 0, slots := 0, locals := 0 }) (va_Pc [.ref ha0, .int p1] (zB dC dI cI cQ [(ha0_0, .inl (cI, 7, .inl fa0_0)), (ha0, .inr (12, [.ref ha0_0, .ref ha0_1, .ref ha0_2, .ref ha0_3, .ref ha0_4, .ref ha0_5, .ref ha0_6, .ref ha0_7, .ref ha0_8, .int ia0_9, .int ia0_10, .int ia0_11, .int ia0_12, .int ia0_13, .int ia0_14, .int ia0_15, .ref ha0_16, .ref ha0_17, .ref ha0_18, .ref ha0_19, .int ia0_20, .int ia0_21, .int ia0_22, .ref ha0_23, .int ia0_24, .int ia0_25, .int ia0_26, .int ia0_27, .int ia0_28, .ref ha0_29, .int ia0_30, .int ia0_31, .int ia0_32, .ref ha0_33, .ref ha0_34, .ref ha0_35, .int ia0_36, .int ia0_37]))] sz)) (zWl dC dI (va_A [(ha0_0, .inl (cI, 7, .inl fa0_0)), (ha0, .inr (12, [.ref ha0_0, .ref ha0_1, .ref ha0_2, .ref ha0_3, .ref ha0_4, .ref ha0_5, .ref ha0_6, .ref ha0_7, .ref ha0_8, .int ia0_9, .int ia0_10, .int ia0_11, .int ia0_12, .int ia0_13, .int ia0_14, .int ia0_15, .ref ha0_16, .ref ha0_17, .ref ha0_18, .ref ha0_19, .int ia0_20, .int ia0_21, .int ia0_22, .ref ha0_23, .int ia0_24, .int ia0_25, .int ia0_26, .int ia0_27, .int ia0_28, .ref ha0_29, .int ia0_30, .int ia0_31, .int ia0_32, .ref ha0_33, .ref ha0_34, .ref ha0_35, .int ia0_36, .int ia0_37]))] sz) (fun u => [(ha0_0, .inl (cI, 7, .inl (u.2 0))), (ha0, .inr (12, [.ref ha0_0, .ref ha0_1, .ref ha0_2, .ref ha0_3, .ref ha0_4, .ref ha0_5, .ref ha0_6, .ref ha0_7, .ref ha0_8, .int ia0_9, .int ia0_10, .int ia0_11, .int ia0_12, .int ia0_13, .int ia0_14, .int ia0_15, .ref ha0_16, .ref ha0_17, .ref ha0_18, .ref ha0_19, .int ia0_20, .int ia0_21, .int ia0_22, .ref ha0_23, .int ia0_24, .int ia0_25, .int ia0_26, .int ia0_27, .int ia0_28, .ref ha0_29, .int ia0_30, .int ia0_31, .int ia0_32, .ref ha0_33, .ref ha0_34, .ref ha0_35, .int ia0_36, .int ia0_37]))]) (fun r u => True)) 0 0 (va_A [(ha0_0, .inl (cI, 7, .inl fa0_0)), (ha0, .inr (12, [.ref ha0_0, .ref ha0_1, .ref ha0_2, .ref ha0_3, .ref ha0_4, .ref ha0_5, .ref ha0_6, .ref ha0_7, .ref ha0_8, .int ia0_9, .int ia0_10, .int ia0_11, .int ia0_12, .int ia0_13, .int ia0_14, .int ia0_15, .ref ha0_16, .ref ha0_17, .ref ha0_18, .ref ha0_19, .int ia0_20, .int ia0_21, .int ia0_22, .ref ha0_23, .int ia0_24, .int ia0_25, .int ia0_26, .int ia0_27, .int ia0_28, .ref ha0_29, .int ia0_30, .int ia0_31, .int ia0_32, .ref ha0_33, .ref ha0_34, .ref ha0_35, .int ia0_36, .int ia0_37]))] sz) := by
  refine Met.ofW (cc := cX12_lowest) (maxL := 2) (ret := (some .long)) (by decide) rfl ?_
  intro p e s m args below meth c s₁ B hml hv
  obtain ⟨rfl, hsz, hP, hZ, hD0⟩ := hv
  obtain ⟨hK, hAO, hN⟩ := id hZ
  have hx := B.exec
  have hb := B.bytes
  have hr := B.returns
  have hts := atoms_spec (ws := vsX12_lowest) B.pre
  have hown : s.vm.findClass RX12 = some m.cls := findClass_of_methodNamed B.named
  have hlocks := B.notSynchronized
  subst hsz
  have hD := hD0.self (sz := s.heap.size)
  generalize hAe : va_A [(ha0_0, .inl (cI, 7, .inl fa0_0)), (ha0, .inr (12, [.ref ha0_0, .ref ha0_1, .ref ha0_2, .ref ha0_3, .ref ha0_4, .ref ha0_5, .ref ha0_6, .ref ha0_7, .ref ha0_8, .int ia0_9, .int ia0_10, .int ia0_11, .int ia0_12, .int ia0_13, .int ia0_14, .int ia0_15, .ref ha0_16, .ref ha0_17, .ref ha0_18, .ref ha0_19, .int ia0_20, .int ia0_21, .int ia0_22, .ref ha0_23, .int ia0_24, .int ia0_25, .int ia0_26, .int ia0_27, .int ia0_28, .ref ha0_29, .int ia0_30, .int ia0_31, .int ia0_32, .ref ha0_33, .ref ha0_34, .ref ha0_35, .int ia0_36, .int ia0_37]))] s.heap.size = A at hD ⊢
  have hA : ∀ q : Nat, s.heap.size ≤ q → A q := fun q h => by rw [← hAe]; exact Or.inr h
  have hS : va_S A s.heap s.heap [] := va_S.rf
  have hP : va_P (dC, dI) vwCl [(ha0_0, .inl (cI, 7, .inl fa0_0)), (ha0, .inr (12, [.ref ha0_0, .ref ha0_1, .ref ha0_2, .ref ha0_3, .ref ha0_4, .ref ha0_5, .ref ha0_6, .ref ha0_7, .ref ha0_8, .int ia0_9, .int ia0_10, .int ia0_11, .int ia0_12, .int ia0_13, .int ia0_14, .int ia0_15, .ref ha0_16, .ref ha0_17, .ref ha0_18, .ref ha0_19, .int ia0_20, .int ia0_21, .int ia0_22, .ref ha0_23, .int ia0_24, .int ia0_25, .int ia0_26, .int ia0_27, .int ia0_28, .ref ha0_29, .int ia0_30, .int ia0_31, .int ia0_32, .ref ha0_33, .ref ha0_34, .ref ha0_35, .int ia0_36, .int ia0_37]))] s.heap := hP
  have hl := lv_entry ([.ref ha0, .int p1]) (n := 2) (Nat.le_of_ble_eq_true rfl)
  rw [lg_entry_eq]
  generalize (lg_sl ([.ref ha0, .int p1]) ++ List.replicate (2 - (lg_sl ([.ref ha0, .int p1])).length) Slot.unset).toArray = ls at hl ⊢
  have hl : lv_has ls 2 [(0, .ref ha0), (1, .int p1)] := hl
  refine lv_aload_n hx hb dX12_lowest_0 rfl (lv_at hl 0 rfl) ?_
  refine va_get (D := (dC, dI)) (ci := 12) (v := .ref ha0_0) (C := RX12) (T := TX12) (N := 38) hx hb hts in_X12_lowest_X12 hown hK hP 1 rfl rfl 0 (by decide) (hts (.fieldLink RX12 7 "EachOnHisCueModel" "refused" "[I") (by decide +kernel)) (fun _ h9 => h9) rfl dX12_lowest_1 ?_
  refine lv_iload_n hx hb dX12_lowest_4 rfl (lv_at hl 1 rfl) ?_
  refine lv_ineg hx hb dX12_lowest_5 ?_
  refine lv_topi (fun y1 ey1 => ?_)
  have hy1 : y1.toInt = -p1.toInt := by rw [ey1]; exact z_neg rfl (by omega) (by omega)
  refine lv_dup2_11 hx hb dX12_lowest_6 rfl rfl ?_
  refine va_iald hx hb hK hP 0 0 rfl rfl (z_in (by omega) (by omega)) dX12_lowest_7 ?_
  refine lv_topi (fun y2 ey2 => ?_)
  have gy2 : y2.toInt = (fa0_0 (y1 : Int32).toNatClampNeg).toInt := by rw [ey2]
  refine lv_iconst (v := 1) hx hb dX12_lowest_8 (by decide) ?_
  refine lv_iadd hx hb dX12_lowest_9 ?_
  refine lv_topi (fun y3 ey3 => ?_)
  refine va_iast hx hb hK hP hD hS 0 0 rfl rfl (z_in (by omega) (by omega)) dX12_lowest_10 (fun H locs hP hD hS => ?_)
  generalize ef4 : upd fa0_0 (y1 : Int32).toNatClampNeg y3 = f4 at hP hD
  have hP : va_P (dC, dI) vwCl [(ha0_0, .inl (cI, 7, .inl f4)), (ha0, .inr (12, [.ref ha0_0, .ref ha0_1, .ref ha0_2, .ref ha0_3, .ref ha0_4, .ref ha0_5, .ref ha0_6, .ref ha0_7, .ref ha0_8, .int ia0_9, .int ia0_10, .int ia0_11, .int ia0_12, .int ia0_13, .int ia0_14, .int ia0_15, .ref ha0_16, .ref ha0_17, .ref ha0_18, .ref ha0_19, .int ia0_20, .int ia0_21, .int ia0_22, .ref ha0_23, .int ia0_24, .int ia0_25, .int ia0_26, .int ia0_27, .int ia0_28, .ref ha0_29, .int ia0_30, .int ia0_31, .int ia0_32, .ref ha0_33, .ref ha0_34, .ref ha0_35, .int ia0_36, .int ia0_37]))] H := hP
  have hD : va_D A [(ha0_0, .inl (cI, 7, .inl f4)), (ha0, .inr (12, [.ref ha0_0, .ref ha0_1, .ref ha0_2, .ref ha0_3, .ref ha0_4, .ref ha0_5, .ref ha0_6, .ref ha0_7, .ref ha0_8, .int ia0_9, .int ia0_10, .int ia0_11, .int ia0_12, .int ia0_13, .int ia0_14, .int ia0_15, .ref ha0_16, .ref ha0_17, .ref ha0_18, .ref ha0_19, .int ia0_20, .int ia0_21, .int ia0_22, .ref ha0_23, .int ia0_24, .int ia0_25, .int ia0_26, .int ia0_27, .int ia0_28, .ref ha0_29, .int ia0_30, .int ia0_31, .int ia0_32, .ref ha0_33, .ref ha0_34, .ref ha0_35, .int ia0_36, .int ia0_37]))] := hD
  refine lv_ldc2 (own := RX12) (v := 4000000000000000000) hx hb hown (hts (.constantLong RX12 74 (4000000000000000000)) (by decide +kernel)) dX12_lowest_11 ?_
  refine lv_iload_n hx hb dX12_lowest_14 rfl (lv_at hl 1 rfl) ?_
  refine lv_i2l (v := p1.toInt64) hx hb dX12_lowest_15 rfl ?_
  refine lv_topl (fun y5 ey5 => ?_)
  refine lv_lsub hx hb dX12_lowest_16 ?_
  refine lv_topl (fun y6 ey6 => ?_)
  have hP9 := hP.sub (ws' := [(ha0_0, .inl (cI, 7, .inl f4)), (ha0, .inr (12, [.ref ha0_0, .ref ha0_1, .ref ha0_2, .ref ha0_3, .ref ha0_4, .ref ha0_5, .ref ha0_6, .ref ha0_7, .ref ha0_8, .int ia0_9, .int ia0_10, .int ia0_11, .int ia0_12, .int ia0_13, .int ia0_14, .int ia0_15, .ref ha0_16, .ref ha0_17, .ref ha0_18, .ref ha0_19, .int ia0_20, .int ia0_21, .int ia0_22, .ref ha0_23, .int ia0_24, .int ia0_25, .int ia0_26, .int ia0_27, .int ia0_28, .ref ha0_29, .int ia0_30, .int ia0_31, .int ia0_32, .ref ha0_33, .ref ha0_34, .ref ha0_35, .int ia0_36, .int ia0_37]))]) [0, 1] rfl
  have hD9 := hD.sub (ws' := [(ha0_0, .inl (cI, 7, .inl f4)), (ha0, .inr (12, [.ref ha0_0, .ref ha0_1, .ref ha0_2, .ref ha0_3, .ref ha0_4, .ref ha0_5, .ref ha0_6, .ref ha0_7, .ref ha0_8, .int ia0_9, .int ia0_10, .int ia0_11, .int ia0_12, .int ia0_13, .int ia0_14, .int ia0_15, .ref ha0_16, .ref ha0_17, .ref ha0_18, .ref ha0_19, .int ia0_20, .int ia0_21, .int ia0_22, .ref ha0_23, .int ia0_24, .int ia0_25, .int ia0_26, .int ia0_27, .int ia0_28, .ref ha0_29, .int ia0_30, .int ia0_31, .int ia0_32, .ref ha0_33, .ref ha0_34, .ref ha0_35, .int ia0_36, .int ia0_37]))]) [0, 1] (by decide) rfl
  exact W.lret (v := y6) hx hb hr (fun t ht hW => ⟨⟨y6, (fun k => [].getD k 0, fun k => [f4].getD k (fun _ => 0)), rfl, (show True from trivial), by rw [ht]; exact hP9, hD9⟩, hS.F ht⟩) hS.2.2 dX12_lowest_17
set_option maxRecDepth 20000 in
theorem edX12_feed_0 : decode cX12_feed 0 = .ok (.iload_n 1, 1) ∧ decode cX12_feed 1 = .ok (.iconst 0, 1) ∧ decode cX12_feed 2 = .ok (.sipush 255, 3) ∧ decode cX12_feed 5 = .ok (.invokestatic 82, 3) ∧ decode cX12_feed 8 = .ok (.istore_n 2, 1) ∧ decode cX12_feed 9 = .ok (.iload_n 2, 1) ∧ decode cX12_feed 10 = .ok (.ifCond .ne 15, 3) ∧ decode cX12_feed 13 = .ok (.aload_n 0, 1) ∧ decode cX12_feed 14 = .ok (.getfield 86, 3) ∧ decode cX12_feed 17 = .ok (.bipush 80, 2) ∧ decode cX12_feed 19 = .ok (.if_icmp .ne 6, 3) ∧ decode cX12_feed 22 = .ok (.bipush (-6), 2) := by decide +kernel
theorem dX12_feed_0 : decode cX12_feed 0 = .ok (.iload_n 1, 1) := edX12_feed_0.1
theorem dX12_feed_1 : decode cX12_feed 1 = .ok (.iconst 0, 1) := edX12_feed_0.2.1
theorem dX12_feed_2 : decode cX12_feed 2 = .ok (.sipush 255, 3) := edX12_feed_0.2.2.1
theorem dX12_feed_5 : decode cX12_feed 5 = .ok (.invokestatic 82, 3) := edX12_feed_0.2.2.2.1
theorem dX12_feed_8 : decode cX12_feed 8 = .ok (.istore_n 2, 1) := edX12_feed_0.2.2.2.2.1
theorem dX12_feed_9 : decode cX12_feed 9 = .ok (.iload_n 2, 1) := edX12_feed_0.2.2.2.2.2.1
theorem dX12_feed_10 : decode cX12_feed 10 = .ok (.ifCond .ne 15, 3) := edX12_feed_0.2.2.2.2.2.2.1
theorem dX12_feed_13 : decode cX12_feed 13 = .ok (.aload_n 0, 1) := edX12_feed_0.2.2.2.2.2.2.2.1
theorem dX12_feed_14 : decode cX12_feed 14 = .ok (.getfield 86, 3) := edX12_feed_0.2.2.2.2.2.2.2.2.1
theorem dX12_feed_17 : decode cX12_feed 17 = .ok (.bipush 80, 2) := edX12_feed_0.2.2.2.2.2.2.2.2.2.1
theorem dX12_feed_19 : decode cX12_feed 19 = .ok (.if_icmp .ne 6, 3) := edX12_feed_0.2.2.2.2.2.2.2.2.2.2.1
theorem dX12_feed_22 : decode cX12_feed 22 = .ok (.bipush (-6), 2) := edX12_feed_0.2.2.2.2.2.2.2.2.2.2.2
set_option maxRecDepth 20000 in
theorem edX12_feed_24 : decode cX12_feed 24 = .ok (.istore_n 2, 1) ∧ decode cX12_feed 25 = .ok (.iload_n 2, 1) ∧ decode cX12_feed 26 = .ok (.ifCond .eq 9, 3) ∧ decode cX12_feed 29 = .ok (.aload_n 0, 1) ∧ decode cX12_feed 30 = .ok (.iload_n 2, 1) ∧ decode cX12_feed 31 = .ok (.invokevirtual 89, 3) ∧ decode cX12_feed 34 = .ok (.ireturn, 1) ∧ decode cX12_feed 35 = .ok (.aload_n 0, 1) ∧ decode cX12_feed 36 = .ok (.getfield 44, 3) ∧ decode cX12_feed 39 = .ok (.aload_n 0, 1) ∧ decode cX12_feed 40 = .ok (.getfield 86, 3) ∧ decode cX12_feed 43 = .ok (.iload_n 1, 1) := by decide +kernel
theorem dX12_feed_24 : decode cX12_feed 24 = .ok (.istore_n 2, 1) := edX12_feed_24.1
theorem dX12_feed_25 : decode cX12_feed 25 = .ok (.iload_n 2, 1) := edX12_feed_24.2.1
theorem dX12_feed_26 : decode cX12_feed 26 = .ok (.ifCond .eq 9, 3) := edX12_feed_24.2.2.1
theorem dX12_feed_29 : decode cX12_feed 29 = .ok (.aload_n 0, 1) := edX12_feed_24.2.2.2.1
theorem dX12_feed_30 : decode cX12_feed 30 = .ok (.iload_n 2, 1) := edX12_feed_24.2.2.2.2.1
theorem dX12_feed_31 : decode cX12_feed 31 = .ok (.invokevirtual 89, 3) := edX12_feed_24.2.2.2.2.2.1
theorem dX12_feed_34 : decode cX12_feed 34 = .ok (.ireturn, 1) := edX12_feed_24.2.2.2.2.2.2.1
theorem dX12_feed_35 : decode cX12_feed 35 = .ok (.aload_n 0, 1) := edX12_feed_24.2.2.2.2.2.2.2.1
theorem dX12_feed_36 : decode cX12_feed 36 = .ok (.getfield 44, 3) := edX12_feed_24.2.2.2.2.2.2.2.2.1
theorem dX12_feed_39 : decode cX12_feed 39 = .ok (.aload_n 0, 1) := edX12_feed_24.2.2.2.2.2.2.2.2.2.1
theorem dX12_feed_40 : decode cX12_feed 40 = .ok (.getfield 86, 3) := edX12_feed_24.2.2.2.2.2.2.2.2.2.2.1
theorem dX12_feed_43 : decode cX12_feed 43 = .ok (.iload_n 1, 1) := edX12_feed_24.2.2.2.2.2.2.2.2.2.2.2
set_option maxRecDepth 20000 in
theorem edX12_feed_44 : decode cX12_feed 44 = .ok (.iastore, 1) ∧ decode cX12_feed 45 = .ok (.aload_n 0, 1) ∧ decode cX12_feed 46 = .ok (.dup, 1) ∧ decode cX12_feed 47 = .ok (.getfield 86, 3) ∧ decode cX12_feed 50 = .ok (.iconst 1, 1) ∧ decode cX12_feed 51 = .ok (.iadd, 1) ∧ decode cX12_feed 52 = .ok (.putfield 86, 3) ∧ decode cX12_feed 55 = .ok (.aload_n 0, 1) ∧ decode cX12_feed 56 = .ok (.getfield 86, 3) ∧ decode cX12_feed 59 = .ok (.ireturn, 1) := by decide +kernel
theorem dX12_feed_44 : decode cX12_feed 44 = .ok (.iastore, 1) := edX12_feed_44.1
theorem dX12_feed_45 : decode cX12_feed 45 = .ok (.aload_n 0, 1) := edX12_feed_44.2.1
theorem dX12_feed_46 : decode cX12_feed 46 = .ok (.dup, 1) := edX12_feed_44.2.2.1
theorem dX12_feed_47 : decode cX12_feed 47 = .ok (.getfield 86, 3) := edX12_feed_44.2.2.2.1
theorem dX12_feed_50 : decode cX12_feed 50 = .ok (.iconst 1, 1) := edX12_feed_44.2.2.2.2.1
theorem dX12_feed_51 : decode cX12_feed 51 = .ok (.iadd, 1) := edX12_feed_44.2.2.2.2.2.1
theorem dX12_feed_52 : decode cX12_feed 52 = .ok (.putfield 86, 3) := edX12_feed_44.2.2.2.2.2.2.1
theorem dX12_feed_55 : decode cX12_feed 55 = .ok (.aload_n 0, 1) := edX12_feed_44.2.2.2.2.2.2.2.1
theorem dX12_feed_56 : decode cX12_feed 56 = .ok (.getfield 86, 3) := edX12_feed_44.2.2.2.2.2.2.2.2.1
theorem dX12_feed_59 : decode cX12_feed 59 = .ok (.ireturn, 1) := edX12_feed_44.2.2.2.2.2.2.2.2.2
noncomputable def voX12_feed : List Cond := [.fieldLink RX12 86 "EachOnHisCueModel" "taped" "I", .fieldLink RX12 44 "EachOnHisCueModel" "tape" "[I", .methodLink RX12 82 yX12_bound, .static yX12_bound, .initialized RX12, .methodLink RX12 89 yX12_no, .instanceMethod yX12_no, .selects RX12 yX12_no yX12_no]
noncomputable def vsX12_feed : List Cond := .code yX12_feed cX12_feed 3 (some .int) :: (voX12_feed ++ (vsX12_bound ++ (vsX12_no ++ (wsX120))))
theorem zgX12_feed : zGd vsX12_feed := z_gdC rfl (z_gdA (z_gdO (by decide +kernel) : zGd voX12_feed) (z_gdA zgX12_bound (z_gdA zgX12_no (zgX12))))
theorem in_X12_feed_X12 : ∀ w ∈ wsX120, w ∈ vsX12_feed := fun _ h => List.mem_cons_of_mem _ (List.mem_append_right _ (List.mem_append_right _ (List.mem_append_right _ (h))))
theorem gw_X12_feed_X12_bound : GoodIn vsX12_feed vsX12_bound := z_gdI (fun _ h => List.mem_cons_of_mem _ (List.mem_append_right _ (List.mem_append_left _ h))) zgX12_bound
set_option maxRecDepth 20000 in
theorem gv_X12_feed_X12_bound_82 : GoodIn vsX12_feed (va_wsS RX12 82 yX12_bound vsX12_bound) := goodIn_app (goodIn_of _ (by decide +kernel)) gw_X12_feed_X12_bound
theorem gw_X12_feed_X12_no : GoodIn vsX12_feed vsX12_no := z_gdI (fun _ h => List.mem_cons_of_mem _ (List.mem_append_right _ (List.mem_append_right _ (List.mem_append_left _ h)))) zgX12_no
set_option maxRecDepth 20000 in
theorem gv_X12_feed_X12_no_89 : GoodIn vsX12_feed (wsV RX12 89 RX12 yX12_no vsX12_no) := goodIn_app (goodIn_of _ (by decide +kernel)) gw_X12_feed_X12_no
set_option maxHeartbeats 4000000 in
set_option maxRecDepth 100000 in
theorem wX12_feed (l : Launch) (dC : Nat → ClassId) (dI : Nat → Nat → Nat) (cI cQ : ClassId) (ha0 ha0_0 ha0_16 ha0_1 ha0_2 ha0_3 ha0_4 ha0_5 ha0_6 ha0_7 ha0_8 ha0_17 ha0_18 ha0_19 ha0_23 ha0_29 ha0_33 ha0_34 ha0_35 : Nat) (fa0_0 : Nat → Int32) (fa0_16 : Nat → Int32) (hBfa0_16 : ∀ k, 0 ≤ (fa0_16 k).toInt ∧ (fa0_16 k).toInt ≤ 255) (ia0_9 : Int32) (hia0_9l : 0 ≤ ia0_9.toInt) (hia0_9h : ia0_9.toInt ≤ 5) (ia0_10 : Int32) (hia0_10l : 0 ≤ ia0_10.toInt) (hia0_10h : ia0_10.toInt ≤ 12) (ia0_11 : Int32) (ia0_12 : Int32) (ia0_13 : Int32) (ia0_14 : Int32) (hia0_14l : (-9) ≤ ia0_14.toInt) (hia0_14h : ia0_14.toInt ≤ 11) (ia0_15 : Int32) (ia0_20 : Int32) (hia0_20l : 0 ≤ ia0_20.toInt) (hia0_20h : ia0_20.toInt ≤ 80) (ia0_21 : Int32) (hia0_21l : 0 ≤ ia0_21.toInt) (hia0_21h : ia0_21.toInt ≤ 80) (ia0_22 : Int32) (hia0_22l : 0 ≤ ia0_22.toInt) (hia0_22h : ia0_22.toInt ≤ 40) (ia0_24 : Int32) (hia0_24l : 0 ≤ ia0_24.toInt) (hia0_24h : ia0_24.toInt ≤ 1) (ia0_25 : Int32) (hia0_25l : 0 ≤ ia0_25.toInt) (hia0_25h : ia0_25.toInt ≤ 1) (ia0_26 : Int32) (hia0_26l : 0 ≤ ia0_26.toInt) (hia0_26h : ia0_26.toInt ≤ 300) (ia0_27 : Int32) (hia0_27l : (-9) ≤ ia0_27.toInt) (hia0_27h : ia0_27.toInt ≤ 11) (ia0_28 : Int32) (ia0_30 : Int32) (hia0_30l : 0 ≤ ia0_30.toInt) (hia0_30h : ia0_30.toInt ≤ 60) (ia0_31 : Int32) (ia0_32 : Int32) (hia0_32l : 0 ≤ ia0_32.toInt) (hia0_32h : ia0_32.toInt ≤ 1) (ia0_36 : Int32) (hia0_36l : 0 ≤ ia0_36.toInt) (hia0_36h : ia0_36.toInt ≤ 12) (ia0_37 : Int32) (p1 : Int32) (sz : Nat) : Met l yX12_feed vsX12_feed ({ frames := 1, cells := 0, slots := 0, locals := 22 }) (va_Pc [.ref ha0, .int p1] (zB dC dI cI cQ [(ha0_0, .inl (cI, 7, .inl fa0_0)), (ha0_16, .inl (cI, 80, .inl fa0_16)), (ha0, .inr (12, [.ref ha0_0, .ref ha0_1, .ref ha0_2, .ref ha0_3, .ref ha0_4, .ref ha0_5, .ref ha0_6, .ref ha0_7, .ref ha0_8, .int ia0_9, .int ia0_10, .int ia0_11, .int ia0_12, .int ia0_13, .int ia0_14, .int ia0_15, .ref ha0_16, .ref ha0_17, .ref ha0_18, .ref ha0_19, .int ia0_20, .int ia0_21, .int ia0_22, .ref ha0_23, .int ia0_24, .int ia0_25, .int ia0_26, .int ia0_27, .int ia0_28, .ref ha0_29, .int ia0_30, .int ia0_31, .int ia0_32, .ref ha0_33, .ref ha0_34, .ref ha0_35, .int ia0_36, .int ia0_37]))] sz)) (zWi dC dI (va_A [(ha0_0, .inl (cI, 7, .inl fa0_0)), (ha0_16, .inl (cI, 80, .inl fa0_16)), (ha0, .inr (12, [.ref ha0_0, .ref ha0_1, .ref ha0_2, .ref ha0_3, .ref ha0_4, .ref ha0_5, .ref ha0_6, .ref ha0_7, .ref ha0_8, .int ia0_9, .int ia0_10, .int ia0_11, .int ia0_12, .int ia0_13, .int ia0_14, .int ia0_15, .ref ha0_16, .ref ha0_17, .ref ha0_18, .ref ha0_19, .int ia0_20, .int ia0_21, .int ia0_22, .ref ha0_23, .int ia0_24, .int ia0_25, .int ia0_26, .int ia0_27, .int ia0_28, .ref ha0_29, .int ia0_30, .int ia0_31, .int ia0_32, .ref ha0_33, .ref ha0_34, .ref ha0_35, .int ia0_36, .int ia0_37]))] sz) (fun u => [(ha0_0, .inl (cI, 7, .inl (u.2 0))), (ha0_16, .inl (cI, 80, .inl (u.2 1))), (ha0, .inr (12, [.ref ha0_0, .ref ha0_1, .ref ha0_2, .ref ha0_3, .ref ha0_4, .ref ha0_5, .ref ha0_6, .ref ha0_7, .ref ha0_8, .int ia0_9, .int ia0_10, .int ia0_11, .int ia0_12, .int ia0_13, .int ia0_14, .int ia0_15, .ref ha0_16, .ref ha0_17, .ref ha0_18, .ref ha0_19, .int (u.1 0), .int ia0_21, .int ia0_22, .ref ha0_23, .int ia0_24, .int ia0_25, .int ia0_26, .int ia0_27, .int ia0_28, .ref ha0_29, .int ia0_30, .int ia0_31, .int ia0_32, .ref ha0_33, .ref ha0_34, .ref ha0_35, .int ia0_36, .int ia0_37]))]) (fun r u => (∀ k, 0 ≤ ((u.2 1) k).toInt ∧ ((u.2 1) k).toInt ≤ 255) ∧ (0 ≤ (u.1 0).toInt ∧ (u.1 0).toInt ≤ 80) ∧ ((-6) ≤ r.toInt ∧ r.toInt ≤ 80) ∧ ((zFdP 255 80 ia0_20.toInt fa0_16 p1 r (u.1 0) (u.2 1))))) 0 0 (va_A [(ha0_0, .inl (cI, 7, .inl fa0_0)), (ha0_16, .inl (cI, 80, .inl fa0_16)), (ha0, .inr (12, [.ref ha0_0, .ref ha0_1, .ref ha0_2, .ref ha0_3, .ref ha0_4, .ref ha0_5, .ref ha0_6, .ref ha0_7, .ref ha0_8, .int ia0_9, .int ia0_10, .int ia0_11, .int ia0_12, .int ia0_13, .int ia0_14, .int ia0_15, .ref ha0_16, .ref ha0_17, .ref ha0_18, .ref ha0_19, .int ia0_20, .int ia0_21, .int ia0_22, .ref ha0_23, .int ia0_24, .int ia0_25, .int ia0_26, .int ia0_27, .int ia0_28, .ref ha0_29, .int ia0_30, .int ia0_31, .int ia0_32, .ref ha0_33, .ref ha0_34, .ref ha0_35, .int ia0_36, .int ia0_37]))] sz) := by
  refine Met.ofW (cc := cX12_feed) (maxL := 3) (ret := (some .int)) (by decide) rfl ?_
  intro p e s m args below meth c s₁ B hml hv
  obtain ⟨rfl, hsz, hP, hZ, hD0⟩ := hv
  obtain ⟨hK, hAO, hN⟩ := id hZ
  have hx := B.exec
  have hb := B.bytes
  have hr := B.returns
  have hts := atoms_spec (ws := vsX12_feed) B.pre
  have hown : s.vm.findClass RX12 = some m.cls := findClass_of_methodNamed B.named
  have hlocks := B.notSynchronized
  have hlt0 : ((-9) : Int32).toInt = (-9) := by decide
  have hlt1 : ((-6) : Int32).toInt = (-6) := by decide
  have hlt2 : ((-4) : Int32).toInt = (-4) := by decide
  have hlt3 : ((-3) : Int32).toInt = (-3) := by decide
  have hlt4 : ((-2) : Int32).toInt = (-2) := by decide
  have hlt5 : ((-1) : Int32).toInt = (-1) := by decide
  have hlt6 : (0 : Int32).toInt = 0 := by decide
  have hlt7 : (1 : Int32).toInt = 1 := by decide
  subst hsz
  have hD := hD0.self (sz := s.heap.size)
  generalize hAe : va_A [(ha0_0, .inl (cI, 7, .inl fa0_0)), (ha0_16, .inl (cI, 80, .inl fa0_16)), (ha0, .inr (12, [.ref ha0_0, .ref ha0_1, .ref ha0_2, .ref ha0_3, .ref ha0_4, .ref ha0_5, .ref ha0_6, .ref ha0_7, .ref ha0_8, .int ia0_9, .int ia0_10, .int ia0_11, .int ia0_12, .int ia0_13, .int ia0_14, .int ia0_15, .ref ha0_16, .ref ha0_17, .ref ha0_18, .ref ha0_19, .int ia0_20, .int ia0_21, .int ia0_22, .ref ha0_23, .int ia0_24, .int ia0_25, .int ia0_26, .int ia0_27, .int ia0_28, .ref ha0_29, .int ia0_30, .int ia0_31, .int ia0_32, .ref ha0_33, .ref ha0_34, .ref ha0_35, .int ia0_36, .int ia0_37]))] s.heap.size = A at hD ⊢
  have hA : ∀ q : Nat, s.heap.size ≤ q → A q := fun q h => by rw [← hAe]; exact Or.inr h
  have hS : va_S A s.heap s.heap [] := va_S.rf
  have hP : va_P (dC, dI) vwCl [(ha0_0, .inl (cI, 7, .inl fa0_0)), (ha0_16, .inl (cI, 80, .inl fa0_16)), (ha0, .inr (12, [.ref ha0_0, .ref ha0_1, .ref ha0_2, .ref ha0_3, .ref ha0_4, .ref ha0_5, .ref ha0_6, .ref ha0_7, .ref ha0_8, .int ia0_9, .int ia0_10, .int ia0_11, .int ia0_12, .int ia0_13, .int ia0_14, .int ia0_15, .ref ha0_16, .ref ha0_17, .ref ha0_18, .ref ha0_19, .int ia0_20, .int ia0_21, .int ia0_22, .ref ha0_23, .int ia0_24, .int ia0_25, .int ia0_26, .int ia0_27, .int ia0_28, .ref ha0_29, .int ia0_30, .int ia0_31, .int ia0_32, .ref ha0_33, .ref ha0_34, .ref ha0_35, .int ia0_36, .int ia0_37]))] s.heap := hP
  have hp1l := z_lo p1
  have hp1h := z_hi p1
  have hl := lv_entry ([.ref ha0, .int p1]) (n := 3) (Nat.le_of_ble_eq_true rfl)
  rw [lg_entry_eq]
  generalize (lg_sl ([.ref ha0, .int p1]) ++ List.replicate (3 - (lg_sl ([.ref ha0, .int p1])).length) Slot.unset).toArray = ls at hl ⊢
  have hl : lv_has ls 3 [(0, .ref ha0), (1, .int p1)] := hl
  refine lv_iload_n hx hb dX12_feed_0 rfl (lv_at hl 1 rfl) ?_
  refine lv_iconst (v := 0) hx hb dX12_feed_1 (by decide) ?_
  refine lv_sipush (v := 255) hx hb dX12_feed_2 (by decide) ?_
  refine z_rdi (va_runS (As := [.int p1, .int 0, .int 255]) (rest := []) ⟨hx, hb, hml, hown, hts⟩ (rX12_bound l dC dI cI cQ p1 0 255) (va_cwS 3 hts gv_X12_feed_X12_bound_82 rfl rfl rfl (by decide +kernel) ⟨Nat.le_of_ble_eq_true rfl, Nat.le_of_ble_eq_true rfl⟩) ⟨z_blindR, z_preR hZ hP [] rfl⟩ rfl rfl hl.1 rfl (lv_room (Nat.le_of_ble_eq_true rfl)) dX12_feed_5 ⟨Nat.le_of_ble_eq_true rfl, Nat.le_of_ble_eq_true rfl⟩) (fun y1 hy1 => ?_)
  obtain ⟨hy1_0, hy1_1, hy1_2⟩ := hy1
  try simp only [show (0 : Int32).toInt = 0 from by decide, show (255 : Int32).toInt = 255 from by decide] at hy1_2
  refine lv_istore_n (lv' := [(2, .int y1), (0, .ref ha0), (1, .int p1)]) hx hb dX12_feed_8 rfl hl (by decide) rfl (fun ls hl => ?_)
  refine lv_iload_n hx hb dX12_feed_9 rfl (lv_at hl 0 rfl) ?_
  refine lv_if_ne (tgt := 25) hx hb dX12_feed_10 (by decide) (fun hc => ?_) (fun hc => ?_)
  · have q2 : y1.toInt ≠ 0 := z_ne rfl (by decide) hc
    refine lv_iload_n hx hb dX12_feed_25 rfl (lv_at hl 0 rfl) ?_
    refine lv_if_eq (tgt := 35) hx hb dX12_feed_26 (by decide) (fun hc => ?_) (fun hc => ?_)
    · have q3 : y1.toInt = 0 := z_eq rfl (by decide) hc
      exfalso; omega
    · have q4 : y1.toInt ≠ 0 := z_ne rfl (by decide) hc
      refine lv_aload_n hx hb dX12_feed_29 rfl (lv_at hl 1 rfl) ?_
      refine lv_iload_n hx hb dX12_feed_30 rfl (lv_at hl 0 rfl) ?_
      refine z_cwi (wc := [(ha0_0, .inl (cI, 7, .inl fa0_0)), (ha0, .inr (12, [.ref ha0_0, .ref ha0_1, .ref ha0_2, .ref ha0_3, .ref ha0_4, .ref ha0_5, .ref ha0_6, .ref ha0_7, .ref ha0_8, .int ia0_9, .int ia0_10, .int ia0_11, .int ia0_12, .int ia0_13, .int ia0_14, .int ia0_15, .ref ha0_16, .ref ha0_17, .ref ha0_18, .ref ha0_19, .int ia0_20, .int ia0_21, .int ia0_22, .ref ha0_23, .int ia0_24, .int ia0_25, .int ia0_26, .int ia0_27, .int ia0_28, .ref ha0_29, .int ia0_30, .int ia0_31, .int ia0_32, .ref ha0_33, .ref ha0_34, .ref ha0_35, .int ia0_36, .int ia0_37]))]) (wr := [(ha0_16, .inl (cI, 80, .inl fa0_16))]) (w1 := fun u6 => [(ha0_0, .inl (cI, 7, .inl (u6.2 0))), (ha0, .inr (12, [.ref ha0_0, .ref ha0_1, .ref ha0_2, .ref ha0_3, .ref ha0_4, .ref ha0_5, .ref ha0_6, .ref ha0_7, .ref ha0_8, .int ia0_9, .int ia0_10, .int ia0_11, .int ia0_12, .int ia0_13, .int ia0_14, .int ia0_15, .ref ha0_16, .ref ha0_17, .ref ha0_18, .ref ha0_19, .int ia0_20, .int ia0_21, .int ia0_22, .ref ha0_23, .int ia0_24, .int ia0_25, .int ia0_26, .int ia0_27, .int ia0_28, .ref ha0_29, .int ia0_30, .int ia0_31, .int ia0_32, .ref ha0_33, .ref ha0_34, .ref ha0_35, .int ia0_36, .int ia0_37]))]) (va_runV (As := [.int y1]) (rest := []) ⟨hx, hb, hml, hown, hts⟩ (wX12_no l dC dI cI cQ ha0 ha0_0 ha0_1 ha0_2 ha0_3 ha0_4 ha0_5 ha0_6 ha0_7 ha0_8 ha0_16 ha0_17 ha0_18 ha0_19 ha0_23 ha0_29 ha0_33 ha0_34 ha0_35 fa0_0 ia0_9 hia0_9l hia0_9h ia0_10 hia0_10l hia0_10h ia0_11 ia0_12 ia0_13 ia0_14 hia0_14l hia0_14h ia0_15 ia0_20 hia0_20l hia0_20h ia0_21 hia0_21l hia0_21h ia0_22 hia0_22l hia0_22h ia0_24 hia0_24l hia0_24h ia0_25 hia0_25l hia0_25h ia0_26 hia0_26l hia0_26h ia0_27 hia0_27l hia0_27h ia0_28 ia0_30 hia0_30l hia0_30h ia0_31 ia0_32 hia0_32l hia0_32h ia0_36 hia0_36l hia0_36h ia0_37 y1 (by first | decide | omega) (by first | decide | omega) s.heap.size) (cwV 1 hts gv_X12_feed_X12_no_89 rfl rfl rfl (by decide +kernel) ⟨Nat.le_of_ble_eq_true rfl, Nat.le_of_ble_eq_true rfl⟩) ⟨z_blind, va_recv hK hP (ci := 12) (q0 := 2) rfl rfl, z_pre hZ hP hD [0, 2] rfl (by decide +kernel)⟩ rfl rfl hl.1 rfl (lv_room (Nat.le_of_ble_eq_true rfl)) dX12_feed_31 ⟨Nat.le_of_ble_eq_true rfl, Nat.le_of_ble_eq_true rfl⟩) hP hD hS hA [0, 2] [1] rfl rfl (by decide +kernel) (by decide +kernel) (fun y5 u6 H locs hpo hP hD hS => ?_)
      generalize hgf7 : u6.2 0 = f7 at hP hD hpo
      have hP : va_P (dC, dI) vwCl [(ha0_16, .inl (cI, 80, .inl fa0_16)), (ha0_0, .inl (cI, 7, .inl f7)), (ha0, .inr (12, [.ref ha0_0, .ref ha0_1, .ref ha0_2, .ref ha0_3, .ref ha0_4, .ref ha0_5, .ref ha0_6, .ref ha0_7, .ref ha0_8, .int ia0_9, .int ia0_10, .int ia0_11, .int ia0_12, .int ia0_13, .int ia0_14, .int ia0_15, .ref ha0_16, .ref ha0_17, .ref ha0_18, .ref ha0_19, .int ia0_20, .int ia0_21, .int ia0_22, .ref ha0_23, .int ia0_24, .int ia0_25, .int ia0_26, .int ia0_27, .int ia0_28, .ref ha0_29, .int ia0_30, .int ia0_31, .int ia0_32, .ref ha0_33, .ref ha0_34, .ref ha0_35, .int ia0_36, .int ia0_37]))] H := hP
      have hD : va_D A [(ha0_16, .inl (cI, 80, .inl fa0_16)), (ha0_0, .inl (cI, 7, .inl f7)), (ha0, .inr (12, [.ref ha0_0, .ref ha0_1, .ref ha0_2, .ref ha0_3, .ref ha0_4, .ref ha0_5, .ref ha0_6, .ref ha0_7, .ref ha0_8, .int ia0_9, .int ia0_10, .int ia0_11, .int ia0_12, .int ia0_13, .int ia0_14, .int ia0_15, .ref ha0_16, .ref ha0_17, .ref ha0_18, .ref ha0_19, .int ia0_20, .int ia0_21, .int ia0_22, .ref ha0_23, .int ia0_24, .int ia0_25, .int ia0_26, .int ia0_27, .int ia0_28, .ref ha0_29, .int ia0_30, .int ia0_31, .int ia0_32, .ref ha0_33, .ref ha0_34, .ref ha0_35, .int ia0_36, .int ia0_37]))] := hD
      obtain ⟨hy5r, hy5po⟩ := hpo
      obtain ⟨hy5l, hy5h⟩ := hy5r
      have hP9 := hP.sub (ws' := [(ha0_0, .inl (cI, 7, .inl f7)), (ha0_16, .inl (cI, 80, .inl fa0_16)), (ha0, .inr (12, [.ref ha0_0, .ref ha0_1, .ref ha0_2, .ref ha0_3, .ref ha0_4, .ref ha0_5, .ref ha0_6, .ref ha0_7, .ref ha0_8, .int ia0_9, .int ia0_10, .int ia0_11, .int ia0_12, .int ia0_13, .int ia0_14, .int ia0_15, .ref ha0_16, .ref ha0_17, .ref ha0_18, .ref ha0_19, .int ia0_20, .int ia0_21, .int ia0_22, .ref ha0_23, .int ia0_24, .int ia0_25, .int ia0_26, .int ia0_27, .int ia0_28, .ref ha0_29, .int ia0_30, .int ia0_31, .int ia0_32, .ref ha0_33, .ref ha0_34, .ref ha0_35, .int ia0_36, .int ia0_37]))]) [1, 0, 2] rfl
      have hD9 := hD.sub (ws' := [(ha0_0, .inl (cI, 7, .inl f7)), (ha0_16, .inl (cI, 80, .inl fa0_16)), (ha0, .inr (12, [.ref ha0_0, .ref ha0_1, .ref ha0_2, .ref ha0_3, .ref ha0_4, .ref ha0_5, .ref ha0_6, .ref ha0_7, .ref ha0_8, .int ia0_9, .int ia0_10, .int ia0_11, .int ia0_12, .int ia0_13, .int ia0_14, .int ia0_15, .ref ha0_16, .ref ha0_17, .ref ha0_18, .ref ha0_19, .int ia0_20, .int ia0_21, .int ia0_22, .ref ha0_23, .int ia0_24, .int ia0_25, .int ia0_26, .int ia0_27, .int ia0_28, .ref ha0_29, .int ia0_30, .int ia0_31, .int ia0_32, .ref ha0_33, .ref ha0_34, .ref ha0_35, .int ia0_36, .int ia0_37]))]) [1, 0, 2] (by decide) rfl
      have hpo : (zFdP 255 80 ia0_20.toInt fa0_16 p1 (y5 : Int32) (ia0_20 : Int32) fa0_16) := by rcases hy1_2 with hb1 | hb1 | hb1 <;> first | (exfalso; omega) | exact Or.inl ⟨by omega, by omega, rfl, rfl⟩ | exact Or.inr (Or.inl ⟨by omega, by omega, by omega, rfl, rfl⟩) | exact Or.inr (Or.inr ⟨by omega, by omega, by omega, by omega, by omega, Eq.symm (by assumption)⟩)
      exact W.iret (v := y5) hx hb hr (fun t ht hW => ⟨⟨y5, (fun k => [ia0_20].getD k 0, fun k => [f7, fa0_16].getD k (fun _ => 0)), rfl, (show (∀ k, 0 ≤ (fa0_16 k).toInt ∧ (fa0_16 k).toInt ≤ 255) ∧ (0 ≤ (ia0_20 : Int32).toInt ∧ (ia0_20 : Int32).toInt ≤ 80) ∧ ((-6) ≤ (y5 : Int32).toInt ∧ (y5 : Int32).toInt ≤ 80) ∧ ((zFdP 255 80 ia0_20.toInt fa0_16 p1 (y5 : Int32) (ia0_20 : Int32) fa0_16)) from ⟨hBfa0_16, ⟨hia0_20l, hia0_20h⟩, ⟨by first | decide | omega, by first | decide | omega⟩, hpo⟩), by rw [ht]; exact hP9, hD9⟩, hS.F ht⟩) hS.2.2 dX12_feed_34
  · have q8 : y1.toInt = 0 := z_eq rfl (by decide) hc
    refine lv_aload_n hx hb dX12_feed_13 rfl (lv_at hl 1 rfl) ?_
    refine va_get (D := (dC, dI)) (ci := 12) (v := .int ia0_20) (C := RX12) (T := TX12) (N := 38) hx hb hts in_X12_feed_X12 hown hK hP 2 rfl rfl 20 (by decide) (hts (.fieldLink RX12 86 "EachOnHisCueModel" "taped" "I") (by decide +kernel)) (fun _ h9 => h9) rfl dX12_feed_14 ?_
    refine lv_bipush (v := 80) hx hb dX12_feed_17 (by decide) ?_
    refine lv_icmp_ne (tgt := 25) hx hb dX12_feed_19 (by decide) (fun hc => ?_) (fun hc => ?_)
    · have q9 : ia0_20.toInt ≠ 80 := z_ne rfl (by decide) hc
      refine lv_iload_n hx hb dX12_feed_25 rfl (lv_at hl 0 rfl) ?_
      refine lv_if_eq (tgt := 35) hx hb dX12_feed_26 (by decide) (fun hc => ?_) (fun hc => ?_)
      · have q10 : y1.toInt = 0 := z_eq rfl (by decide) hc
        refine lv_aload_n hx hb dX12_feed_35 rfl (lv_at hl 1 rfl) ?_
        refine va_get (D := (dC, dI)) (ci := 12) (v := .ref ha0_16) (C := RX12) (T := TX12) (N := 38) hx hb hts in_X12_feed_X12 hown hK hP 2 rfl rfl 16 (by decide) (hts (.fieldLink RX12 44 "EachOnHisCueModel" "tape" "[I") (by decide +kernel)) (fun _ h9 => h9) rfl dX12_feed_36 ?_
        refine lv_aload_n hx hb dX12_feed_39 rfl (lv_at hl 1 rfl) ?_
        refine va_get (D := (dC, dI)) (ci := 12) (v := .int ia0_20) (C := RX12) (T := TX12) (N := 38) hx hb hts in_X12_feed_X12 hown hK hP 2 rfl rfl 20 (by decide) (hts (.fieldLink RX12 86 "EachOnHisCueModel" "taped" "I") (by decide +kernel)) (fun _ h9 => h9) rfl dX12_feed_40 ?_
        refine lv_iload_n hx hb dX12_feed_43 rfl (lv_at hl 2 rfl) ?_
        refine va_iast hx hb hK hP hD hS 1 0 rfl rfl (z_in (by omega) (by omega)) dX12_feed_44 (fun H locs hP hD hS => ?_)
        generalize ef11 : upd fa0_16 (ia0_20 : Int32).toNatClampNeg p1 = f11 at hP hD
        have hBf11 : ∀ k, 0 ≤ (f11 k).toInt ∧ (f11 k).toInt ≤ 255 := by rw [← ef11]; exact z_updB hBfa0_16 (by first | decide | omega) (by first | decide | omega)
        have hP : va_P (dC, dI) vwCl [(ha0_0, .inl (cI, 7, .inl fa0_0)), (ha0_16, .inl (cI, 80, .inl f11)), (ha0, .inr (12, [.ref ha0_0, .ref ha0_1, .ref ha0_2, .ref ha0_3, .ref ha0_4, .ref ha0_5, .ref ha0_6, .ref ha0_7, .ref ha0_8, .int ia0_9, .int ia0_10, .int ia0_11, .int ia0_12, .int ia0_13, .int ia0_14, .int ia0_15, .ref ha0_16, .ref ha0_17, .ref ha0_18, .ref ha0_19, .int ia0_20, .int ia0_21, .int ia0_22, .ref ha0_23, .int ia0_24, .int ia0_25, .int ia0_26, .int ia0_27, .int ia0_28, .ref ha0_29, .int ia0_30, .int ia0_31, .int ia0_32, .ref ha0_33, .ref ha0_34, .ref ha0_35, .int ia0_36, .int ia0_37]))] H := hP
        have hD : va_D A [(ha0_0, .inl (cI, 7, .inl fa0_0)), (ha0_16, .inl (cI, 80, .inl f11)), (ha0, .inr (12, [.ref ha0_0, .ref ha0_1, .ref ha0_2, .ref ha0_3, .ref ha0_4, .ref ha0_5, .ref ha0_6, .ref ha0_7, .ref ha0_8, .int ia0_9, .int ia0_10, .int ia0_11, .int ia0_12, .int ia0_13, .int ia0_14, .int ia0_15, .ref ha0_16, .ref ha0_17, .ref ha0_18, .ref ha0_19, .int ia0_20, .int ia0_21, .int ia0_22, .ref ha0_23, .int ia0_24, .int ia0_25, .int ia0_26, .int ia0_27, .int ia0_28, .ref ha0_29, .int ia0_30, .int ia0_31, .int ia0_32, .ref ha0_33, .ref ha0_34, .ref ha0_35, .int ia0_36, .int ia0_37]))] := hD
        refine lv_aload_n hx hb dX12_feed_45 rfl (lv_at hl 1 rfl) ?_
        refine lv_dup hx hb dX12_feed_46 rfl ?_
        refine va_get (D := (dC, dI)) (ci := 12) (v := .int ia0_20) (C := RX12) (T := TX12) (N := 38) hx hb hts in_X12_feed_X12 hown hK hP 2 rfl rfl 20 (by decide) (hts (.fieldLink RX12 86 "EachOnHisCueModel" "taped" "I") (by decide +kernel)) (fun _ h9 => h9) rfl dX12_feed_47 ?_
        refine lv_iconst (v := 1) hx hb dX12_feed_50 (by decide) ?_
        refine lv_iadd hx hb dX12_feed_51 ?_
        refine lv_topi (fun y12 ey12 => ?_)
        have hy12 : y12.toInt = ia0_20.toInt + 1 := by rw [ey12]; exact z_add rfl (by decide) (by omega) (by omega)
        refine va_put (D := (dC, dI)) (ci := 12) (v := .int y12) (ty := .int) (C := RX12) (T := TX12) (N := 38) hx hb hts in_X12_feed_X12 tyX12 tyX12_ok nmX12 hown hK hP hD hS 2 rfl rfl 20 (by decide) (hts (.fieldLink RX12 86 "EachOnHisCueModel" "taped" "I") (by decide +kernel)) (fun _ h9 => h9) rfl (by decide +kernel) rfl rfl (Nat.le_of_ble_eq_true rfl) dX12_feed_52 (fun H locs hP hD hS => ?_)
        have hP : va_P (dC, dI) vwCl [(ha0_0, .inl (cI, 7, .inl fa0_0)), (ha0_16, .inl (cI, 80, .inl f11)), (ha0, .inr (12, [.ref ha0_0, .ref ha0_1, .ref ha0_2, .ref ha0_3, .ref ha0_4, .ref ha0_5, .ref ha0_6, .ref ha0_7, .ref ha0_8, .int ia0_9, .int ia0_10, .int ia0_11, .int ia0_12, .int ia0_13, .int ia0_14, .int ia0_15, .ref ha0_16, .ref ha0_17, .ref ha0_18, .ref ha0_19, .int y12, .int ia0_21, .int ia0_22, .ref ha0_23, .int ia0_24, .int ia0_25, .int ia0_26, .int ia0_27, .int ia0_28, .ref ha0_29, .int ia0_30, .int ia0_31, .int ia0_32, .ref ha0_33, .ref ha0_34, .ref ha0_35, .int ia0_36, .int ia0_37]))] H := hP
        have hD : va_D A [(ha0_0, .inl (cI, 7, .inl fa0_0)), (ha0_16, .inl (cI, 80, .inl f11)), (ha0, .inr (12, [.ref ha0_0, .ref ha0_1, .ref ha0_2, .ref ha0_3, .ref ha0_4, .ref ha0_5, .ref ha0_6, .ref ha0_7, .ref ha0_8, .int ia0_9, .int ia0_10, .int ia0_11, .int ia0_12, .int ia0_13, .int ia0_14, .int ia0_15, .ref ha0_16, .ref ha0_17, .ref ha0_18, .ref ha0_19, .int y12, .int ia0_21, .int ia0_22, .ref ha0_23, .int ia0_24, .int ia0_25, .int ia0_26, .int ia0_27, .int ia0_28, .ref ha0_29, .int ia0_30, .int ia0_31, .int ia0_32, .ref ha0_33, .ref ha0_34, .ref ha0_35, .int ia0_36, .int ia0_37]))] := hD
        refine lv_aload_n hx hb dX12_feed_55 rfl (lv_at hl 1 rfl) ?_
        refine va_get (D := (dC, dI)) (ci := 12) (v := .int y12) (C := RX12) (T := TX12) (N := 38) hx hb hts in_X12_feed_X12 hown hK hP 2 rfl rfl 20 (by decide) (hts (.fieldLink RX12 86 "EachOnHisCueModel" "taped" "I") (by decide +kernel)) (fun _ h9 => h9) rfl dX12_feed_56 ?_
        have hP9 := hP.sub (ws' := [(ha0_0, .inl (cI, 7, .inl fa0_0)), (ha0_16, .inl (cI, 80, .inl f11)), (ha0, .inr (12, [.ref ha0_0, .ref ha0_1, .ref ha0_2, .ref ha0_3, .ref ha0_4, .ref ha0_5, .ref ha0_6, .ref ha0_7, .ref ha0_8, .int ia0_9, .int ia0_10, .int ia0_11, .int ia0_12, .int ia0_13, .int ia0_14, .int ia0_15, .ref ha0_16, .ref ha0_17, .ref ha0_18, .ref ha0_19, .int y12, .int ia0_21, .int ia0_22, .ref ha0_23, .int ia0_24, .int ia0_25, .int ia0_26, .int ia0_27, .int ia0_28, .ref ha0_29, .int ia0_30, .int ia0_31, .int ia0_32, .ref ha0_33, .ref ha0_34, .ref ha0_35, .int ia0_36, .int ia0_37]))]) [0, 1, 2] rfl
        have hD9 := hD.sub (ws' := [(ha0_0, .inl (cI, 7, .inl fa0_0)), (ha0_16, .inl (cI, 80, .inl f11)), (ha0, .inr (12, [.ref ha0_0, .ref ha0_1, .ref ha0_2, .ref ha0_3, .ref ha0_4, .ref ha0_5, .ref ha0_6, .ref ha0_7, .ref ha0_8, .int ia0_9, .int ia0_10, .int ia0_11, .int ia0_12, .int ia0_13, .int ia0_14, .int ia0_15, .ref ha0_16, .ref ha0_17, .ref ha0_18, .ref ha0_19, .int y12, .int ia0_21, .int ia0_22, .ref ha0_23, .int ia0_24, .int ia0_25, .int ia0_26, .int ia0_27, .int ia0_28, .ref ha0_29, .int ia0_30, .int ia0_31, .int ia0_32, .ref ha0_33, .ref ha0_34, .ref ha0_35, .int ia0_36, .int ia0_37]))]) [0, 1, 2] (by decide) rfl
        have hpo : (zFdP 255 80 ia0_20.toInt fa0_16 p1 (y12 : Int32) (y12 : Int32) f11) := by rcases hy1_2 with hb1 | hb1 | hb1 <;> first | (exfalso; omega) | exact Or.inl ⟨by omega, by omega, rfl, rfl⟩ | exact Or.inr (Or.inl ⟨by omega, by omega, by omega, rfl, rfl⟩) | exact Or.inr (Or.inr ⟨by omega, by omega, by omega, by omega, by omega, Eq.symm (by assumption)⟩)
        exact W.iret (v := y12) hx hb hr (fun t ht hW => ⟨⟨y12, (fun k => [y12].getD k 0, fun k => [fa0_0, f11].getD k (fun _ => 0)), rfl, (show (∀ k, 0 ≤ (f11 k).toInt ∧ (f11 k).toInt ≤ 255) ∧ (0 ≤ (y12 : Int32).toInt ∧ (y12 : Int32).toInt ≤ 80) ∧ ((-6) ≤ (y12 : Int32).toInt ∧ (y12 : Int32).toInt ≤ 80) ∧ ((zFdP 255 80 ia0_20.toInt fa0_16 p1 (y12 : Int32) (y12 : Int32) f11)) from ⟨hBf11, ⟨(by first | decide | omega), (by first | decide | omega)⟩, ⟨by first | decide | omega, by first | decide | omega⟩, hpo⟩), by rw [ht]; exact hP9, hD9⟩, hS.F ht⟩) hS.2.2 dX12_feed_59
      · have q13 : y1.toInt ≠ 0 := z_ne rfl (by decide) hc
        exfalso; omega
    · have q14 : ia0_20.toInt = 80 := z_eq rfl (by decide) hc
      refine lv_bipush (v := (-6)) hx hb dX12_feed_22 (by decide) ?_
      refine lv_istore_n (lv' := [(2, .int (-6)), (0, .ref ha0), (1, .int p1)]) hx hb dX12_feed_24 rfl hl (by decide) rfl (fun ls hl => ?_)
      refine lv_iload_n hx hb dX12_feed_25 rfl (lv_at hl 0 rfl) ?_
      refine lv_if_eq (tgt := 35) hx hb dX12_feed_26 (by decide) (fun hc => ?_) (fun hc => ?_)
      · exact absurd hc (by decide)
      · skip
        refine lv_aload_n hx hb dX12_feed_29 rfl (lv_at hl 1 rfl) ?_
        refine lv_iload_n hx hb dX12_feed_30 rfl (lv_at hl 0 rfl) ?_
        refine z_cwi (wc := [(ha0_0, .inl (cI, 7, .inl fa0_0)), (ha0, .inr (12, [.ref ha0_0, .ref ha0_1, .ref ha0_2, .ref ha0_3, .ref ha0_4, .ref ha0_5, .ref ha0_6, .ref ha0_7, .ref ha0_8, .int ia0_9, .int ia0_10, .int ia0_11, .int ia0_12, .int ia0_13, .int ia0_14, .int ia0_15, .ref ha0_16, .ref ha0_17, .ref ha0_18, .ref ha0_19, .int ia0_20, .int ia0_21, .int ia0_22, .ref ha0_23, .int ia0_24, .int ia0_25, .int ia0_26, .int ia0_27, .int ia0_28, .ref ha0_29, .int ia0_30, .int ia0_31, .int ia0_32, .ref ha0_33, .ref ha0_34, .ref ha0_35, .int ia0_36, .int ia0_37]))]) (wr := [(ha0_16, .inl (cI, 80, .inl fa0_16))]) (w1 := fun u16 => [(ha0_0, .inl (cI, 7, .inl (u16.2 0))), (ha0, .inr (12, [.ref ha0_0, .ref ha0_1, .ref ha0_2, .ref ha0_3, .ref ha0_4, .ref ha0_5, .ref ha0_6, .ref ha0_7, .ref ha0_8, .int ia0_9, .int ia0_10, .int ia0_11, .int ia0_12, .int ia0_13, .int ia0_14, .int ia0_15, .ref ha0_16, .ref ha0_17, .ref ha0_18, .ref ha0_19, .int ia0_20, .int ia0_21, .int ia0_22, .ref ha0_23, .int ia0_24, .int ia0_25, .int ia0_26, .int ia0_27, .int ia0_28, .ref ha0_29, .int ia0_30, .int ia0_31, .int ia0_32, .ref ha0_33, .ref ha0_34, .ref ha0_35, .int ia0_36, .int ia0_37]))]) (va_runV (As := [.int (-6)]) (rest := []) ⟨hx, hb, hml, hown, hts⟩ (wX12_no l dC dI cI cQ ha0 ha0_0 ha0_1 ha0_2 ha0_3 ha0_4 ha0_5 ha0_6 ha0_7 ha0_8 ha0_16 ha0_17 ha0_18 ha0_19 ha0_23 ha0_29 ha0_33 ha0_34 ha0_35 fa0_0 ia0_9 hia0_9l hia0_9h ia0_10 hia0_10l hia0_10h ia0_11 ia0_12 ia0_13 ia0_14 hia0_14l hia0_14h ia0_15 ia0_20 hia0_20l hia0_20h ia0_21 hia0_21l hia0_21h ia0_22 hia0_22l hia0_22h ia0_24 hia0_24l hia0_24h ia0_25 hia0_25l hia0_25h ia0_26 hia0_26l hia0_26h ia0_27 hia0_27l hia0_27h ia0_28 ia0_30 hia0_30l hia0_30h ia0_31 ia0_32 hia0_32l hia0_32h ia0_36 hia0_36l hia0_36h ia0_37 (-6) (by decide) (by decide) s.heap.size) (cwV 1 hts gv_X12_feed_X12_no_89 rfl rfl rfl (by decide +kernel) ⟨Nat.le_of_ble_eq_true rfl, Nat.le_of_ble_eq_true rfl⟩) ⟨z_blind, va_recv hK hP (ci := 12) (q0 := 2) rfl rfl, z_pre hZ hP hD [0, 2] rfl (by decide +kernel)⟩ rfl rfl hl.1 rfl (lv_room (Nat.le_of_ble_eq_true rfl)) dX12_feed_31 ⟨Nat.le_of_ble_eq_true rfl, Nat.le_of_ble_eq_true rfl⟩) hP hD hS hA [0, 2] [1] rfl rfl (by decide +kernel) (by decide +kernel) (fun y15 u16 H locs hpo hP hD hS => ?_)
        generalize hgf17 : u16.2 0 = f17 at hP hD hpo
        have hP : va_P (dC, dI) vwCl [(ha0_16, .inl (cI, 80, .inl fa0_16)), (ha0_0, .inl (cI, 7, .inl f17)), (ha0, .inr (12, [.ref ha0_0, .ref ha0_1, .ref ha0_2, .ref ha0_3, .ref ha0_4, .ref ha0_5, .ref ha0_6, .ref ha0_7, .ref ha0_8, .int ia0_9, .int ia0_10, .int ia0_11, .int ia0_12, .int ia0_13, .int ia0_14, .int ia0_15, .ref ha0_16, .ref ha0_17, .ref ha0_18, .ref ha0_19, .int ia0_20, .int ia0_21, .int ia0_22, .ref ha0_23, .int ia0_24, .int ia0_25, .int ia0_26, .int ia0_27, .int ia0_28, .ref ha0_29, .int ia0_30, .int ia0_31, .int ia0_32, .ref ha0_33, .ref ha0_34, .ref ha0_35, .int ia0_36, .int ia0_37]))] H := hP
        have hD : va_D A [(ha0_16, .inl (cI, 80, .inl fa0_16)), (ha0_0, .inl (cI, 7, .inl f17)), (ha0, .inr (12, [.ref ha0_0, .ref ha0_1, .ref ha0_2, .ref ha0_3, .ref ha0_4, .ref ha0_5, .ref ha0_6, .ref ha0_7, .ref ha0_8, .int ia0_9, .int ia0_10, .int ia0_11, .int ia0_12, .int ia0_13, .int ia0_14, .int ia0_15, .ref ha0_16, .ref ha0_17, .ref ha0_18, .ref ha0_19, .int ia0_20, .int ia0_21, .int ia0_22, .ref ha0_23, .int ia0_24, .int ia0_25, .int ia0_26, .int ia0_27, .int ia0_28, .ref ha0_29, .int ia0_30, .int ia0_31, .int ia0_32, .ref ha0_33, .ref ha0_34, .ref ha0_35, .int ia0_36, .int ia0_37]))] := hD
        obtain ⟨hy15r, hy15po⟩ := hpo
        obtain ⟨hy15l, hy15h⟩ := hy15r
        have hP9 := hP.sub (ws' := [(ha0_0, .inl (cI, 7, .inl f17)), (ha0_16, .inl (cI, 80, .inl fa0_16)), (ha0, .inr (12, [.ref ha0_0, .ref ha0_1, .ref ha0_2, .ref ha0_3, .ref ha0_4, .ref ha0_5, .ref ha0_6, .ref ha0_7, .ref ha0_8, .int ia0_9, .int ia0_10, .int ia0_11, .int ia0_12, .int ia0_13, .int ia0_14, .int ia0_15, .ref ha0_16, .ref ha0_17, .ref ha0_18, .ref ha0_19, .int ia0_20, .int ia0_21, .int ia0_22, .ref ha0_23, .int ia0_24, .int ia0_25, .int ia0_26, .int ia0_27, .int ia0_28, .ref ha0_29, .int ia0_30, .int ia0_31, .int ia0_32, .ref ha0_33, .ref ha0_34, .ref ha0_35, .int ia0_36, .int ia0_37]))]) [1, 0, 2] rfl
        have hD9 := hD.sub (ws' := [(ha0_0, .inl (cI, 7, .inl f17)), (ha0_16, .inl (cI, 80, .inl fa0_16)), (ha0, .inr (12, [.ref ha0_0, .ref ha0_1, .ref ha0_2, .ref ha0_3, .ref ha0_4, .ref ha0_5, .ref ha0_6, .ref ha0_7, .ref ha0_8, .int ia0_9, .int ia0_10, .int ia0_11, .int ia0_12, .int ia0_13, .int ia0_14, .int ia0_15, .ref ha0_16, .ref ha0_17, .ref ha0_18, .ref ha0_19, .int ia0_20, .int ia0_21, .int ia0_22, .ref ha0_23, .int ia0_24, .int ia0_25, .int ia0_26, .int ia0_27, .int ia0_28, .ref ha0_29, .int ia0_30, .int ia0_31, .int ia0_32, .ref ha0_33, .ref ha0_34, .ref ha0_35, .int ia0_36, .int ia0_37]))]) [1, 0, 2] (by decide) rfl
        have hpo : (zFdP 255 80 ia0_20.toInt fa0_16 p1 (y15 : Int32) (ia0_20 : Int32) fa0_16) := by rcases hy1_2 with hb1 | hb1 | hb1 <;> first | (exfalso; omega) | exact Or.inl ⟨by omega, by omega, rfl, rfl⟩ | exact Or.inr (Or.inl ⟨by omega, by omega, by omega, rfl, rfl⟩) | exact Or.inr (Or.inr ⟨by omega, by omega, by omega, by omega, by omega, Eq.symm (by assumption)⟩)
        exact W.iret (v := y15) hx hb hr (fun t ht hW => ⟨⟨y15, (fun k => [ia0_20].getD k 0, fun k => [f17, fa0_16].getD k (fun _ => 0)), rfl, (show (∀ k, 0 ≤ (fa0_16 k).toInt ∧ (fa0_16 k).toInt ≤ 255) ∧ (0 ≤ (ia0_20 : Int32).toInt ∧ (ia0_20 : Int32).toInt ≤ 80) ∧ ((-6) ≤ (y15 : Int32).toInt ∧ (y15 : Int32).toInt ≤ 80) ∧ ((zFdP 255 80 ia0_20.toInt fa0_16 p1 (y15 : Int32) (ia0_20 : Int32) fa0_16)) from ⟨hBfa0_16, ⟨hia0_20l, hia0_20h⟩, ⟨by first | decide | omega, by first | decide | omega⟩, hpo⟩), by rw [ht]; exact hP9, hD9⟩, hS.F ht⟩) hS.2.2 dX12_feed_34
set_option maxRecDepth 20000 in
theorem edX12_digit_0 : decode cX12_digit 0 = .ok (.aload_n 0, 1) ∧ decode cX12_digit 1 = .ok (.invokevirtual 96, 3) ∧ decode cX12_digit 4 = .ok (.bipush 48, 2) ∧ decode cX12_digit 6 = .ok (.bipush 57, 2) ∧ decode cX12_digit 8 = .ok (.invokestatic 100, 3) ∧ decode cX12_digit 11 = .ok (.ifCond .ne 5, 3) ∧ decode cX12_digit 14 = .ok (.iconst (-1), 1) ∧ decode cX12_digit 15 = .ok (.ireturn, 1) ∧ decode cX12_digit 16 = .ok (.aload_n 0, 1) ∧ decode cX12_digit 17 = .ok (.dup, 1) ∧ decode cX12_digit 18 = .ok (.getfield 93, 3) ∧ decode cX12_digit 21 = .ok (.iconst 1, 1) := by decide +kernel
theorem dX12_digit_0 : decode cX12_digit 0 = .ok (.aload_n 0, 1) := edX12_digit_0.1
theorem dX12_digit_1 : decode cX12_digit 1 = .ok (.invokevirtual 96, 3) := edX12_digit_0.2.1
theorem dX12_digit_4 : decode cX12_digit 4 = .ok (.bipush 48, 2) := edX12_digit_0.2.2.1
theorem dX12_digit_6 : decode cX12_digit 6 = .ok (.bipush 57, 2) := edX12_digit_0.2.2.2.1
theorem dX12_digit_8 : decode cX12_digit 8 = .ok (.invokestatic 100, 3) := edX12_digit_0.2.2.2.2.1
theorem dX12_digit_11 : decode cX12_digit 11 = .ok (.ifCond .ne 5, 3) := edX12_digit_0.2.2.2.2.2.1
theorem dX12_digit_14 : decode cX12_digit 14 = .ok (.iconst (-1), 1) := edX12_digit_0.2.2.2.2.2.2.1
theorem dX12_digit_15 : decode cX12_digit 15 = .ok (.ireturn, 1) := edX12_digit_0.2.2.2.2.2.2.2.1
theorem dX12_digit_16 : decode cX12_digit 16 = .ok (.aload_n 0, 1) := edX12_digit_0.2.2.2.2.2.2.2.2.1
theorem dX12_digit_17 : decode cX12_digit 17 = .ok (.dup, 1) := edX12_digit_0.2.2.2.2.2.2.2.2.2.1
theorem dX12_digit_18 : decode cX12_digit 18 = .ok (.getfield 93, 3) := edX12_digit_0.2.2.2.2.2.2.2.2.2.2.1
theorem dX12_digit_21 : decode cX12_digit 21 = .ok (.iconst 1, 1) := edX12_digit_0.2.2.2.2.2.2.2.2.2.2.2
set_option maxRecDepth 20000 in
theorem edX12_digit_22 : decode cX12_digit 22 = .ok (.iadd, 1) ∧ decode cX12_digit 23 = .ok (.putfield 93, 3) ∧ decode cX12_digit 26 = .ok (.aload_n 0, 1) ∧ decode cX12_digit 27 = .ok (.getfield 44, 3) ∧ decode cX12_digit 30 = .ok (.aload_n 0, 1) ∧ decode cX12_digit 31 = .ok (.getfield 93, 3) ∧ decode cX12_digit 34 = .ok (.iconst 1, 1) ∧ decode cX12_digit 35 = .ok (.isub, 1) ∧ decode cX12_digit 36 = .ok (.iaload, 1) ∧ decode cX12_digit 37 = .ok (.bipush 48, 2) ∧ decode cX12_digit 39 = .ok (.isub, 1) ∧ decode cX12_digit 40 = .ok (.ireturn, 1) := by decide +kernel
theorem dX12_digit_22 : decode cX12_digit 22 = .ok (.iadd, 1) := edX12_digit_22.1
theorem dX12_digit_23 : decode cX12_digit 23 = .ok (.putfield 93, 3) := edX12_digit_22.2.1
theorem dX12_digit_26 : decode cX12_digit 26 = .ok (.aload_n 0, 1) := edX12_digit_22.2.2.1
theorem dX12_digit_27 : decode cX12_digit 27 = .ok (.getfield 44, 3) := edX12_digit_22.2.2.2.1
theorem dX12_digit_30 : decode cX12_digit 30 = .ok (.aload_n 0, 1) := edX12_digit_22.2.2.2.2.1
theorem dX12_digit_31 : decode cX12_digit 31 = .ok (.getfield 93, 3) := edX12_digit_22.2.2.2.2.2.1
theorem dX12_digit_34 : decode cX12_digit 34 = .ok (.iconst 1, 1) := edX12_digit_22.2.2.2.2.2.2.1
theorem dX12_digit_35 : decode cX12_digit 35 = .ok (.isub, 1) := edX12_digit_22.2.2.2.2.2.2.2.1
theorem dX12_digit_36 : decode cX12_digit 36 = .ok (.iaload, 1) := edX12_digit_22.2.2.2.2.2.2.2.2.1
theorem dX12_digit_37 : decode cX12_digit 37 = .ok (.bipush 48, 2) := edX12_digit_22.2.2.2.2.2.2.2.2.2.1
theorem dX12_digit_39 : decode cX12_digit 39 = .ok (.isub, 1) := edX12_digit_22.2.2.2.2.2.2.2.2.2.2.1
theorem dX12_digit_40 : decode cX12_digit 40 = .ok (.ireturn, 1) := edX12_digit_22.2.2.2.2.2.2.2.2.2.2.2
noncomputable def voX12_digit : List Cond := [.fieldLink RX12 93 "EachOnHisCueModel" "at" "I", .fieldLink RX12 44 "EachOnHisCueModel" "tape" "[I", .methodLink RX12 96 yX12_next, .instanceMethod yX12_next, .selects RX12 yX12_next yX12_next, .initialized RX12, .methodLink RX12 100 yX12_isIn, .static yX12_isIn]
noncomputable def vsX12_digit : List Cond := .code yX12_digit cX12_digit 1 (some .int) :: (voX12_digit ++ (vsX12_next ++ (vsX12_isIn ++ (wsX120))))
theorem zgX12_digit : zGd vsX12_digit := z_gdC rfl (z_gdA (z_gdO (by decide +kernel) : zGd voX12_digit) (z_gdA zgX12_next (z_gdA zgX12_isIn (zgX12))))
theorem in_X12_digit_X12 : ∀ w ∈ wsX120, w ∈ vsX12_digit := fun _ h => List.mem_cons_of_mem _ (List.mem_append_right _ (List.mem_append_right _ (List.mem_append_right _ (h))))
theorem gw_X12_digit_X12_next : GoodIn vsX12_digit vsX12_next := z_gdI (fun _ h => List.mem_cons_of_mem _ (List.mem_append_right _ (List.mem_append_left _ h))) zgX12_next
set_option maxRecDepth 20000 in
theorem gv_X12_digit_X12_next_96 : GoodIn vsX12_digit (wsV RX12 96 RX12 yX12_next vsX12_next) := goodIn_app (goodIn_of _ (by decide +kernel)) gw_X12_digit_X12_next
theorem gw_X12_digit_X12_isIn : GoodIn vsX12_digit vsX12_isIn := z_gdI (fun _ h => List.mem_cons_of_mem _ (List.mem_append_right _ (List.mem_append_right _ (List.mem_append_left _ h)))) zgX12_isIn
set_option maxRecDepth 20000 in
theorem gv_X12_digit_X12_isIn_100 : GoodIn vsX12_digit (va_wsS RX12 100 yX12_isIn vsX12_isIn) := goodIn_app (goodIn_of _ (by decide +kernel)) gw_X12_digit_X12_isIn
set_option maxHeartbeats 4000000 in
set_option maxRecDepth 100000 in
theorem wX12_digit (l : Launch) (dC : Nat → ClassId) (dI : Nat → Nat → Nat) (cI cQ : ClassId) (ha0 ha0_16 ha0_0 ha0_1 ha0_2 ha0_3 ha0_4 ha0_5 ha0_6 ha0_7 ha0_8 ha0_17 ha0_18 ha0_19 ha0_23 ha0_29 ha0_33 ha0_34 ha0_35 : Nat) (fa0_16 : Nat → Int32) (hBfa0_16 : ∀ k, 0 ≤ (fa0_16 k).toInt ∧ (fa0_16 k).toInt ≤ 255) (ia0_9 : Int32) (hia0_9l : 0 ≤ ia0_9.toInt) (hia0_9h : ia0_9.toInt ≤ 5) (ia0_10 : Int32) (hia0_10l : 0 ≤ ia0_10.toInt) (hia0_10h : ia0_10.toInt ≤ 12) (ia0_11 : Int32) (ia0_12 : Int32) (ia0_13 : Int32) (ia0_14 : Int32) (hia0_14l : (-9) ≤ ia0_14.toInt) (hia0_14h : ia0_14.toInt ≤ 11) (ia0_15 : Int32) (ia0_20 : Int32) (hia0_20l : 0 ≤ ia0_20.toInt) (hia0_20h : ia0_20.toInt ≤ 80) (ia0_21 : Int32) (hia0_21l : 0 ≤ ia0_21.toInt) (hia0_21h : ia0_21.toInt ≤ 80) (ia0_22 : Int32) (hia0_22l : 0 ≤ ia0_22.toInt) (hia0_22h : ia0_22.toInt ≤ 40) (ia0_24 : Int32) (hia0_24l : 0 ≤ ia0_24.toInt) (hia0_24h : ia0_24.toInt ≤ 1) (ia0_25 : Int32) (hia0_25l : 0 ≤ ia0_25.toInt) (hia0_25h : ia0_25.toInt ≤ 1) (ia0_26 : Int32) (hia0_26l : 0 ≤ ia0_26.toInt) (hia0_26h : ia0_26.toInt ≤ 300) (ia0_27 : Int32) (hia0_27l : (-9) ≤ ia0_27.toInt) (hia0_27h : ia0_27.toInt ≤ 11) (ia0_28 : Int32) (ia0_30 : Int32) (hia0_30l : 0 ≤ ia0_30.toInt) (hia0_30h : ia0_30.toInt ≤ 60) (ia0_31 : Int32) (ia0_32 : Int32) (hia0_32l : 0 ≤ ia0_32.toInt) (hia0_32h : ia0_32.toInt ≤ 1) (ia0_36 : Int32) (hia0_36l : 0 ≤ ia0_36.toInt) (hia0_36h : ia0_36.toInt ≤ 12) (ia0_37 : Int32) (sz : Nat) : Met l yX12_digit vsX12_digit ({ frames := 1, cells := 0, slots := 0, locals := 22 }) (va_Pc [.ref ha0] (zB dC dI cI cQ [(ha0_16, .inl (cI, 80, .inl fa0_16)), (ha0, .inr (12, [.ref ha0_0, .ref ha0_1, .ref ha0_2, .ref ha0_3, .ref ha0_4, .ref ha0_5, .ref ha0_6, .ref ha0_7, .ref ha0_8, .int ia0_9, .int ia0_10, .int ia0_11, .int ia0_12, .int ia0_13, .int ia0_14, .int ia0_15, .ref ha0_16, .ref ha0_17, .ref ha0_18, .ref ha0_19, .int ia0_20, .int ia0_21, .int ia0_22, .ref ha0_23, .int ia0_24, .int ia0_25, .int ia0_26, .int ia0_27, .int ia0_28, .ref ha0_29, .int ia0_30, .int ia0_31, .int ia0_32, .ref ha0_33, .ref ha0_34, .ref ha0_35, .int ia0_36, .int ia0_37]))] sz)) (zWi dC dI (va_A [(ha0_16, .inl (cI, 80, .inl fa0_16)), (ha0, .inr (12, [.ref ha0_0, .ref ha0_1, .ref ha0_2, .ref ha0_3, .ref ha0_4, .ref ha0_5, .ref ha0_6, .ref ha0_7, .ref ha0_8, .int ia0_9, .int ia0_10, .int ia0_11, .int ia0_12, .int ia0_13, .int ia0_14, .int ia0_15, .ref ha0_16, .ref ha0_17, .ref ha0_18, .ref ha0_19, .int ia0_20, .int ia0_21, .int ia0_22, .ref ha0_23, .int ia0_24, .int ia0_25, .int ia0_26, .int ia0_27, .int ia0_28, .ref ha0_29, .int ia0_30, .int ia0_31, .int ia0_32, .ref ha0_33, .ref ha0_34, .ref ha0_35, .int ia0_36, .int ia0_37]))] sz) (fun u => [(ha0_16, .inl (cI, 80, .inl fa0_16)), (ha0, .inr (12, [.ref ha0_0, .ref ha0_1, .ref ha0_2, .ref ha0_3, .ref ha0_4, .ref ha0_5, .ref ha0_6, .ref ha0_7, .ref ha0_8, .int ia0_9, .int ia0_10, .int ia0_11, .int ia0_12, .int ia0_13, .int ia0_14, .int ia0_15, .ref ha0_16, .ref ha0_17, .ref ha0_18, .ref ha0_19, .int ia0_20, .int (u.1 0), .int ia0_22, .ref ha0_23, .int ia0_24, .int ia0_25, .int ia0_26, .int ia0_27, .int ia0_28, .ref ha0_29, .int ia0_30, .int ia0_31, .int ia0_32, .ref ha0_33, .ref ha0_34, .ref ha0_35, .int ia0_36, .int ia0_37]))]) (fun r u => (0 ≤ (u.1 0).toInt ∧ (u.1 0).toInt ≤ 80) ∧ ((-48) ≤ r.toInt ∧ r.toInt ≤ 207) ∧ ((zDgP fa0_16 ia0_20.toInt ia0_21.toInt (u.1 0).toInt r.toInt)))) 0 0 (va_A [(ha0_16, .inl (cI, 80, .inl fa0_16)), (ha0, .inr (12, [.ref ha0_0, .ref ha0_1, .ref ha0_2, .ref ha0_3, .ref ha0_4, .ref ha0_5, .ref ha0_6, .ref ha0_7, .ref ha0_8, .int ia0_9, .int ia0_10, .int ia0_11, .int ia0_12, .int ia0_13, .int ia0_14, .int ia0_15, .ref ha0_16, .ref ha0_17, .ref ha0_18, .ref ha0_19, .int ia0_20, .int ia0_21, .int ia0_22, .ref ha0_23, .int ia0_24, .int ia0_25, .int ia0_26, .int ia0_27, .int ia0_28, .ref ha0_29, .int ia0_30, .int ia0_31, .int ia0_32, .ref ha0_33, .ref ha0_34, .ref ha0_35, .int ia0_36, .int ia0_37]))] sz) := by
  refine Met.ofW (cc := cX12_digit) (maxL := 1) (ret := (some .int)) (by decide) rfl ?_
  intro p e s m args below meth c s₁ B hml hv
  obtain ⟨rfl, hsz, hP, hZ, hD0⟩ := hv
  obtain ⟨hK, hAO, hN⟩ := id hZ
  have hx := B.exec
  have hb := B.bytes
  have hr := B.returns
  have hts := atoms_spec (ws := vsX12_digit) B.pre
  have hown : s.vm.findClass RX12 = some m.cls := findClass_of_methodNamed B.named
  have hlocks := B.notSynchronized
  have hlt0 : ((-9) : Int32).toInt = (-9) := by decide
  have hlt1 : ((-6) : Int32).toInt = (-6) := by decide
  have hlt2 : ((-4) : Int32).toInt = (-4) := by decide
  have hlt3 : ((-3) : Int32).toInt = (-3) := by decide
  have hlt4 : ((-2) : Int32).toInt = (-2) := by decide
  have hlt5 : ((-1) : Int32).toInt = (-1) := by decide
  have hlt6 : (0 : Int32).toInt = 0 := by decide
  have hlt7 : (1 : Int32).toInt = 1 := by decide
  subst hsz
  have hD := hD0.self (sz := s.heap.size)
  generalize hAe : va_A [(ha0_16, .inl (cI, 80, .inl fa0_16)), (ha0, .inr (12, [.ref ha0_0, .ref ha0_1, .ref ha0_2, .ref ha0_3, .ref ha0_4, .ref ha0_5, .ref ha0_6, .ref ha0_7, .ref ha0_8, .int ia0_9, .int ia0_10, .int ia0_11, .int ia0_12, .int ia0_13, .int ia0_14, .int ia0_15, .ref ha0_16, .ref ha0_17, .ref ha0_18, .ref ha0_19, .int ia0_20, .int ia0_21, .int ia0_22, .ref ha0_23, .int ia0_24, .int ia0_25, .int ia0_26, .int ia0_27, .int ia0_28, .ref ha0_29, .int ia0_30, .int ia0_31, .int ia0_32, .ref ha0_33, .ref ha0_34, .ref ha0_35, .int ia0_36, .int ia0_37]))] s.heap.size = A at hD ⊢
  have hA : ∀ q : Nat, s.heap.size ≤ q → A q := fun q h => by rw [← hAe]; exact Or.inr h
  have hS : va_S A s.heap s.heap [] := va_S.rf
  have hP : va_P (dC, dI) vwCl [(ha0_16, .inl (cI, 80, .inl fa0_16)), (ha0, .inr (12, [.ref ha0_0, .ref ha0_1, .ref ha0_2, .ref ha0_3, .ref ha0_4, .ref ha0_5, .ref ha0_6, .ref ha0_7, .ref ha0_8, .int ia0_9, .int ia0_10, .int ia0_11, .int ia0_12, .int ia0_13, .int ia0_14, .int ia0_15, .ref ha0_16, .ref ha0_17, .ref ha0_18, .ref ha0_19, .int ia0_20, .int ia0_21, .int ia0_22, .ref ha0_23, .int ia0_24, .int ia0_25, .int ia0_26, .int ia0_27, .int ia0_28, .ref ha0_29, .int ia0_30, .int ia0_31, .int ia0_32, .ref ha0_33, .ref ha0_34, .ref ha0_35, .int ia0_36, .int ia0_37]))] s.heap := hP
  have hl := lv_entry ([.ref ha0]) (n := 1) (Nat.le_of_ble_eq_true rfl)
  rw [lg_entry_eq]
  generalize (lg_sl ([.ref ha0]) ++ List.replicate (1 - (lg_sl ([.ref ha0])).length) Slot.unset).toArray = ls at hl ⊢
  have hl : lv_has ls 1 [(0, .ref ha0)] := hl
  refine lv_aload_n hx hb dX12_digit_0 rfl (lv_at hl 0 rfl) ?_
  refine z_rdi (va_runV (As := []) (rest := []) ⟨hx, hb, hml, hown, hts⟩ (rX12_next l dC dI cI cQ ha0 ha0_16 ha0_0 ha0_1 ha0_2 ha0_3 ha0_4 ha0_5 ha0_6 ha0_7 ha0_8 ha0_17 ha0_18 ha0_19 ha0_23 ha0_29 ha0_33 ha0_34 ha0_35 fa0_16 hBfa0_16 ia0_9 hia0_9l hia0_9h ia0_10 hia0_10l hia0_10h ia0_11 ia0_12 ia0_13 ia0_14 hia0_14l hia0_14h ia0_15 ia0_20 hia0_20l hia0_20h ia0_21 hia0_21l hia0_21h ia0_22 hia0_22l hia0_22h ia0_24 hia0_24l hia0_24h ia0_25 hia0_25l hia0_25h ia0_26 hia0_26l hia0_26h ia0_27 hia0_27l hia0_27h ia0_28 ia0_30 hia0_30l hia0_30h ia0_31 ia0_32 hia0_32l hia0_32h ia0_36 hia0_36l hia0_36h ia0_37) (cwV 0 hts gv_X12_digit_X12_next_96 rfl rfl rfl (by decide +kernel) ⟨Nat.le_of_ble_eq_true rfl, Nat.le_of_ble_eq_true rfl⟩) ⟨z_blindR, va_recv hK hP (ci := 12) (q0 := 1) rfl rfl, z_preR hZ hP [0, 1] rfl⟩ rfl rfl hl.1 rfl (lv_room (Nat.le_of_ble_eq_true rfl)) dX12_digit_1 ⟨Nat.le_of_ble_eq_true rfl, Nat.le_of_ble_eq_true rfl⟩) (fun y1 hy1 => ?_)
  obtain ⟨hy1_0, hy1_1, hy1_2⟩ := hy1
  refine lv_bipush (v := 48) hx hb dX12_digit_4 (by decide) ?_
  refine lv_bipush (v := 57) hx hb dX12_digit_6 (by decide) ?_
  refine z_rdi (va_runS (As := [.int y1, .int 48, .int 57]) (rest := []) ⟨hx, hb, hml, hown, hts⟩ (rX12_isIn l dC dI cI cQ y1 48 57) (va_cwS 3 hts gv_X12_digit_X12_isIn_100 rfl rfl rfl (by decide +kernel) ⟨Nat.le_of_ble_eq_true rfl, Nat.le_of_ble_eq_true rfl⟩) ⟨z_blindR, z_preR hZ hP [] rfl⟩ rfl rfl hl.1 rfl (lv_room (Nat.le_of_ble_eq_true rfl)) dX12_digit_8 ⟨Nat.le_of_ble_eq_true rfl, Nat.le_of_ble_eq_true rfl⟩) (fun y2 hy2 => ?_)
  obtain ⟨hy2_0, hy2_1, hy2_2⟩ := hy2
  try simp only [show (48 : Int32).toInt = 48 from by decide, show (57 : Int32).toInt = 57 from by decide] at hy2_2
  refine lv_if_ne (tgt := 16) hx hb dX12_digit_11 (by decide) (fun hc => ?_) (fun hc => ?_)
  · have q3 : y2.toInt ≠ 0 := z_ne rfl (by decide) hc
    refine lv_aload_n hx hb dX12_digit_16 rfl (lv_at hl 0 rfl) ?_
    refine lv_dup hx hb dX12_digit_17 rfl ?_
    refine va_get (D := (dC, dI)) (ci := 12) (v := .int ia0_21) (C := RX12) (T := TX12) (N := 38) hx hb hts in_X12_digit_X12 hown hK hP 1 rfl rfl 21 (by decide) (hts (.fieldLink RX12 93 "EachOnHisCueModel" "at" "I") (by decide +kernel)) (fun _ h9 => h9) rfl dX12_digit_18 ?_
    refine lv_iconst (v := 1) hx hb dX12_digit_21 (by decide) ?_
    refine lv_iadd hx hb dX12_digit_22 ?_
    refine lv_topi (fun y4 ey4 => ?_)
    have hy4 : y4.toInt = ia0_21.toInt + 1 := by rw [ey4]; exact z_add rfl (by decide) (by omega) (by omega)
    refine va_put (D := (dC, dI)) (ci := 12) (v := .int y4) (ty := .int) (C := RX12) (T := TX12) (N := 38) hx hb hts in_X12_digit_X12 tyX12 tyX12_ok nmX12 hown hK hP hD hS 1 rfl rfl 21 (by decide) (hts (.fieldLink RX12 93 "EachOnHisCueModel" "at" "I") (by decide +kernel)) (fun _ h9 => h9) rfl (by decide +kernel) rfl rfl (Nat.le_of_ble_eq_true rfl) dX12_digit_23 (fun H locs hP hD hS => ?_)
    have hP : va_P (dC, dI) vwCl [(ha0_16, .inl (cI, 80, .inl fa0_16)), (ha0, .inr (12, [.ref ha0_0, .ref ha0_1, .ref ha0_2, .ref ha0_3, .ref ha0_4, .ref ha0_5, .ref ha0_6, .ref ha0_7, .ref ha0_8, .int ia0_9, .int ia0_10, .int ia0_11, .int ia0_12, .int ia0_13, .int ia0_14, .int ia0_15, .ref ha0_16, .ref ha0_17, .ref ha0_18, .ref ha0_19, .int ia0_20, .int y4, .int ia0_22, .ref ha0_23, .int ia0_24, .int ia0_25, .int ia0_26, .int ia0_27, .int ia0_28, .ref ha0_29, .int ia0_30, .int ia0_31, .int ia0_32, .ref ha0_33, .ref ha0_34, .ref ha0_35, .int ia0_36, .int ia0_37]))] H := hP
    have hD : va_D A [(ha0_16, .inl (cI, 80, .inl fa0_16)), (ha0, .inr (12, [.ref ha0_0, .ref ha0_1, .ref ha0_2, .ref ha0_3, .ref ha0_4, .ref ha0_5, .ref ha0_6, .ref ha0_7, .ref ha0_8, .int ia0_9, .int ia0_10, .int ia0_11, .int ia0_12, .int ia0_13, .int ia0_14, .int ia0_15, .ref ha0_16, .ref ha0_17, .ref ha0_18, .ref ha0_19, .int ia0_20, .int y4, .int ia0_22, .ref ha0_23, .int ia0_24, .int ia0_25, .int ia0_26, .int ia0_27, .int ia0_28, .ref ha0_29, .int ia0_30, .int ia0_31, .int ia0_32, .ref ha0_33, .ref ha0_34, .ref ha0_35, .int ia0_36, .int ia0_37]))] := hD
    refine lv_aload_n hx hb dX12_digit_26 rfl (lv_at hl 0 rfl) ?_
    refine va_get (D := (dC, dI)) (ci := 12) (v := .ref ha0_16) (C := RX12) (T := TX12) (N := 38) hx hb hts in_X12_digit_X12 hown hK hP 1 rfl rfl 16 (by decide) (hts (.fieldLink RX12 44 "EachOnHisCueModel" "tape" "[I") (by decide +kernel)) (fun _ h9 => h9) rfl dX12_digit_27 ?_
    refine lv_aload_n hx hb dX12_digit_30 rfl (lv_at hl 0 rfl) ?_
    refine va_get (D := (dC, dI)) (ci := 12) (v := .int y4) (C := RX12) (T := TX12) (N := 38) hx hb hts in_X12_digit_X12 hown hK hP 1 rfl rfl 21 (by decide) (hts (.fieldLink RX12 93 "EachOnHisCueModel" "at" "I") (by decide +kernel)) (fun _ h9 => h9) rfl dX12_digit_31 ?_
    refine lv_iconst (v := 1) hx hb dX12_digit_34 (by decide) ?_
    refine lv_isub hx hb dX12_digit_35 ?_
    refine lv_topi (fun y5 ey5 => ?_)
    have hy5 : y5.toInt = y4.toInt - 1 := by rw [ey5]; exact z_sub rfl (by decide) (by omega) (by omega)
    refine va_iald hx hb hK hP 0 0 rfl rfl (z_in (by omega) (by omega)) dX12_digit_36 ?_
    refine lv_topi (fun y6 ey6 => ?_)
    have gy6 : y6.toInt = (fa0_16 (y5 : Int32).toNatClampNeg).toInt := by rw [ey6]
    have hy6 : 0 ≤ y6.toInt ∧ y6.toInt ≤ 255 := by rw [ey6]; exact hBfa0_16 _
    obtain ⟨hy6, hy6_⟩ := hy6
    refine lv_bipush (v := 48) hx hb dX12_digit_37 (by decide) ?_
    refine lv_isub hx hb dX12_digit_39 ?_
    refine lv_topi (fun y7 ey7 => ?_)
    have hy7 : y7.toInt = y6.toInt - 48 := by rw [ey7]; exact z_sub rfl (by decide) (by omega) (by omega)
    have hP9 := hP.sub (ws' := [(ha0_16, .inl (cI, 80, .inl fa0_16)), (ha0, .inr (12, [.ref ha0_0, .ref ha0_1, .ref ha0_2, .ref ha0_3, .ref ha0_4, .ref ha0_5, .ref ha0_6, .ref ha0_7, .ref ha0_8, .int ia0_9, .int ia0_10, .int ia0_11, .int ia0_12, .int ia0_13, .int ia0_14, .int ia0_15, .ref ha0_16, .ref ha0_17, .ref ha0_18, .ref ha0_19, .int ia0_20, .int y4, .int ia0_22, .ref ha0_23, .int ia0_24, .int ia0_25, .int ia0_26, .int ia0_27, .int ia0_28, .ref ha0_29, .int ia0_30, .int ia0_31, .int ia0_32, .ref ha0_33, .ref ha0_34, .ref ha0_35, .int ia0_36, .int ia0_37]))]) [0, 1] rfl
    have hD9 := hD.sub (ws' := [(ha0_16, .inl (cI, 80, .inl fa0_16)), (ha0, .inr (12, [.ref ha0_0, .ref ha0_1, .ref ha0_2, .ref ha0_3, .ref ha0_4, .ref ha0_5, .ref ha0_6, .ref ha0_7, .ref ha0_8, .int ia0_9, .int ia0_10, .int ia0_11, .int ia0_12, .int ia0_13, .int ia0_14, .int ia0_15, .ref ha0_16, .ref ha0_17, .ref ha0_18, .ref ha0_19, .int ia0_20, .int y4, .int ia0_22, .ref ha0_23, .int ia0_24, .int ia0_25, .int ia0_26, .int ia0_27, .int ia0_28, .ref ha0_29, .int ia0_30, .int ia0_31, .int ia0_32, .ref ha0_33, .ref ha0_34, .ref ha0_35, .int ia0_36, .int ia0_37]))]) [0, 1] (by decide) rfl
    have hpo : (zDgP fa0_16 ia0_20.toInt ia0_21.toInt (y4 : Int32).toInt (y7 : Int32).toInt) := by first | exact z_dgI hy1_2 (by omega) (by omega) (by omega) | (have q := z_atE (t := fa0_16) (n := ia0_20.toInt) (k := ia0_21.toInt) (by assumption) (by omega) (by omega) (by omega); exact z_dgJ hy1_2 (by omega) (by omega) (by omega) (by omega))
    exact W.iret (v := y7) hx hb hr (fun t ht hW => ⟨⟨y7, (fun k => [y4].getD k 0, fun k => [].getD k (fun _ => 0)), rfl, (show (0 ≤ (y4 : Int32).toInt ∧ (y4 : Int32).toInt ≤ 80) ∧ ((-48) ≤ (y7 : Int32).toInt ∧ (y7 : Int32).toInt ≤ 207) ∧ ((zDgP fa0_16 ia0_20.toInt ia0_21.toInt (y4 : Int32).toInt (y7 : Int32).toInt)) from ⟨⟨(by first | decide | omega), (by first | decide | omega)⟩, ⟨by first | decide | omega, by first | decide | omega⟩, hpo⟩), by rw [ht]; exact hP9, hD9⟩, hS.F ht⟩) hS.2.2 dX12_digit_40
  · have q8 : y2.toInt = 0 := z_eq rfl (by decide) hc
    refine lv_iconst (v := (-1)) hx hb dX12_digit_14 (by decide) ?_
    have hP9 := hP.sub (ws' := [(ha0_16, .inl (cI, 80, .inl fa0_16)), (ha0, .inr (12, [.ref ha0_0, .ref ha0_1, .ref ha0_2, .ref ha0_3, .ref ha0_4, .ref ha0_5, .ref ha0_6, .ref ha0_7, .ref ha0_8, .int ia0_9, .int ia0_10, .int ia0_11, .int ia0_12, .int ia0_13, .int ia0_14, .int ia0_15, .ref ha0_16, .ref ha0_17, .ref ha0_18, .ref ha0_19, .int ia0_20, .int ia0_21, .int ia0_22, .ref ha0_23, .int ia0_24, .int ia0_25, .int ia0_26, .int ia0_27, .int ia0_28, .ref ha0_29, .int ia0_30, .int ia0_31, .int ia0_32, .ref ha0_33, .ref ha0_34, .ref ha0_35, .int ia0_36, .int ia0_37]))]) [0, 1] rfl
    have hD9 := hD.sub (ws' := [(ha0_16, .inl (cI, 80, .inl fa0_16)), (ha0, .inr (12, [.ref ha0_0, .ref ha0_1, .ref ha0_2, .ref ha0_3, .ref ha0_4, .ref ha0_5, .ref ha0_6, .ref ha0_7, .ref ha0_8, .int ia0_9, .int ia0_10, .int ia0_11, .int ia0_12, .int ia0_13, .int ia0_14, .int ia0_15, .ref ha0_16, .ref ha0_17, .ref ha0_18, .ref ha0_19, .int ia0_20, .int ia0_21, .int ia0_22, .ref ha0_23, .int ia0_24, .int ia0_25, .int ia0_26, .int ia0_27, .int ia0_28, .ref ha0_29, .int ia0_30, .int ia0_31, .int ia0_32, .ref ha0_33, .ref ha0_34, .ref ha0_35, .int ia0_36, .int ia0_37]))]) [0, 1] (by decide) rfl
    have hpo : (zDgP fa0_16 ia0_20.toInt ia0_21.toInt (ia0_21 : Int32).toInt ((-1) : Int32).toInt) := by first | exact z_dgI hy1_2 (by omega) (by omega) (by omega) | (have q := z_atE (t := fa0_16) (n := ia0_20.toInt) (k := ia0_21.toInt) (by assumption) (by omega) (by omega) (by omega); exact z_dgJ hy1_2 (by omega) (by omega) (by omega) (by omega))
    exact W.iret (v := (-1)) hx hb hr (fun t ht hW => ⟨⟨(-1), (fun k => [ia0_21].getD k 0, fun k => [].getD k (fun _ => 0)), rfl, (show (0 ≤ (ia0_21 : Int32).toInt ∧ (ia0_21 : Int32).toInt ≤ 80) ∧ ((-48) ≤ ((-1) : Int32).toInt ∧ ((-1) : Int32).toInt ≤ 207) ∧ ((zDgP fa0_16 ia0_20.toInt ia0_21.toInt (ia0_21 : Int32).toInt ((-1) : Int32).toInt)) from ⟨⟨hia0_21l, hia0_21h⟩, ⟨by first | decide | omega, by first | decide | omega⟩, hpo⟩), by rw [ht]; exact hP9, hD9⟩, hS.F ht⟩) hS.2.2 dX12_digit_15
set_option maxRecDepth 20000 in
theorem edX12_passOne_0 : decode cX12_passOne 0 = .ok (.aload_n 0, 1) ∧ decode cX12_passOne 1 = .ok (.getfield 137, 3) ∧ decode cX12_passOne 4 = .ok (.ifCond .eq 7, 3) ∧ decode cX12_passOne 7 = .ok (.iload_n 1, 1) ∧ decode cX12_passOne 8 = .ok (.goto 12, 3) ∧ decode cX12_passOne 11 = .ok (.aload_n 0, 1) ∧ decode cX12_passOne 12 = .ok (.getfield 56, 3) ∧ decode cX12_passOne 15 = .ok (.aload_n 0, 1) ∧ decode cX12_passOne 16 = .ok (.getfield 141, 3) ∧ decode cX12_passOne 19 = .ok (.iaload, 1) ∧ decode cX12_passOne 20 = .ok (.istore_n 2, 1) ∧ decode cX12_passOne 21 = .ok (.aload_n 0, 1) := by decide +kernel
theorem dX12_passOne_0 : decode cX12_passOne 0 = .ok (.aload_n 0, 1) := edX12_passOne_0.1
theorem dX12_passOne_1 : decode cX12_passOne 1 = .ok (.getfield 137, 3) := edX12_passOne_0.2.1
theorem dX12_passOne_4 : decode cX12_passOne 4 = .ok (.ifCond .eq 7, 3) := edX12_passOne_0.2.2.1
theorem dX12_passOne_7 : decode cX12_passOne 7 = .ok (.iload_n 1, 1) := edX12_passOne_0.2.2.2.1
theorem dX12_passOne_8 : decode cX12_passOne 8 = .ok (.goto 12, 3) := edX12_passOne_0.2.2.2.2.1
theorem dX12_passOne_11 : decode cX12_passOne 11 = .ok (.aload_n 0, 1) := edX12_passOne_0.2.2.2.2.2.1
theorem dX12_passOne_12 : decode cX12_passOne 12 = .ok (.getfield 56, 3) := edX12_passOne_0.2.2.2.2.2.2.1
theorem dX12_passOne_15 : decode cX12_passOne 15 = .ok (.aload_n 0, 1) := edX12_passOne_0.2.2.2.2.2.2.2.1
theorem dX12_passOne_16 : decode cX12_passOne 16 = .ok (.getfield 141, 3) := edX12_passOne_0.2.2.2.2.2.2.2.2.1
theorem dX12_passOne_19 : decode cX12_passOne 19 = .ok (.iaload, 1) := edX12_passOne_0.2.2.2.2.2.2.2.2.2.1
theorem dX12_passOne_20 : decode cX12_passOne 20 = .ok (.istore_n 2, 1) := edX12_passOne_0.2.2.2.2.2.2.2.2.2.2.1
theorem dX12_passOne_21 : decode cX12_passOne 21 = .ok (.aload_n 0, 1) := edX12_passOne_0.2.2.2.2.2.2.2.2.2.2.2
set_option maxRecDepth 20000 in
theorem edX12_passOne_22 : decode cX12_passOne 22 = .ok (.getfield 137, 3) ∧ decode cX12_passOne 25 = .ok (.ifCond .eq 13, 3) ∧ decode cX12_passOne 28 = .ok (.aload_n 0, 1) ∧ decode cX12_passOne 29 = .ok (.getfield 56, 3) ∧ decode cX12_passOne 32 = .ok (.aload_n 0, 1) ∧ decode cX12_passOne 33 = .ok (.getfield 141, 3) ∧ decode cX12_passOne 36 = .ok (.iload_n 1, 1) ∧ decode cX12_passOne 37 = .ok (.iastore, 1) ∧ decode cX12_passOne 38 = .ok (.aload_n 0, 1) ∧ decode cX12_passOne 39 = .ok (.dup, 1) ∧ decode cX12_passOne 40 = .ok (.getfield 141, 3) ∧ decode cX12_passOne 43 = .ok (.iconst 1, 1) := by decide +kernel
theorem dX12_passOne_22 : decode cX12_passOne 22 = .ok (.getfield 137, 3) := edX12_passOne_22.1
theorem dX12_passOne_25 : decode cX12_passOne 25 = .ok (.ifCond .eq 13, 3) := edX12_passOne_22.2.1
theorem dX12_passOne_28 : decode cX12_passOne 28 = .ok (.aload_n 0, 1) := edX12_passOne_22.2.2.1
theorem dX12_passOne_29 : decode cX12_passOne 29 = .ok (.getfield 56, 3) := edX12_passOne_22.2.2.2.1
theorem dX12_passOne_32 : decode cX12_passOne 32 = .ok (.aload_n 0, 1) := edX12_passOne_22.2.2.2.2.1
theorem dX12_passOne_33 : decode cX12_passOne 33 = .ok (.getfield 141, 3) := edX12_passOne_22.2.2.2.2.2.1
theorem dX12_passOne_36 : decode cX12_passOne 36 = .ok (.iload_n 1, 1) := edX12_passOne_22.2.2.2.2.2.2.1
theorem dX12_passOne_37 : decode cX12_passOne 37 = .ok (.iastore, 1) := edX12_passOne_22.2.2.2.2.2.2.2.1
theorem dX12_passOne_38 : decode cX12_passOne 38 = .ok (.aload_n 0, 1) := edX12_passOne_22.2.2.2.2.2.2.2.2.1
theorem dX12_passOne_39 : decode cX12_passOne 39 = .ok (.dup, 1) := edX12_passOne_22.2.2.2.2.2.2.2.2.2.1
theorem dX12_passOne_40 : decode cX12_passOne 40 = .ok (.getfield 141, 3) := edX12_passOne_22.2.2.2.2.2.2.2.2.2.2.1
theorem dX12_passOne_43 : decode cX12_passOne 43 = .ok (.iconst 1, 1) := edX12_passOne_22.2.2.2.2.2.2.2.2.2.2.2
set_option maxRecDepth 20000 in
theorem edX12_passOne_44 : decode cX12_passOne 44 = .ok (.iadd, 1) ∧ decode cX12_passOne 45 = .ok (.putfield 141, 3) ∧ decode cX12_passOne 48 = .ok (.iload_n 2, 1) ∧ decode cX12_passOne 49 = .ok (.ireturn, 1) := by decide +kernel
theorem dX12_passOne_44 : decode cX12_passOne 44 = .ok (.iadd, 1) := edX12_passOne_44.1
theorem dX12_passOne_45 : decode cX12_passOne 45 = .ok (.putfield 141, 3) := edX12_passOne_44.2.1
theorem dX12_passOne_48 : decode cX12_passOne 48 = .ok (.iload_n 2, 1) := edX12_passOne_44.2.2.1
theorem dX12_passOne_49 : decode cX12_passOne 49 = .ok (.ireturn, 1) := edX12_passOne_44.2.2.2
noncomputable def voX12_passOne : List Cond := [.fieldLink RX12 137 "EachOnHisCueModel" "isKeeping" "Z", .fieldLink RX12 56 "EachOnHisCueModel" "kept" "[I", .fieldLink RX12 141 "EachOnHisCueModel" "cursor" "I"]
noncomputable def vsX12_passOne : List Cond := .code yX12_passOne cX12_passOne 3 (some .int) :: (voX12_passOne ++ (wsX120))
theorem zgX12_passOne : zGd vsX12_passOne := z_gdC rfl (z_gdA (z_gdO (by decide +kernel) : zGd voX12_passOne) (zgX12))
theorem in_X12_passOne_X12 : ∀ w ∈ wsX120, w ∈ vsX12_passOne := fun _ h => List.mem_cons_of_mem _ (List.mem_append_right _ (h))
set_option maxHeartbeats 4000000 in
set_option maxRecDepth 100000 in
theorem wX12_passOne (l : Launch) (dC : Nat → ClassId) (dI : Nat → Nat → Nat) (cI cQ : ClassId) (ha0 ha0_23 ha0_0 ha0_1 ha0_2 ha0_3 ha0_4 ha0_5 ha0_6 ha0_7 ha0_8 ha0_16 ha0_17 ha0_18 ha0_19 ha0_29 ha0_33 ha0_34 ha0_35 : Nat) (fa0_23 : Nat → Int32) (hBfa0_23 : zKp fa0_23) (ia0_9 : Int32) (hia0_9l : 0 ≤ ia0_9.toInt) (hia0_9h : ia0_9.toInt ≤ 5) (ia0_10 : Int32) (hia0_10l : 0 ≤ ia0_10.toInt) (hia0_10h : ia0_10.toInt ≤ 12) (ia0_11 : Int32) (ia0_12 : Int32) (ia0_13 : Int32) (ia0_14 : Int32) (hia0_14l : (-9) ≤ ia0_14.toInt) (hia0_14h : ia0_14.toInt ≤ 11) (ia0_15 : Int32) (ia0_20 : Int32) (hia0_20l : 0 ≤ ia0_20.toInt) (hia0_20h : ia0_20.toInt ≤ 80) (ia0_21 : Int32) (hia0_21l : 0 ≤ ia0_21.toInt) (hia0_21h : ia0_21.toInt ≤ 80) (ia0_22 : Int32) (hia0_22l : 0 ≤ ia0_22.toInt) (hia0_22h : ia0_22.toInt ≤ 40) (ia0_24 : Int32) (hia0_24l : 0 ≤ ia0_24.toInt) (hia0_24h : ia0_24.toInt ≤ 1) (ia0_25 : Int32) (hia0_25l : 0 ≤ ia0_25.toInt) (hia0_25h : ia0_25.toInt ≤ 1) (ia0_26 : Int32) (hia0_26l : 0 ≤ ia0_26.toInt) (hia0_26h : ia0_26.toInt ≤ 299) (ia0_27 : Int32) (hia0_27l : (-9) ≤ ia0_27.toInt) (hia0_27h : ia0_27.toInt ≤ 11) (ia0_28 : Int32) (ia0_30 : Int32) (hia0_30l : 0 ≤ ia0_30.toInt) (hia0_30h : ia0_30.toInt ≤ 60) (ia0_31 : Int32) (ia0_32 : Int32) (hia0_32l : 0 ≤ ia0_32.toInt) (hia0_32h : ia0_32.toInt ≤ 1) (ia0_36 : Int32) (hia0_36l : 0 ≤ ia0_36.toInt) (hia0_36h : ia0_36.toInt ≤ 12) (ia0_37 : Int32) (p1 : Int32) (hx0 : ((15 ≤ ia0_26.toInt % 150 ∧ ia0_26.toInt % 150 < 39 → 0 ≤ p1.toInt ∧ p1.toInt ≤ 4) ∧ (39 ≤ ia0_26.toInt % 150 ∧ ia0_26.toInt % 150 < 51 → 0 ≤ p1.toInt ∧ p1.toInt ≤ 9) ∧ (ia0_26.toInt % 150 = 123 → 0 ≤ p1.toInt ∧ p1.toInt ≤ 5) ∧ (ia0_26.toInt % 150 = 124 → 0 ≤ p1.toInt ∧ p1.toInt ≤ 12) ∧ (ia0_26.toInt % 150 = 128 → -9 ≤ p1.toInt ∧ p1.toInt ≤ 11))) (sz : Nat) : Met l yX12_passOne vsX12_passOne ({ frames := 0, cells := 0, slots := 0, locals := 0 }) (va_Pc [.ref ha0, .int p1] (zB dC dI cI cQ [(ha0_23, .inl (cI, 300, .inl fa0_23)), (ha0, .inr (12, [.ref ha0_0, .ref ha0_1, .ref ha0_2, .ref ha0_3, .ref ha0_4, .ref ha0_5, .ref ha0_6, .ref ha0_7, .ref ha0_8, .int ia0_9, .int ia0_10, .int ia0_11, .int ia0_12, .int ia0_13, .int ia0_14, .int ia0_15, .ref ha0_16, .ref ha0_17, .ref ha0_18, .ref ha0_19, .int ia0_20, .int ia0_21, .int ia0_22, .ref ha0_23, .int ia0_24, .int ia0_25, .int ia0_26, .int ia0_27, .int ia0_28, .ref ha0_29, .int ia0_30, .int ia0_31, .int ia0_32, .ref ha0_33, .ref ha0_34, .ref ha0_35, .int ia0_36, .int ia0_37]))] sz)) (zWi dC dI (va_A [(ha0_23, .inl (cI, 300, .inl fa0_23)), (ha0, .inr (12, [.ref ha0_0, .ref ha0_1, .ref ha0_2, .ref ha0_3, .ref ha0_4, .ref ha0_5, .ref ha0_6, .ref ha0_7, .ref ha0_8, .int ia0_9, .int ia0_10, .int ia0_11, .int ia0_12, .int ia0_13, .int ia0_14, .int ia0_15, .ref ha0_16, .ref ha0_17, .ref ha0_18, .ref ha0_19, .int ia0_20, .int ia0_21, .int ia0_22, .ref ha0_23, .int ia0_24, .int ia0_25, .int ia0_26, .int ia0_27, .int ia0_28, .ref ha0_29, .int ia0_30, .int ia0_31, .int ia0_32, .ref ha0_33, .ref ha0_34, .ref ha0_35, .int ia0_36, .int ia0_37]))] sz) (fun u => [(ha0_23, .inl (cI, 300, .inl (u.2 0))), (ha0, .inr (12, [.ref ha0_0, .ref ha0_1, .ref ha0_2, .ref ha0_3, .ref ha0_4, .ref ha0_5, .ref ha0_6, .ref ha0_7, .ref ha0_8, .int ia0_9, .int ia0_10, .int ia0_11, .int ia0_12, .int ia0_13, .int ia0_14, .int ia0_15, .ref ha0_16, .ref ha0_17, .ref ha0_18, .ref ha0_19, .int ia0_20, .int ia0_21, .int ia0_22, .ref ha0_23, .int ia0_24, .int ia0_25, .int (u.1 0), .int ia0_27, .int ia0_28, .ref ha0_29, .int ia0_30, .int ia0_31, .int ia0_32, .ref ha0_33, .ref ha0_34, .ref ha0_35, .int ia0_36, .int ia0_37]))]) (fun r u => (zKp (u.2 0)) ∧ (1 ≤ (u.1 0).toInt ∧ (u.1 0).toInt ≤ 300) ∧ ((-2147483648) ≤ r.toInt ∧ r.toInt ≤ 2147483647) ∧ ((u.1 0).toInt = ia0_26.toInt + 1 ∧ ((15 ≤ ia0_26.toInt % 150 ∧ ia0_26.toInt % 150 < 39 → 0 ≤ r.toInt ∧ r.toInt ≤ 4) ∧ (39 ≤ ia0_26.toInt % 150 ∧ ia0_26.toInt % 150 < 51 → 0 ≤ r.toInt ∧ r.toInt ≤ 9) ∧ (ia0_26.toInt % 150 = 123 → 0 ≤ r.toInt ∧ r.toInt ≤ 5) ∧ (ia0_26.toInt % 150 = 124 → 0 ≤ r.toInt ∧ r.toInt ≤ 12) ∧ (ia0_26.toInt % 150 = 128 → -9 ≤ r.toInt ∧ r.toInt ≤ 11)) ∧ zP1 ia0_25 ia0_26 p1 fa0_23 (u.2 0) r))) 0 0 (va_A [(ha0_23, .inl (cI, 300, .inl fa0_23)), (ha0, .inr (12, [.ref ha0_0, .ref ha0_1, .ref ha0_2, .ref ha0_3, .ref ha0_4, .ref ha0_5, .ref ha0_6, .ref ha0_7, .ref ha0_8, .int ia0_9, .int ia0_10, .int ia0_11, .int ia0_12, .int ia0_13, .int ia0_14, .int ia0_15, .ref ha0_16, .ref ha0_17, .ref ha0_18, .ref ha0_19, .int ia0_20, .int ia0_21, .int ia0_22, .ref ha0_23, .int ia0_24, .int ia0_25, .int ia0_26, .int ia0_27, .int ia0_28, .ref ha0_29, .int ia0_30, .int ia0_31, .int ia0_32, .ref ha0_33, .ref ha0_34, .ref ha0_35, .int ia0_36, .int ia0_37]))] sz) := by
  refine Met.ofW (cc := cX12_passOne) (maxL := 3) (ret := (some .int)) (by decide) rfl ?_
  intro p e s m args below meth c s₁ B hml hv
  obtain ⟨rfl, hsz, hP, hZ, hD0⟩ := hv
  obtain ⟨hK, hAO, hN⟩ := id hZ
  have hx := B.exec
  have hb := B.bytes
  have hr := B.returns
  have hts := atoms_spec (ws := vsX12_passOne) B.pre
  have hown : s.vm.findClass RX12 = some m.cls := findClass_of_methodNamed B.named
  have hlocks := B.notSynchronized
  subst hsz
  have hD := hD0.self (sz := s.heap.size)
  generalize hAe : va_A [(ha0_23, .inl (cI, 300, .inl fa0_23)), (ha0, .inr (12, [.ref ha0_0, .ref ha0_1, .ref ha0_2, .ref ha0_3, .ref ha0_4, .ref ha0_5, .ref ha0_6, .ref ha0_7, .ref ha0_8, .int ia0_9, .int ia0_10, .int ia0_11, .int ia0_12, .int ia0_13, .int ia0_14, .int ia0_15, .ref ha0_16, .ref ha0_17, .ref ha0_18, .ref ha0_19, .int ia0_20, .int ia0_21, .int ia0_22, .ref ha0_23, .int ia0_24, .int ia0_25, .int ia0_26, .int ia0_27, .int ia0_28, .ref ha0_29, .int ia0_30, .int ia0_31, .int ia0_32, .ref ha0_33, .ref ha0_34, .ref ha0_35, .int ia0_36, .int ia0_37]))] s.heap.size = A at hD ⊢
  have hA : ∀ q : Nat, s.heap.size ≤ q → A q := fun q h => by rw [← hAe]; exact Or.inr h
  have hS : va_S A s.heap s.heap [] := va_S.rf
  have hP : va_P (dC, dI) vwCl [(ha0_23, .inl (cI, 300, .inl fa0_23)), (ha0, .inr (12, [.ref ha0_0, .ref ha0_1, .ref ha0_2, .ref ha0_3, .ref ha0_4, .ref ha0_5, .ref ha0_6, .ref ha0_7, .ref ha0_8, .int ia0_9, .int ia0_10, .int ia0_11, .int ia0_12, .int ia0_13, .int ia0_14, .int ia0_15, .ref ha0_16, .ref ha0_17, .ref ha0_18, .ref ha0_19, .int ia0_20, .int ia0_21, .int ia0_22, .ref ha0_23, .int ia0_24, .int ia0_25, .int ia0_26, .int ia0_27, .int ia0_28, .ref ha0_29, .int ia0_30, .int ia0_31, .int ia0_32, .ref ha0_33, .ref ha0_34, .ref ha0_35, .int ia0_36, .int ia0_37]))] s.heap := hP
  have hp1l := z_lo p1
  have hp1h := z_hi p1
  have hl := lv_entry ([.ref ha0, .int p1]) (n := 3) (Nat.le_of_ble_eq_true rfl)
  rw [lg_entry_eq]
  generalize (lg_sl ([.ref ha0, .int p1]) ++ List.replicate (3 - (lg_sl ([.ref ha0, .int p1])).length) Slot.unset).toArray = ls at hl ⊢
  have hl : lv_has ls 3 [(0, .ref ha0), (1, .int p1)] := hl
  refine lv_aload_n hx hb dX12_passOne_0 rfl (lv_at hl 0 rfl) ?_
  refine va_get (D := (dC, dI)) (ci := 12) (v := .int ia0_25) (C := RX12) (T := TX12) (N := 38) hx hb hts in_X12_passOne_X12 hown hK hP 1 rfl rfl 25 (by decide) (hts (.fieldLink RX12 137 "EachOnHisCueModel" "isKeeping" "Z") (by decide +kernel)) (fun _ h9 => h9) rfl dX12_passOne_1 ?_
  refine lv_if_eq (tgt := 11) hx hb dX12_passOne_4 (by decide) (fun hc => ?_) (fun hc => ?_)
  · have q1 : ia0_25.toInt = 0 := z_eq rfl (by decide) hc
    refine lv_aload_n hx hb dX12_passOne_11 rfl (lv_at hl 0 rfl) ?_
    refine va_get (D := (dC, dI)) (ci := 12) (v := .ref ha0_23) (C := RX12) (T := TX12) (N := 38) hx hb hts in_X12_passOne_X12 hown hK hP 1 rfl rfl 23 (by decide) (hts (.fieldLink RX12 56 "EachOnHisCueModel" "kept" "[I") (by decide +kernel)) (fun _ h9 => h9) rfl dX12_passOne_12 ?_
    refine lv_aload_n hx hb dX12_passOne_15 rfl (lv_at hl 0 rfl) ?_
    refine va_get (D := (dC, dI)) (ci := 12) (v := .int ia0_26) (C := RX12) (T := TX12) (N := 38) hx hb hts in_X12_passOne_X12 hown hK hP 1 rfl rfl 26 (by decide) (hts (.fieldLink RX12 141 "EachOnHisCueModel" "cursor" "I") (by decide +kernel)) (fun _ h9 => h9) rfl dX12_passOne_16 ?_
    refine va_iald hx hb hK hP 0 0 rfl rfl (z_in (by omega) (by omega)) dX12_passOne_19 ?_
    refine lv_topi (fun y2 ey2 => ?_)
    have gy2 : y2.toInt = (fa0_23 (ia0_26 : Int32).toNatClampNeg).toInt := by rw [ey2]
    have hy2 := z_ldK (i := ia0_26) hBfa0_23 (by first | decide | omega)
    rw [← ey2] at hy2
    refine lv_istore_n (lv' := [(2, .int y2), (0, .ref ha0), (1, .int p1)]) hx hb dX12_passOne_20 rfl hl (by decide) rfl (fun ls hl => ?_)
    refine lv_aload_n hx hb dX12_passOne_21 rfl (lv_at hl 1 rfl) ?_
    refine va_get (D := (dC, dI)) (ci := 12) (v := .int ia0_25) (C := RX12) (T := TX12) (N := 38) hx hb hts in_X12_passOne_X12 hown hK hP 1 rfl rfl 25 (by decide) (hts (.fieldLink RX12 137 "EachOnHisCueModel" "isKeeping" "Z") (by decide +kernel)) (fun _ h9 => h9) rfl dX12_passOne_22 ?_
    refine lv_if_eq (tgt := 38) hx hb dX12_passOne_25 (by decide) (fun hc => ?_) (fun hc => ?_)
    · have q3 : ia0_25.toInt = 0 := z_eq rfl (by decide) hc
      refine lv_aload_n hx hb dX12_passOne_38 rfl (lv_at hl 1 rfl) ?_
      refine lv_dup hx hb dX12_passOne_39 rfl ?_
      refine va_get (D := (dC, dI)) (ci := 12) (v := .int ia0_26) (C := RX12) (T := TX12) (N := 38) hx hb hts in_X12_passOne_X12 hown hK hP 1 rfl rfl 26 (by decide) (hts (.fieldLink RX12 141 "EachOnHisCueModel" "cursor" "I") (by decide +kernel)) (fun _ h9 => h9) rfl dX12_passOne_40 ?_
      refine lv_iconst (v := 1) hx hb dX12_passOne_43 (by decide) ?_
      refine lv_iadd hx hb dX12_passOne_44 ?_
      refine lv_topi (fun y4 ey4 => ?_)
      have hy4 : y4.toInt = ia0_26.toInt + 1 := by rw [ey4]; exact z_add rfl (by decide) (by omega) (by omega)
      refine va_put (D := (dC, dI)) (ci := 12) (v := .int y4) (ty := .int) (C := RX12) (T := TX12) (N := 38) hx hb hts in_X12_passOne_X12 tyX12 tyX12_ok nmX12 hown hK hP hD hS 1 rfl rfl 26 (by decide) (hts (.fieldLink RX12 141 "EachOnHisCueModel" "cursor" "I") (by decide +kernel)) (fun _ h9 => h9) rfl (by decide +kernel) rfl rfl (Nat.le_of_ble_eq_true rfl) dX12_passOne_45 (fun H locs hP hD hS => ?_)
      have hP : va_P (dC, dI) vwCl [(ha0_23, .inl (cI, 300, .inl fa0_23)), (ha0, .inr (12, [.ref ha0_0, .ref ha0_1, .ref ha0_2, .ref ha0_3, .ref ha0_4, .ref ha0_5, .ref ha0_6, .ref ha0_7, .ref ha0_8, .int ia0_9, .int ia0_10, .int ia0_11, .int ia0_12, .int ia0_13, .int ia0_14, .int ia0_15, .ref ha0_16, .ref ha0_17, .ref ha0_18, .ref ha0_19, .int ia0_20, .int ia0_21, .int ia0_22, .ref ha0_23, .int ia0_24, .int ia0_25, .int y4, .int ia0_27, .int ia0_28, .ref ha0_29, .int ia0_30, .int ia0_31, .int ia0_32, .ref ha0_33, .ref ha0_34, .ref ha0_35, .int ia0_36, .int ia0_37]))] H := hP
      have hD : va_D A [(ha0_23, .inl (cI, 300, .inl fa0_23)), (ha0, .inr (12, [.ref ha0_0, .ref ha0_1, .ref ha0_2, .ref ha0_3, .ref ha0_4, .ref ha0_5, .ref ha0_6, .ref ha0_7, .ref ha0_8, .int ia0_9, .int ia0_10, .int ia0_11, .int ia0_12, .int ia0_13, .int ia0_14, .int ia0_15, .ref ha0_16, .ref ha0_17, .ref ha0_18, .ref ha0_19, .int ia0_20, .int ia0_21, .int ia0_22, .ref ha0_23, .int ia0_24, .int ia0_25, .int y4, .int ia0_27, .int ia0_28, .ref ha0_29, .int ia0_30, .int ia0_31, .int ia0_32, .ref ha0_33, .ref ha0_34, .ref ha0_35, .int ia0_36, .int ia0_37]))] := hD
      refine lv_iload_n hx hb dX12_passOne_48 rfl (lv_at hl 0 rfl) ?_
      have hP9 := hP.sub (ws' := [(ha0_23, .inl (cI, 300, .inl fa0_23)), (ha0, .inr (12, [.ref ha0_0, .ref ha0_1, .ref ha0_2, .ref ha0_3, .ref ha0_4, .ref ha0_5, .ref ha0_6, .ref ha0_7, .ref ha0_8, .int ia0_9, .int ia0_10, .int ia0_11, .int ia0_12, .int ia0_13, .int ia0_14, .int ia0_15, .ref ha0_16, .ref ha0_17, .ref ha0_18, .ref ha0_19, .int ia0_20, .int ia0_21, .int ia0_22, .ref ha0_23, .int ia0_24, .int ia0_25, .int y4, .int ia0_27, .int ia0_28, .ref ha0_29, .int ia0_30, .int ia0_31, .int ia0_32, .ref ha0_33, .ref ha0_34, .ref ha0_35, .int ia0_36, .int ia0_37]))]) [0, 1] rfl
      have hD9 := hD.sub (ws' := [(ha0_23, .inl (cI, 300, .inl fa0_23)), (ha0, .inr (12, [.ref ha0_0, .ref ha0_1, .ref ha0_2, .ref ha0_3, .ref ha0_4, .ref ha0_5, .ref ha0_6, .ref ha0_7, .ref ha0_8, .int ia0_9, .int ia0_10, .int ia0_11, .int ia0_12, .int ia0_13, .int ia0_14, .int ia0_15, .ref ha0_16, .ref ha0_17, .ref ha0_18, .ref ha0_19, .int ia0_20, .int ia0_21, .int ia0_22, .ref ha0_23, .int ia0_24, .int ia0_25, .int y4, .int ia0_27, .int ia0_28, .ref ha0_29, .int ia0_30, .int ia0_31, .int ia0_32, .ref ha0_33, .ref ha0_34, .ref ha0_35, .int ia0_36, .int ia0_37]))]) [0, 1] (by decide) rfl
      have hpo : ((y4 : Int32).toInt = ia0_26.toInt + 1 ∧ ((15 ≤ ia0_26.toInt % 150 ∧ ia0_26.toInt % 150 < 39 → 0 ≤ (y2 : Int32).toInt ∧ (y2 : Int32).toInt ≤ 4) ∧ (39 ≤ ia0_26.toInt % 150 ∧ ia0_26.toInt % 150 < 51 → 0 ≤ (y2 : Int32).toInt ∧ (y2 : Int32).toInt ≤ 9) ∧ (ia0_26.toInt % 150 = 123 → 0 ≤ (y2 : Int32).toInt ∧ (y2 : Int32).toInt ≤ 5) ∧ (ia0_26.toInt % 150 = 124 → 0 ≤ (y2 : Int32).toInt ∧ (y2 : Int32).toInt ≤ 12) ∧ (ia0_26.toInt % 150 = 128 → -9 ≤ (y2 : Int32).toInt ∧ (y2 : Int32).toInt ≤ 11)) ∧ zP1 ia0_25 ia0_26 p1 fa0_23 fa0_23 y2) := by exact ⟨by omega, by first | omega | decide, z_p1N (by omega) (by assumption)⟩
      exact W.iret (v := y2) hx hb hr (fun t ht hW => ⟨⟨y2, (fun k => [y4].getD k 0, fun k => [fa0_23].getD k (fun _ => 0)), rfl, (show (zKp fa0_23) ∧ (1 ≤ (y4 : Int32).toInt ∧ (y4 : Int32).toInt ≤ 300) ∧ ((-2147483648) ≤ (y2 : Int32).toInt ∧ (y2 : Int32).toInt ≤ 2147483647) ∧ (((y4 : Int32).toInt = ia0_26.toInt + 1 ∧ ((15 ≤ ia0_26.toInt % 150 ∧ ia0_26.toInt % 150 < 39 → 0 ≤ (y2 : Int32).toInt ∧ (y2 : Int32).toInt ≤ 4) ∧ (39 ≤ ia0_26.toInt % 150 ∧ ia0_26.toInt % 150 < 51 → 0 ≤ (y2 : Int32).toInt ∧ (y2 : Int32).toInt ≤ 9) ∧ (ia0_26.toInt % 150 = 123 → 0 ≤ (y2 : Int32).toInt ∧ (y2 : Int32).toInt ≤ 5) ∧ (ia0_26.toInt % 150 = 124 → 0 ≤ (y2 : Int32).toInt ∧ (y2 : Int32).toInt ≤ 12) ∧ (ia0_26.toInt % 150 = 128 → -9 ≤ (y2 : Int32).toInt ∧ (y2 : Int32).toInt ≤ 11)) ∧ zP1 ia0_25 ia0_26 p1 fa0_23 fa0_23 y2)) from ⟨hBfa0_23, ⟨(by first | decide | omega), (by first | decide | omega)⟩, ⟨z_lo _, z_hi _⟩, hpo⟩), by rw [ht]; exact hP9, hD9⟩, hS.F ht⟩) hS.2.2 dX12_passOne_49
    · have q5 : ia0_25.toInt ≠ 0 := z_ne rfl (by decide) hc
      exfalso; omega
  · have q6 : ia0_25.toInt ≠ 0 := z_ne rfl (by decide) hc
    refine lv_iload_n hx hb dX12_passOne_7 rfl (lv_at hl 1 rfl) ?_
    refine lv_goto (tgt := 20) hx hb dX12_passOne_8 (by decide) ?_
    refine lv_istore_n (lv' := [(2, .int p1), (0, .ref ha0), (1, .int p1)]) hx hb dX12_passOne_20 rfl hl (by decide) rfl (fun ls hl => ?_)
    refine lv_aload_n hx hb dX12_passOne_21 rfl (lv_at hl 1 rfl) ?_
    refine va_get (D := (dC, dI)) (ci := 12) (v := .int ia0_25) (C := RX12) (T := TX12) (N := 38) hx hb hts in_X12_passOne_X12 hown hK hP 1 rfl rfl 25 (by decide) (hts (.fieldLink RX12 137 "EachOnHisCueModel" "isKeeping" "Z") (by decide +kernel)) (fun _ h9 => h9) rfl dX12_passOne_22 ?_
    refine lv_if_eq (tgt := 38) hx hb dX12_passOne_25 (by decide) (fun hc => ?_) (fun hc => ?_)
    · have q7 : ia0_25.toInt = 0 := z_eq rfl (by decide) hc
      exfalso; omega
    · have q8 : ia0_25.toInt ≠ 0 := z_ne rfl (by decide) hc
      refine lv_aload_n hx hb dX12_passOne_28 rfl (lv_at hl 1 rfl) ?_
      refine va_get (D := (dC, dI)) (ci := 12) (v := .ref ha0_23) (C := RX12) (T := TX12) (N := 38) hx hb hts in_X12_passOne_X12 hown hK hP 1 rfl rfl 23 (by decide) (hts (.fieldLink RX12 56 "EachOnHisCueModel" "kept" "[I") (by decide +kernel)) (fun _ h9 => h9) rfl dX12_passOne_29 ?_
      refine lv_aload_n hx hb dX12_passOne_32 rfl (lv_at hl 1 rfl) ?_
      refine va_get (D := (dC, dI)) (ci := 12) (v := .int ia0_26) (C := RX12) (T := TX12) (N := 38) hx hb hts in_X12_passOne_X12 hown hK hP 1 rfl rfl 26 (by decide) (hts (.fieldLink RX12 141 "EachOnHisCueModel" "cursor" "I") (by decide +kernel)) (fun _ h9 => h9) rfl dX12_passOne_33 ?_
      refine lv_iload_n hx hb dX12_passOne_36 rfl (lv_at hl 2 rfl) ?_
      refine va_iast hx hb hK hP hD hS 0 0 rfl rfl (z_in (by omega) (by omega)) dX12_passOne_37 (fun H locs hP hD hS => ?_)
      generalize ef9 : upd fa0_23 (ia0_26 : Int32).toNatClampNeg p1 = f9 at hP hD
      have hBf9 : zKp f9 := by rw [← ef9]; exact z_updK hBfa0_23 (by first | decide | omega) (by omega)
      have hP : va_P (dC, dI) vwCl [(ha0_23, .inl (cI, 300, .inl f9)), (ha0, .inr (12, [.ref ha0_0, .ref ha0_1, .ref ha0_2, .ref ha0_3, .ref ha0_4, .ref ha0_5, .ref ha0_6, .ref ha0_7, .ref ha0_8, .int ia0_9, .int ia0_10, .int ia0_11, .int ia0_12, .int ia0_13, .int ia0_14, .int ia0_15, .ref ha0_16, .ref ha0_17, .ref ha0_18, .ref ha0_19, .int ia0_20, .int ia0_21, .int ia0_22, .ref ha0_23, .int ia0_24, .int ia0_25, .int ia0_26, .int ia0_27, .int ia0_28, .ref ha0_29, .int ia0_30, .int ia0_31, .int ia0_32, .ref ha0_33, .ref ha0_34, .ref ha0_35, .int ia0_36, .int ia0_37]))] H := hP
      have hD : va_D A [(ha0_23, .inl (cI, 300, .inl f9)), (ha0, .inr (12, [.ref ha0_0, .ref ha0_1, .ref ha0_2, .ref ha0_3, .ref ha0_4, .ref ha0_5, .ref ha0_6, .ref ha0_7, .ref ha0_8, .int ia0_9, .int ia0_10, .int ia0_11, .int ia0_12, .int ia0_13, .int ia0_14, .int ia0_15, .ref ha0_16, .ref ha0_17, .ref ha0_18, .ref ha0_19, .int ia0_20, .int ia0_21, .int ia0_22, .ref ha0_23, .int ia0_24, .int ia0_25, .int ia0_26, .int ia0_27, .int ia0_28, .ref ha0_29, .int ia0_30, .int ia0_31, .int ia0_32, .ref ha0_33, .ref ha0_34, .ref ha0_35, .int ia0_36, .int ia0_37]))] := hD
      refine lv_aload_n hx hb dX12_passOne_38 rfl (lv_at hl 1 rfl) ?_
      refine lv_dup hx hb dX12_passOne_39 rfl ?_
      refine va_get (D := (dC, dI)) (ci := 12) (v := .int ia0_26) (C := RX12) (T := TX12) (N := 38) hx hb hts in_X12_passOne_X12 hown hK hP 1 rfl rfl 26 (by decide) (hts (.fieldLink RX12 141 "EachOnHisCueModel" "cursor" "I") (by decide +kernel)) (fun _ h9 => h9) rfl dX12_passOne_40 ?_
      refine lv_iconst (v := 1) hx hb dX12_passOne_43 (by decide) ?_
      refine lv_iadd hx hb dX12_passOne_44 ?_
      refine lv_topi (fun y10 ey10 => ?_)
      have hy10 : y10.toInt = ia0_26.toInt + 1 := by rw [ey10]; exact z_add rfl (by decide) (by omega) (by omega)
      refine va_put (D := (dC, dI)) (ci := 12) (v := .int y10) (ty := .int) (C := RX12) (T := TX12) (N := 38) hx hb hts in_X12_passOne_X12 tyX12 tyX12_ok nmX12 hown hK hP hD hS 1 rfl rfl 26 (by decide) (hts (.fieldLink RX12 141 "EachOnHisCueModel" "cursor" "I") (by decide +kernel)) (fun _ h9 => h9) rfl (by decide +kernel) rfl rfl (Nat.le_of_ble_eq_true rfl) dX12_passOne_45 (fun H locs hP hD hS => ?_)
      have hP : va_P (dC, dI) vwCl [(ha0_23, .inl (cI, 300, .inl f9)), (ha0, .inr (12, [.ref ha0_0, .ref ha0_1, .ref ha0_2, .ref ha0_3, .ref ha0_4, .ref ha0_5, .ref ha0_6, .ref ha0_7, .ref ha0_8, .int ia0_9, .int ia0_10, .int ia0_11, .int ia0_12, .int ia0_13, .int ia0_14, .int ia0_15, .ref ha0_16, .ref ha0_17, .ref ha0_18, .ref ha0_19, .int ia0_20, .int ia0_21, .int ia0_22, .ref ha0_23, .int ia0_24, .int ia0_25, .int y10, .int ia0_27, .int ia0_28, .ref ha0_29, .int ia0_30, .int ia0_31, .int ia0_32, .ref ha0_33, .ref ha0_34, .ref ha0_35, .int ia0_36, .int ia0_37]))] H := hP
      have hD : va_D A [(ha0_23, .inl (cI, 300, .inl f9)), (ha0, .inr (12, [.ref ha0_0, .ref ha0_1, .ref ha0_2, .ref ha0_3, .ref ha0_4, .ref ha0_5, .ref ha0_6, .ref ha0_7, .ref ha0_8, .int ia0_9, .int ia0_10, .int ia0_11, .int ia0_12, .int ia0_13, .int ia0_14, .int ia0_15, .ref ha0_16, .ref ha0_17, .ref ha0_18, .ref ha0_19, .int ia0_20, .int ia0_21, .int ia0_22, .ref ha0_23, .int ia0_24, .int ia0_25, .int y10, .int ia0_27, .int ia0_28, .ref ha0_29, .int ia0_30, .int ia0_31, .int ia0_32, .ref ha0_33, .ref ha0_34, .ref ha0_35, .int ia0_36, .int ia0_37]))] := hD
      refine lv_iload_n hx hb dX12_passOne_48 rfl (lv_at hl 0 rfl) ?_
      have hP9 := hP.sub (ws' := [(ha0_23, .inl (cI, 300, .inl f9)), (ha0, .inr (12, [.ref ha0_0, .ref ha0_1, .ref ha0_2, .ref ha0_3, .ref ha0_4, .ref ha0_5, .ref ha0_6, .ref ha0_7, .ref ha0_8, .int ia0_9, .int ia0_10, .int ia0_11, .int ia0_12, .int ia0_13, .int ia0_14, .int ia0_15, .ref ha0_16, .ref ha0_17, .ref ha0_18, .ref ha0_19, .int ia0_20, .int ia0_21, .int ia0_22, .ref ha0_23, .int ia0_24, .int ia0_25, .int y10, .int ia0_27, .int ia0_28, .ref ha0_29, .int ia0_30, .int ia0_31, .int ia0_32, .ref ha0_33, .ref ha0_34, .ref ha0_35, .int ia0_36, .int ia0_37]))]) [0, 1] rfl
      have hD9 := hD.sub (ws' := [(ha0_23, .inl (cI, 300, .inl f9)), (ha0, .inr (12, [.ref ha0_0, .ref ha0_1, .ref ha0_2, .ref ha0_3, .ref ha0_4, .ref ha0_5, .ref ha0_6, .ref ha0_7, .ref ha0_8, .int ia0_9, .int ia0_10, .int ia0_11, .int ia0_12, .int ia0_13, .int ia0_14, .int ia0_15, .ref ha0_16, .ref ha0_17, .ref ha0_18, .ref ha0_19, .int ia0_20, .int ia0_21, .int ia0_22, .ref ha0_23, .int ia0_24, .int ia0_25, .int y10, .int ia0_27, .int ia0_28, .ref ha0_29, .int ia0_30, .int ia0_31, .int ia0_32, .ref ha0_33, .ref ha0_34, .ref ha0_35, .int ia0_36, .int ia0_37]))]) [0, 1] (by decide) rfl
      have hpo : ((y10 : Int32).toInt = ia0_26.toInt + 1 ∧ ((15 ≤ ia0_26.toInt % 150 ∧ ia0_26.toInt % 150 < 39 → 0 ≤ (p1 : Int32).toInt ∧ (p1 : Int32).toInt ≤ 4) ∧ (39 ≤ ia0_26.toInt % 150 ∧ ia0_26.toInt % 150 < 51 → 0 ≤ (p1 : Int32).toInt ∧ (p1 : Int32).toInt ≤ 9) ∧ (ia0_26.toInt % 150 = 123 → 0 ≤ (p1 : Int32).toInt ∧ (p1 : Int32).toInt ≤ 5) ∧ (ia0_26.toInt % 150 = 124 → 0 ≤ (p1 : Int32).toInt ∧ (p1 : Int32).toInt ≤ 12) ∧ (ia0_26.toInt % 150 = 128 → -9 ≤ (p1 : Int32).toInt ∧ (p1 : Int32).toInt ≤ 11)) ∧ zP1 ia0_25 ia0_26 p1 fa0_23 f9 p1) := by exact ⟨by omega, by first | omega | decide, z_p1K (by omega) (by assumption) (by omega)⟩
      exact W.iret (v := p1) hx hb hr (fun t ht hW => ⟨⟨p1, (fun k => [y10].getD k 0, fun k => [f9].getD k (fun _ => 0)), rfl, (show (zKp f9) ∧ (1 ≤ (y10 : Int32).toInt ∧ (y10 : Int32).toInt ≤ 300) ∧ ((-2147483648) ≤ (p1 : Int32).toInt ∧ (p1 : Int32).toInt ≤ 2147483647) ∧ (((y10 : Int32).toInt = ia0_26.toInt + 1 ∧ ((15 ≤ ia0_26.toInt % 150 ∧ ia0_26.toInt % 150 < 39 → 0 ≤ (p1 : Int32).toInt ∧ (p1 : Int32).toInt ≤ 4) ∧ (39 ≤ ia0_26.toInt % 150 ∧ ia0_26.toInt % 150 < 51 → 0 ≤ (p1 : Int32).toInt ∧ (p1 : Int32).toInt ≤ 9) ∧ (ia0_26.toInt % 150 = 123 → 0 ≤ (p1 : Int32).toInt ∧ (p1 : Int32).toInt ≤ 5) ∧ (ia0_26.toInt % 150 = 124 → 0 ≤ (p1 : Int32).toInt ∧ (p1 : Int32).toInt ≤ 12) ∧ (ia0_26.toInt % 150 = 128 → -9 ≤ (p1 : Int32).toInt ∧ (p1 : Int32).toInt ≤ 11)) ∧ zP1 ia0_25 ia0_26 p1 fa0_23 f9 p1)) from ⟨hBf9, ⟨(by first | decide | omega), (by first | decide | omega)⟩, ⟨z_lo _, z_hi _⟩, hpo⟩), by rw [ht]; exact hP9, hD9⟩, hS.F ht⟩) hS.2.2 dX12_passOne_49
