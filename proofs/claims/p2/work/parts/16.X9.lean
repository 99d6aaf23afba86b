theorem dX9_forget_0 : decode cX9_forget 0 = .ok (.aload_n 0, 1) := by decide +kernel
theorem dX9_forget_1 : decode cX9_forget 1 = .ok (.iconst 0, 1) := by decide +kernel
theorem dX9_forget_2 : decode cX9_forget 2 = .ok (.putfield 9, 3) := by decide +kernel
theorem dX9_forget_5 : decode cX9_forget 5 = .ok (.aload_n 0, 1) := by decide +kernel
theorem dX9_forget_6 : decode cX9_forget 6 = .ok (.iconst 0, 1) := by decide +kernel
theorem dX9_forget_7 : decode cX9_forget 7 = .ok (.putfield 15, 3) := by decide +kernel
theorem dX9_forget_10 : decode cX9_forget 10 = .ok (.aload_n 0, 1) := by decide +kernel
theorem dX9_forget_11 : decode cX9_forget 11 = .ok (.bipush (-9), 2) := by decide +kernel
theorem dX9_forget_13 : decode cX9_forget 13 = .ok (.putfield 18, 3) := by decide +kernel
theorem dX9_forget_16 : decode cX9_forget 16 = .ok (.aload_n 0, 1) := by decide +kernel
theorem dX9_forget_17 : decode cX9_forget 17 = .ok (.iconst 0, 1) := by decide +kernel
theorem dX9_forget_18 : decode cX9_forget 18 = .ok (.putfield 21, 3) := by decide +kernel
theorem dX9_forget_21 : decode cX9_forget 21 = .ok (.aload_n 0, 1) := by decide +kernel
theorem dX9_forget_22 : decode cX9_forget 22 = .ok (.iconst 0, 1) := by decide +kernel
theorem dX9_forget_23 : decode cX9_forget 23 = .ok (.putfield 24, 3) := by decide +kernel
theorem dX9_forget_26 : decode cX9_forget 26 = .ok (.return_, 1) := by decide +kernel
noncomputable def vsX9_forget : List Cond := .code yX9_forget cX9_forget 1 none :: (([.fieldLink RX9 9 "EachOnHisCue$Saying" "said" "I", .fieldLink RX9 15 "EachOnHisCue$Saying" "dead" "I", .fieldLink RX9 18 "EachOnHisCue$Saying" "latest" "I", .fieldLink RX9 21 "EachOnHisCue$Saying" "times" "I", .fieldLink RX9 24 "EachOnHisCue$Saying" "leaps" "I"] : List Cond) ++ wsX90)
theorem in_X9_forget_X9 : ∀ w ∈ wsX90, w ∈ vsX9_forget := fun _ h => List.mem_cons_of_mem _ (List.mem_append_right _ h)
set_option maxHeartbeats 4000000 in
set_option maxRecDepth 100000 in
theorem wX9_forget (l : Launch) (dC : Nat → ClassId) (dI : Nat → Nat → Nat) (cI cQ : ClassId) (ha0 : Nat) (ia0_0 : Int32) (ia0_1 : Int32) (ia0_2 : Int32) (ia0_3 : Int32) (ia0_4 : Int32) (sz : Nat) : Met l yX9_forget vsX9_forget ({ frames := 0, cells := 0, slots := 0, locals := 0 }) (va_Pc [.ref ha0] (zB dC dI cI cQ [(ha0, .inr (9, [.int ia0_0, .int ia0_1, .int ia0_2, .int ia0_3, .int ia0_4]))] sz)) (zWv dC dI (va_A [(ha0, .inr (9, [.int ia0_0, .int ia0_1, .int ia0_2, .int ia0_3, .int ia0_4]))] sz) (fun u => [(ha0, .inr (9, [.int 0, .int 0, .int (-9), .int 0, .int 0]))]) (fun u => True)) 0 0 (va_A [(ha0, .inr (9, [.int ia0_0, .int ia0_1, .int ia0_2, .int ia0_3, .int ia0_4]))] sz) := by
  refine Met.ofW (cc := cX9_forget) (maxL := 1) (ret := none) (by decide) rfl ?_
  intro p e s m args below meth c s₁ B hml hv
  obtain ⟨rfl, hsz, hP, hZ, hD0⟩ := hv
  obtain ⟨hK, hAO, hN⟩ := id hZ
  have hx := B.exec
  have hb := B.bytes
  have hr := B.returns
  have hts := atoms_spec (ws := vsX9_forget) B.pre
  have hown : s.vm.findClass RX9 = some m.cls := findClass_of_methodNamed B.named
  have hlocks := B.notSynchronized
  subst hsz
  have hD := hD0.self (sz := s.heap.size)
  generalize hAe : va_A [(ha0, .inr (9, [.int ia0_0, .int ia0_1, .int ia0_2, .int ia0_3, .int ia0_4]))] s.heap.size = A at hD ⊢
  have hA : ∀ q : Nat, s.heap.size ≤ q → A q := fun q h => by rw [← hAe]; exact Or.inr h
  have hS : va_S A s.heap s.heap [] := va_S.rf
  have hP : va_P (dC, dI) vwCl [(ha0, .inr (9, [.int ia0_0, .int ia0_1, .int ia0_2, .int ia0_3, .int ia0_4]))] s.heap := hP
  have hl := lv_entry ([.ref ha0]) (n := 1) (Nat.le_of_ble_eq_true rfl)
  rw [lg_entry_eq]
  generalize (lg_sl ([.ref ha0]) ++ List.replicate (1 - (lg_sl ([.ref ha0])).length) Slot.unset).toArray = ls at hl ⊢
  have hl : lv_has ls 1 [(0, .ref ha0)] := hl
  refine lv_aload_n hx hb dX9_forget_0 rfl (lv_at hl 0 rfl) ?_
  refine lv_iconst (v := 0) hx hb dX9_forget_1 (by decide) ?_
  refine va_put (D := (dC, dI)) (ci := 9) (v := .int 0) (ty := .int) (C := RX9) (T := TX9) (N := 5) hx hb hts in_X9_forget_X9 tyX9 tyX9_ok nmX9 hown hK hP hD hS 0 rfl rfl 0 (by decide) (hts (.fieldLink RX9 9 "EachOnHisCue$Saying" "said" "I") (by decide +kernel)) (fun _ h9 => h9) rfl (by decide +kernel) rfl rfl (Nat.le_of_ble_eq_true rfl) dX9_forget_2 (fun H locs hP hD hS => ?_)
  have hP : va_P (dC, dI) vwCl [(ha0, .inr (9, [.int 0, .int ia0_1, .int ia0_2, .int ia0_3, .int ia0_4]))] H := hP
  have hD : va_D A [(ha0, .inr (9, [.int 0, .int ia0_1, .int ia0_2, .int ia0_3, .int ia0_4]))] := hD
  refine lv_aload_n hx hb dX9_forget_5 rfl (lv_at hl 0 rfl) ?_
  refine lv_iconst (v := 0) hx hb dX9_forget_6 (by decide) ?_
  refine va_put (D := (dC, dI)) (ci := 9) (v := .int 0) (ty := .int) (C := RX9) (T := TX9) (N := 5) hx hb hts in_X9_forget_X9 tyX9 tyX9_ok nmX9 hown hK hP hD hS 0 rfl rfl 1 (by decide) (hts (.fieldLink RX9 15 "EachOnHisCue$Saying" "dead" "I") (by decide +kernel)) (fun _ h9 => h9) rfl (by decide +kernel) rfl rfl (Nat.le_of_ble_eq_true rfl) dX9_forget_7 (fun H locs hP hD hS => ?_)
  have hP : va_P (dC, dI) vwCl [(ha0, .inr (9, [.int 0, .int 0, .int ia0_2, .int ia0_3, .int ia0_4]))] H := hP
  have hD : va_D A [(ha0, .inr (9, [.int 0, .int 0, .int ia0_2, .int ia0_3, .int ia0_4]))] := hD
  refine lv_aload_n hx hb dX9_forget_10 rfl (lv_at hl 0 rfl) ?_
  refine lv_bipush (v := (-9)) hx hb dX9_forget_11 (by decide) ?_
  refine va_put (D := (dC, dI)) (ci := 9) (v := .int (-9)) (ty := .int) (C := RX9) (T := TX9) (N := 5) hx hb hts in_X9_forget_X9 tyX9 tyX9_ok nmX9 hown hK hP hD hS 0 rfl rfl 2 (by decide) (hts (.fieldLink RX9 18 "EachOnHisCue$Saying" "latest" "I") (by decide +kernel)) (fun _ h9 => h9) rfl (by decide +kernel) rfl rfl (Nat.le_of_ble_eq_true rfl) dX9_forget_13 (fun H locs hP hD hS => ?_)
  have hP : va_P (dC, dI) vwCl [(ha0, .inr (9, [.int 0, .int 0, .int (-9), .int ia0_3, .int ia0_4]))] H := hP
  have hD : va_D A [(ha0, .inr (9, [.int 0, .int 0, .int (-9), .int ia0_3, .int ia0_4]))] := hD
  refine lv_aload_n hx hb dX9_forget_16 rfl (lv_at hl 0 rfl) ?_
  refine lv_iconst (v := 0) hx hb dX9_forget_17 (by decide) ?_
  refine va_put (D := (dC, dI)) (ci := 9) (v := .int 0) (ty := .int) (C := RX9) (T := TX9) (N := 5) hx hb hts in_X9_forget_X9 tyX9 tyX9_ok nmX9 hown hK hP hD hS 0 rfl rfl 3 (by decide) (hts (.fieldLink RX9 21 "EachOnHisCue$Saying" "times" "I") (by decide +kernel)) (fun _ h9 => h9) rfl (by decide +kernel) rfl rfl (Nat.le_of_ble_eq_true rfl) dX9_forget_18 (fun H locs hP hD hS => ?_)
  have hP : va_P (dC, dI) vwCl [(ha0, .inr (9, [.int 0, .int 0, .int (-9), .int 0, .int ia0_4]))] H := hP
  have hD : va_D A [(ha0, .inr (9, [.int 0, .int 0, .int (-9), .int 0, .int ia0_4]))] := hD
  refine lv_aload_n hx hb dX9_forget_21 rfl (lv_at hl 0 rfl) ?_
  refine lv_iconst (v := 0) hx hb dX9_forget_22 (by decide) ?_
  refine va_put (D := (dC, dI)) (ci := 9) (v := .int 0) (ty := .int) (C := RX9) (T := TX9) (N := 5) hx hb hts in_X9_forget_X9 tyX9 tyX9_ok nmX9 hown hK hP hD hS 0 rfl rfl 4 (by decide) (hts (.fieldLink RX9 24 "EachOnHisCue$Saying" "leaps" "I") (by decide +kernel)) (fun _ h9 => h9) rfl (by decide +kernel) rfl rfl (Nat.le_of_ble_eq_true rfl) dX9_forget_23 (fun H locs hP hD hS => ?_)
  have hP : va_P (dC, dI) vwCl [(ha0, .inr (9, [.int 0, .int 0, .int (-9), .int 0, .int 0]))] H := hP
  have hD : va_D A [(ha0, .inr (9, [.int 0, .int 0, .int (-9), .int 0, .int 0]))] := hD
  have hP9 := hP.sub (ws' := [(ha0, .inr (9, [.int 0, .int 0, .int (-9), .int 0, .int 0]))]) [0] rfl
  have hD9 := hD.sub (ws' := [(ha0, .inr (9, [.int 0, .int 0, .int (-9), .int 0, .int 0]))]) [0] (by decide) rfl
  exact W.vret hx hb hr (fun t ht hW => ⟨⟨(fun k => [].getD k 0, fun k => [].getD k (fun _ => 0)), rfl, (show True from trivial), by rw [ht]; exact hP9, hD9⟩, hS.F ht⟩) hS.2.2 dX9_forget_26
theorem dX9_add_0 : decode cX9_add 0 = .ok (.aload_n 0, 1) := by decide +kernel
theorem dX9_add_1 : decode cX9_add 1 = .ok (.getfield 21, 3) := by decide +kernel
theorem dX9_add_4 : decode cX9_add 4 = .ok (.ifCond .le 23, 3) := by decide +kernel
theorem dX9_add_7 : decode cX9_add 7 = .ok (.iload_n 1, 1) := by decide +kernel
theorem dX9_add_8 : decode cX9_add 8 = .ok (.aload_n 0, 1) := by decide +kernel
theorem dX9_add_9 : decode cX9_add 9 = .ok (.getfield 18, 3) := by decide +kernel
theorem dX9_add_12 : decode cX9_add 12 = .ok (.iconst 1, 1) := by decide +kernel
theorem dX9_add_13 : decode cX9_add 13 = .ok (.iadd, 1) := by decide +kernel
theorem dX9_add_14 : decode cX9_add 14 = .ok (.if_icmp .eq 13, 3) := by decide +kernel
theorem dX9_add_17 : decode cX9_add 17 = .ok (.aload_n 0, 1) := by decide +kernel
theorem dX9_add_18 : decode cX9_add 18 = .ok (.dup, 1) := by decide +kernel
theorem dX9_add_19 : decode cX9_add 19 = .ok (.getfield 24, 3) := by decide +kernel
theorem dX9_add_22 : decode cX9_add 22 = .ok (.iconst 1, 1) := by decide +kernel
theorem dX9_add_23 : decode cX9_add 23 = .ok (.iadd, 1) := by decide +kernel
theorem dX9_add_24 : decode cX9_add 24 = .ok (.putfield 24, 3) := by decide +kernel
theorem dX9_add_27 : decode cX9_add 27 = .ok (.aload_n 0, 1) := by decide +kernel
theorem dX9_add_28 : decode cX9_add 28 = .ok (.dup, 1) := by decide +kernel
theorem dX9_add_29 : decode cX9_add 29 = .ok (.getfield 9, 3) := by decide +kernel
theorem dX9_add_32 : decode cX9_add 32 = .ok (.iconst 1, 1) := by decide +kernel
theorem dX9_add_33 : decode cX9_add 33 = .ok (.iload_n 1, 1) := by decide +kernel
theorem dX9_add_34 : decode cX9_add 34 = .ok (.ishl, 1) := by decide +kernel
theorem dX9_add_35 : decode cX9_add 35 = .ok (.ior, 1) := by decide +kernel
theorem dX9_add_36 : decode cX9_add 36 = .ok (.putfield 9, 3) := by decide +kernel
theorem dX9_add_39 : decode cX9_add 39 = .ok (.aload_n 0, 1) := by decide +kernel
theorem dX9_add_40 : decode cX9_add 40 = .ok (.dup, 1) := by decide +kernel
theorem dX9_add_41 : decode cX9_add 41 = .ok (.getfield 15, 3) := by decide +kernel
theorem dX9_add_44 : decode cX9_add 44 = .ok (.iload_n 2, 1) := by decide +kernel
theorem dX9_add_45 : decode cX9_add 45 = .ok (.ior, 1) := by decide +kernel
theorem dX9_add_46 : decode cX9_add 46 = .ok (.putfield 15, 3) := by decide +kernel
theorem dX9_add_49 : decode cX9_add 49 = .ok (.aload_n 0, 1) := by decide +kernel
theorem dX9_add_50 : decode cX9_add 50 = .ok (.iload_n 1, 1) := by decide +kernel
theorem dX9_add_51 : decode cX9_add 51 = .ok (.putfield 18, 3) := by decide +kernel
theorem dX9_add_54 : decode cX9_add 54 = .ok (.aload_n 0, 1) := by decide +kernel
theorem dX9_add_55 : decode cX9_add 55 = .ok (.dup, 1) := by decide +kernel
theorem dX9_add_56 : decode cX9_add 56 = .ok (.getfield 21, 3) := by decide +kernel
theorem dX9_add_59 : decode cX9_add 59 = .ok (.iconst 1, 1) := by decide +kernel
theorem dX9_add_60 : decode cX9_add 60 = .ok (.iadd, 1) := by decide +kernel
theorem dX9_add_61 : decode cX9_add 61 = .ok (.putfield 21, 3) := by decide +kernel
theorem dX9_add_64 : decode cX9_add 64 = .ok (.return_, 1) := by decide +kernel
noncomputable def vsX9_add : List Cond := .code yX9_add cX9_add 3 none :: (([.fieldLink RX9 21 "EachOnHisCue$Saying" "times" "I", .fieldLink RX9 9 "EachOnHisCue$Saying" "said" "I", .fieldLink RX9 15 "EachOnHisCue$Saying" "dead" "I", .fieldLink RX9 18 "EachOnHisCue$Saying" "latest" "I", .fieldLink RX9 24 "EachOnHisCue$Saying" "leaps" "I"] : List Cond) ++ wsX90)
theorem in_X9_add_X9 : ∀ w ∈ wsX90, w ∈ vsX9_add := fun _ h => List.mem_cons_of_mem _ (List.mem_append_right _ h)
set_option maxHeartbeats 4000000 in
set_option maxRecDepth 100000 in
theorem wX9_add (l : Launch) (dC : Nat → ClassId) (dI : Nat → Nat → Nat) (cI cQ : ClassId) (ha0 : Nat) (ia0_0 : Int32) (ia0_1 : Int32) (ia0_2 : Int32) (ia0_3 : Int32) (ia0_4 : Int32) (p1 : Int32) (p2 : Int32) (sz : Nat) : Met l yX9_add vsX9_add ({ frames := 0, cells := 0, slots := 0, locals := 0 }) (va_Pc [.ref ha0, .int p1, .int p2] (zB dC dI cI cQ [(ha0, .inr (9, [.int ia0_0, .int ia0_1, .int ia0_2, .int ia0_3, .int ia0_4]))] sz)) (zWv dC dI (va_A [(ha0, .inr (9, [.int ia0_0, .int ia0_1, .int ia0_2, .int ia0_3, .int ia0_4]))] sz) (fun u => [(ha0, .inr (9, [.int (u.1 0), .int (u.1 1), .int (u.1 2), .int (u.1 3), .int (u.1 4)]))]) (fun u => ((-2147483648) ≤ (u.1 0).toInt ∧ (u.1 0).toInt ≤ 2147483647) ∧ ((-2147483648) ≤ (u.1 1).toInt ∧ (u.1 1).toInt ≤ 2147483647) ∧ ((-2147483648) ≤ (u.1 2).toInt ∧ (u.1 2).toInt ≤ 2147483647) ∧ ((-2147483648) ≤ (u.1 3).toInt ∧ (u.1 3).toInt ≤ 2147483647) ∧ ((-2147483648) ≤ (u.1 4).toInt ∧ (u.1 4).toInt ≤ 2147483647) ∧ True)) 0 0 (va_A [(ha0, .inr (9, [.int ia0_0, .int ia0_1, .int ia0_2, .int ia0_3, .int ia0_4]))] sz) := by
  refine Met.ofW (cc := cX9_add) (maxL := 3) (ret := none) (by decide) rfl ?_
  intro p e s m args below meth c s₁ B hml hv
  obtain ⟨rfl, hsz, hP, hZ, hD0⟩ := hv
  obtain ⟨hK, hAO, hN⟩ := id hZ
  have hx := B.exec
  have hb := B.bytes
  have hr := B.returns
  have hts := atoms_spec (ws := vsX9_add) B.pre
  have hown : s.vm.findClass RX9 = some m.cls := findClass_of_methodNamed B.named
  have hlocks := B.notSynchronized
  subst hsz
  have hD := hD0.self (sz := s.heap.size)
  generalize hAe : va_A [(ha0, .inr (9, [.int ia0_0, .int ia0_1, .int ia0_2, .int ia0_3, .int ia0_4]))] s.heap.size = A at hD ⊢
  have hA : ∀ q : Nat, s.heap.size ≤ q → A q := fun q h => by rw [← hAe]; exact Or.inr h
  have hS : va_S A s.heap s.heap [] := va_S.rf
  have hP : va_P (dC, dI) vwCl [(ha0, .inr (9, [.int ia0_0, .int ia0_1, .int ia0_2, .int ia0_3, .int ia0_4]))] s.heap := hP
  have hp1l := z_lo p1
  have hp1h := z_hi p1
  have hp2l := z_lo p2
  have hp2h := z_hi p2
  have hl := lv_entry ([.ref ha0, .int p1, .int p2]) (n := 3) (Nat.le_of_ble_eq_true rfl)
  rw [lg_entry_eq]
  generalize (lg_sl ([.ref ha0, .int p1, .int p2]) ++ List.replicate (3 - (lg_sl ([.ref ha0, .int p1, .int p2])).length) Slot.unset).toArray = ls at hl ⊢
  have hl : lv_has ls 3 [(0, .ref ha0), (1, .int p1), (2, .int p2)] := hl
  refine lv_aload_n hx hb dX9_add_0 rfl (lv_at hl 0 rfl) ?_
  refine va_get (D := (dC, dI)) (ci := 9) (v := .int ia0_3) (C := RX9) (T := TX9) (N := 5) hx hb hts in_X9_add_X9 hown hK hP 0 rfl rfl 3 (by decide) (hts (.fieldLink RX9 21 "EachOnHisCue$Saying" "times" "I") (by decide +kernel)) (fun _ h9 => h9) rfl dX9_add_1 ?_
  refine lv_if_le (tgt := 27) hx hb dX9_add_4 (by decide) (fun hc => ?_) (fun hc => ?_)
  · have q1 : ia0_3.toInt ≤ 0 := z_le rfl (by decide) hc
    refine lv_aload_n hx hb dX9_add_27 rfl (lv_at hl 0 rfl) ?_
    refine lv_dup hx hb dX9_add_28 rfl ?_
    refine va_get (D := (dC, dI)) (ci := 9) (v := .int ia0_0) (C := RX9) (T := TX9) (N := 5) hx hb hts in_X9_add_X9 hown hK hP 0 rfl rfl 0 (by decide) (hts (.fieldLink RX9 9 "EachOnHisCue$Saying" "said" "I") (by decide +kernel)) (fun _ h9 => h9) rfl dX9_add_29 ?_
    refine lv_iconst (v := 1) hx hb dX9_add_32 (by decide) ?_
    refine lv_iload_n hx hb dX9_add_33 rfl (lv_at hl 1 rfl) ?_
    refine lv_ishl hx hb dX9_add_34 ?_
    refine lv_topi (fun y2 ey2 => ?_)
    refine lv_ior hx hb dX9_add_35 ?_
    refine lv_topi (fun y3 ey3 => ?_)
    refine va_put (D := (dC, dI)) (ci := 9) (v := .int y3) (ty := .int) (C := RX9) (T := TX9) (N := 5) hx hb hts in_X9_add_X9 tyX9 tyX9_ok nmX9 hown hK hP hD hS 0 rfl rfl 0 (by decide) (hts (.fieldLink RX9 9 "EachOnHisCue$Saying" "said" "I") (by decide +kernel)) (fun _ h9 => h9) rfl (by decide +kernel) rfl rfl (Nat.le_of_ble_eq_true rfl) dX9_add_36 (fun H locs hP hD hS => ?_)
    have hP : va_P (dC, dI) vwCl [(ha0, .inr (9, [.int y3, .int ia0_1, .int ia0_2, .int ia0_3, .int ia0_4]))] H := hP
    have hD : va_D A [(ha0, .inr (9, [.int y3, .int ia0_1, .int ia0_2, .int ia0_3, .int ia0_4]))] := hD
    refine lv_aload_n hx hb dX9_add_39 rfl (lv_at hl 0 rfl) ?_
    refine lv_dup hx hb dX9_add_40 rfl ?_
    refine va_get (D := (dC, dI)) (ci := 9) (v := .int ia0_1) (C := RX9) (T := TX9) (N := 5) hx hb hts in_X9_add_X9 hown hK hP 0 rfl rfl 1 (by decide) (hts (.fieldLink RX9 15 "EachOnHisCue$Saying" "dead" "I") (by decide +kernel)) (fun _ h9 => h9) rfl dX9_add_41 ?_
    refine lv_iload_n hx hb dX9_add_44 rfl (lv_at hl 2 rfl) ?_
    refine lv_ior hx hb dX9_add_45 ?_
    refine lv_topi (fun y4 ey4 => ?_)
    refine va_put (D := (dC, dI)) (ci := 9) (v := .int y4) (ty := .int) (C := RX9) (T := TX9) (N := 5) hx hb hts in_X9_add_X9 tyX9 tyX9_ok nmX9 hown hK hP hD hS 0 rfl rfl 1 (by decide) (hts (.fieldLink RX9 15 "EachOnHisCue$Saying" "dead" "I") (by decide +kernel)) (fun _ h9 => h9) rfl (by decide +kernel) rfl rfl (Nat.le_of_ble_eq_true rfl) dX9_add_46 (fun H locs hP hD hS => ?_)
    have hP : va_P (dC, dI) vwCl [(ha0, .inr (9, [.int y3, .int y4, .int ia0_2, .int ia0_3, .int ia0_4]))] H := hP
    have hD : va_D A [(ha0, .inr (9, [.int y3, .int y4, .int ia0_2, .int ia0_3, .int ia0_4]))] := hD
    refine lv_aload_n hx hb dX9_add_49 rfl (lv_at hl 0 rfl) ?_
    refine lv_iload_n hx hb dX9_add_50 rfl (lv_at hl 1 rfl) ?_
    refine va_put (D := (dC, dI)) (ci := 9) (v := .int p1) (ty := .int) (C := RX9) (T := TX9) (N := 5) hx hb hts in_X9_add_X9 tyX9 tyX9_ok nmX9 hown hK hP hD hS 0 rfl rfl 2 (by decide) (hts (.fieldLink RX9 18 "EachOnHisCue$Saying" "latest" "I") (by decide +kernel)) (fun _ h9 => h9) rfl (by decide +kernel) rfl rfl (Nat.le_of_ble_eq_true rfl) dX9_add_51 (fun H locs hP hD hS => ?_)
    have hP : va_P (dC, dI) vwCl [(ha0, .inr (9, [.int y3, .int y4, .int p1, .int ia0_3, .int ia0_4]))] H := hP
    have hD : va_D A [(ha0, .inr (9, [.int y3, .int y4, .int p1, .int ia0_3, .int ia0_4]))] := hD
    refine lv_aload_n hx hb dX9_add_54 rfl (lv_at hl 0 rfl) ?_
    refine lv_dup hx hb dX9_add_55 rfl ?_
    refine va_get (D := (dC, dI)) (ci := 9) (v := .int ia0_3) (C := RX9) (T := TX9) (N := 5) hx hb hts in_X9_add_X9 hown hK hP 0 rfl rfl 3 (by decide) (hts (.fieldLink RX9 21 "EachOnHisCue$Saying" "times" "I") (by decide +kernel)) (fun _ h9 => h9) rfl dX9_add_56 ?_
    refine lv_iconst (v := 1) hx hb dX9_add_59 (by decide) ?_
    refine lv_iadd hx hb dX9_add_60 ?_
    refine lv_topi (fun y5 ey5 => ?_)
    have := z_lo ia0_3
    have hy5 : y5.toInt = ia0_3.toInt + 1 := by rw [ey5]; exact z_add rfl (by decide) (by omega) (by omega)
    refine va_put (D := (dC, dI)) (ci := 9) (v := .int y5) (ty := .int) (C := RX9) (T := TX9) (N := 5) hx hb hts in_X9_add_X9 tyX9 tyX9_ok nmX9 hown hK hP hD hS 0 rfl rfl 3 (by decide) (hts (.fieldLink RX9 21 "EachOnHisCue$Saying" "times" "I") (by decide +kernel)) (fun _ h9 => h9) rfl (by decide +kernel) rfl rfl (Nat.le_of_ble_eq_true rfl) dX9_add_61 (fun H locs hP hD hS => ?_)
    have hP : va_P (dC, dI) vwCl [(ha0, .inr (9, [.int y3, .int y4, .int p1, .int y5, .int ia0_4]))] H := hP
    have hD : va_D A [(ha0, .inr (9, [.int y3, .int y4, .int p1, .int y5, .int ia0_4]))] := hD
    have hP9 := hP.sub (ws' := [(ha0, .inr (9, [.int y3, .int y4, .int p1, .int y5, .int ia0_4]))]) [0] rfl
    have hD9 := hD.sub (ws' := [(ha0, .inr (9, [.int y3, .int y4, .int p1, .int y5, .int ia0_4]))]) [0] (by decide) rfl
    exact W.vret hx hb hr (fun t ht hW => ⟨⟨(fun k => [y3, y4, p1, y5, ia0_4].getD k 0, fun k => [].getD k (fun _ => 0)), rfl, (show ((-2147483648) ≤ (y3 : Int32).toInt ∧ (y3 : Int32).toInt ≤ 2147483647) ∧ ((-2147483648) ≤ (y4 : Int32).toInt ∧ (y4 : Int32).toInt ≤ 2147483647) ∧ ((-2147483648) ≤ (p1 : Int32).toInt ∧ (p1 : Int32).toInt ≤ 2147483647) ∧ ((-2147483648) ≤ (y5 : Int32).toInt ∧ (y5 : Int32).toInt ≤ 2147483647) ∧ ((-2147483648) ≤ (ia0_4 : Int32).toInt ∧ (ia0_4 : Int32).toInt ≤ 2147483647) ∧ (True) from ⟨⟨by first | omega | decide | exact z_lo _, by first | omega | decide | exact z_hi _⟩, ⟨by first | omega | decide | exact z_lo _, by first | omega | decide | exact z_hi _⟩, ⟨by first | omega | decide | exact z_lo _, by first | omega | decide | exact z_hi _⟩, ⟨by first | omega | decide | exact z_lo _, by first | omega | decide | exact z_hi _⟩, ⟨by first | omega | decide | exact z_lo _, by first | omega | decide | exact z_hi _⟩, trivial⟩), by rw [ht]; exact hP9, hD9⟩, hS.F ht⟩) hS.2.2 dX9_add_64
  · have q6 : 0 < ia0_3.toInt := z_nle rfl (by decide) hc
    refine lv_iload_n hx hb dX9_add_7 rfl (lv_at hl 1 rfl) ?_
    refine lv_aload_n hx hb dX9_add_8 rfl (lv_at hl 0 rfl) ?_
    refine va_get (D := (dC, dI)) (ci := 9) (v := .int ia0_2) (C := RX9) (T := TX9) (N := 5) hx hb hts in_X9_add_X9 hown hK hP 0 rfl rfl 2 (by decide) (hts (.fieldLink RX9 18 "EachOnHisCue$Saying" "latest" "I") (by decide +kernel)) (fun _ h9 => h9) rfl dX9_add_9 ?_
    refine lv_iconst (v := 1) hx hb dX9_add_12 (by decide) ?_
    refine lv_iadd hx hb dX9_add_13 ?_
    refine lv_topi (fun y7 ey7 => ?_)
    refine lv_icmp_eq (tgt := 27) hx hb dX9_add_14 (by decide) (fun hc => ?_) (fun hc => ?_)
    · have q8 : p1.toInt = y7.toInt := z_eq rfl rfl hc
      refine lv_aload_n hx hb dX9_add_27 rfl (lv_at hl 0 rfl) ?_
      refine lv_dup hx hb dX9_add_28 rfl ?_
      refine va_get (D := (dC, dI)) (ci := 9) (v := .int ia0_0) (C := RX9) (T := TX9) (N := 5) hx hb hts in_X9_add_X9 hown hK hP 0 rfl rfl 0 (by decide) (hts (.fieldLink RX9 9 "EachOnHisCue$Saying" "said" "I") (by decide +kernel)) (fun _ h9 => h9) rfl dX9_add_29 ?_
      refine lv_iconst (v := 1) hx hb dX9_add_32 (by decide) ?_
      refine lv_iload_n hx hb dX9_add_33 rfl (lv_at hl 1 rfl) ?_
      refine lv_ishl hx hb dX9_add_34 ?_
      refine lv_topi (fun y9 ey9 => ?_)
      refine lv_ior hx hb dX9_add_35 ?_
      refine lv_topi (fun y10 ey10 => ?_)
      refine va_put (D := (dC, dI)) (ci := 9) (v := .int y10) (ty := .int) (C := RX9) (T := TX9) (N := 5) hx hb hts in_X9_add_X9 tyX9 tyX9_ok nmX9 hown hK hP hD hS 0 rfl rfl 0 (by decide) (hts (.fieldLink RX9 9 "EachOnHisCue$Saying" "said" "I") (by decide +kernel)) (fun _ h9 => h9) rfl (by decide +kernel) rfl rfl (Nat.le_of_ble_eq_true rfl) dX9_add_36 (fun H locs hP hD hS => ?_)
      have hP : va_P (dC, dI) vwCl [(ha0, .inr (9, [.int y10, .int ia0_1, .int ia0_2, .int ia0_3, .int ia0_4]))] H := hP
      have hD : va_D A [(ha0, .inr (9, [.int y10, .int ia0_1, .int ia0_2, .int ia0_3, .int ia0_4]))] := hD
      refine lv_aload_n hx hb dX9_add_39 rfl (lv_at hl 0 rfl) ?_
      refine lv_dup hx hb dX9_add_40 rfl ?_
      refine va_get (D := (dC, dI)) (ci := 9) (v := .int ia0_1) (C := RX9) (T := TX9) (N := 5) hx hb hts in_X9_add_X9 hown hK hP 0 rfl rfl 1 (by decide) (hts (.fieldLink RX9 15 "EachOnHisCue$Saying" "dead" "I") (by decide +kernel)) (fun _ h9 => h9) rfl dX9_add_41 ?_
      refine lv_iload_n hx hb dX9_add_44 rfl (lv_at hl 2 rfl) ?_
      refine lv_ior hx hb dX9_add_45 ?_
      refine lv_topi (fun y11 ey11 => ?_)
      refine va_put (D := (dC, dI)) (ci := 9) (v := .int y11) (ty := .int) (C := RX9) (T := TX9) (N := 5) hx hb hts in_X9_add_X9 tyX9 tyX9_ok nmX9 hown hK hP hD hS 0 rfl rfl 1 (by decide) (hts (.fieldLink RX9 15 "EachOnHisCue$Saying" "dead" "I") (by decide +kernel)) (fun _ h9 => h9) rfl (by decide +kernel) rfl rfl (Nat.le_of_ble_eq_true rfl) dX9_add_46 (fun H locs hP hD hS => ?_)
      have hP : va_P (dC, dI) vwCl [(ha0, .inr (9, [.int y10, .int y11, .int ia0_2, .int ia0_3, .int ia0_4]))] H := hP
      have hD : va_D A [(ha0, .inr (9, [.int y10, .int y11, .int ia0_2, .int ia0_3, .int ia0_4]))] := hD
      refine lv_aload_n hx hb dX9_add_49 rfl (lv_at hl 0 rfl) ?_
      refine lv_iload_n hx hb dX9_add_50 rfl (lv_at hl 1 rfl) ?_
      refine va_put (D := (dC, dI)) (ci := 9) (v := .int p1) (ty := .int) (C := RX9) (T := TX9) (N := 5) hx hb hts in_X9_add_X9 tyX9 tyX9_ok nmX9 hown hK hP hD hS 0 rfl rfl 2 (by decide) (hts (.fieldLink RX9 18 "EachOnHisCue$Saying" "latest" "I") (by decide +kernel)) (fun _ h9 => h9) rfl (by decide +kernel) rfl rfl (Nat.le_of_ble_eq_true rfl) dX9_add_51 (fun H locs hP hD hS => ?_)
      have hP : va_P (dC, dI) vwCl [(ha0, .inr (9, [.int y10, .int y11, .int p1, .int ia0_3, .int ia0_4]))] H := hP
      have hD : va_D A [(ha0, .inr (9, [.int y10, .int y11, .int p1, .int ia0_3, .int ia0_4]))] := hD
      refine lv_aload_n hx hb dX9_add_54 rfl (lv_at hl 0 rfl) ?_
      refine lv_dup hx hb dX9_add_55 rfl ?_
      refine va_get (D := (dC, dI)) (ci := 9) (v := .int ia0_3) (C := RX9) (T := TX9) (N := 5) hx hb hts in_X9_add_X9 hown hK hP 0 rfl rfl 3 (by decide) (hts (.fieldLink RX9 21 "EachOnHisCue$Saying" "times" "I") (by decide +kernel)) (fun _ h9 => h9) rfl dX9_add_56 ?_
      refine lv_iconst (v := 1) hx hb dX9_add_59 (by decide) ?_
      refine lv_iadd hx hb dX9_add_60 ?_
      refine lv_topi (fun y12 ey12 => ?_)
      refine va_put (D := (dC, dI)) (ci := 9) (v := .int y12) (ty := .int) (C := RX9) (T := TX9) (N := 5) hx hb hts in_X9_add_X9 tyX9 tyX9_ok nmX9 hown hK hP hD hS 0 rfl rfl 3 (by decide) (hts (.fieldLink RX9 21 "EachOnHisCue$Saying" "times" "I") (by decide +kernel)) (fun _ h9 => h9) rfl (by decide +kernel) rfl rfl (Nat.le_of_ble_eq_true rfl) dX9_add_61 (fun H locs hP hD hS => ?_)
      have hP : va_P (dC, dI) vwCl [(ha0, .inr (9, [.int y10, .int y11, .int p1, .int y12, .int ia0_4]))] H := hP
      have hD : va_D A [(ha0, .inr (9, [.int y10, .int y11, .int p1, .int y12, .int ia0_4]))] := hD
      have hP9 := hP.sub (ws' := [(ha0, .inr (9, [.int y10, .int y11, .int p1, .int y12, .int ia0_4]))]) [0] rfl
      have hD9 := hD.sub (ws' := [(ha0, .inr (9, [.int y10, .int y11, .int p1, .int y12, .int ia0_4]))]) [0] (by decide) rfl
      exact W.vret hx hb hr (fun t ht hW => ⟨⟨(fun k => [y10, y11, p1, y12, ia0_4].getD k 0, fun k => [].getD k (fun _ => 0)), rfl, (show ((-2147483648) ≤ (y10 : Int32).toInt ∧ (y10 : Int32).toInt ≤ 2147483647) ∧ ((-2147483648) ≤ (y11 : Int32).toInt ∧ (y11 : Int32).toInt ≤ 2147483647) ∧ ((-2147483648) ≤ (p1 : Int32).toInt ∧ (p1 : Int32).toInt ≤ 2147483647) ∧ ((-2147483648) ≤ (y12 : Int32).toInt ∧ (y12 : Int32).toInt ≤ 2147483647) ∧ ((-2147483648) ≤ (ia0_4 : Int32).toInt ∧ (ia0_4 : Int32).toInt ≤ 2147483647) ∧ (True) from ⟨⟨by first | omega | decide | exact z_lo _, by first | omega | decide | exact z_hi _⟩, ⟨by first | omega | decide | exact z_lo _, by first | omega | decide | exact z_hi _⟩, ⟨by first | omega | decide | exact z_lo _, by first | omega | decide | exact z_hi _⟩, ⟨by first | omega | decide | exact z_lo _, by first | omega | decide | exact z_hi _⟩, ⟨by first | omega | decide | exact z_lo _, by first | omega | decide | exact z_hi _⟩, trivial⟩), by rw [ht]; exact hP9, hD9⟩, hS.F ht⟩) hS.2.2 dX9_add_64
    · have q13 : p1.toInt ≠ y7.toInt := z_ne rfl rfl hc
      refine lv_aload_n hx hb dX9_add_17 rfl (lv_at hl 0 rfl) ?_
      refine lv_dup hx hb dX9_add_18 rfl ?_
      refine va_get (D := (dC, dI)) (ci := 9) (v := .int ia0_4) (C := RX9) (T := TX9) (N := 5) hx hb hts in_X9_add_X9 hown hK hP 0 rfl rfl 4 (by decide) (hts (.fieldLink RX9 24 "EachOnHisCue$Saying" "leaps" "I") (by decide +kernel)) (fun _ h9 => h9) rfl dX9_add_19 ?_
      refine lv_iconst (v := 1) hx hb dX9_add_22 (by decide) ?_
      refine lv_iadd hx hb dX9_add_23 ?_
      refine lv_topi (fun y14 ey14 => ?_)
      refine va_put (D := (dC, dI)) (ci := 9) (v := .int y14) (ty := .int) (C := RX9) (T := TX9) (N := 5) hx hb hts in_X9_add_X9 tyX9 tyX9_ok nmX9 hown hK hP hD hS 0 rfl rfl 4 (by decide) (hts (.fieldLink RX9 24 "EachOnHisCue$Saying" "leaps" "I") (by decide +kernel)) (fun _ h9 => h9) rfl (by decide +kernel) rfl rfl (Nat.le_of_ble_eq_true rfl) dX9_add_24 (fun H locs hP hD hS => ?_)
      have hP : va_P (dC, dI) vwCl [(ha0, .inr (9, [.int ia0_0, .int ia0_1, .int ia0_2, .int ia0_3, .int y14]))] H := hP
      have hD : va_D A [(ha0, .inr (9, [.int ia0_0, .int ia0_1, .int ia0_2, .int ia0_3, .int y14]))] := hD
      refine lv_aload_n hx hb dX9_add_27 rfl (lv_at hl 0 rfl) ?_
      refine lv_dup hx hb dX9_add_28 rfl ?_
      refine va_get (D := (dC, dI)) (ci := 9) (v := .int ia0_0) (C := RX9) (T := TX9) (N := 5) hx hb hts in_X9_add_X9 hown hK hP 0 rfl rfl 0 (by decide) (hts (.fieldLink RX9 9 "EachOnHisCue$Saying" "said" "I") (by decide +kernel)) (fun _ h9 => h9) rfl dX9_add_29 ?_
      refine lv_iconst (v := 1) hx hb dX9_add_32 (by decide) ?_
      refine lv_iload_n hx hb dX9_add_33 rfl (lv_at hl 1 rfl) ?_
      refine lv_ishl hx hb dX9_add_34 ?_
      refine lv_topi (fun y15 ey15 => ?_)
      refine lv_ior hx hb dX9_add_35 ?_
      refine lv_topi (fun y16 ey16 => ?_)
      refine va_put (D := (dC, dI)) (ci := 9) (v := .int y16) (ty := .int) (C := RX9) (T := TX9) (N := 5) hx hb hts in_X9_add_X9 tyX9 tyX9_ok nmX9 hown hK hP hD hS 0 rfl rfl 0 (by decide) (hts (.fieldLink RX9 9 "EachOnHisCue$Saying" "said" "I") (by decide +kernel)) (fun _ h9 => h9) rfl (by decide +kernel) rfl rfl (Nat.le_of_ble_eq_true rfl) dX9_add_36 (fun H locs hP hD hS => ?_)
      have hP : va_P (dC, dI) vwCl [(ha0, .inr (9, [.int y16, .int ia0_1, .int ia0_2, .int ia0_3, .int y14]))] H := hP
      have hD : va_D A [(ha0, .inr (9, [.int y16, .int ia0_1, .int ia0_2, .int ia0_3, .int y14]))] := hD
      refine lv_aload_n hx hb dX9_add_39 rfl (lv_at hl 0 rfl) ?_
      refine lv_dup hx hb dX9_add_40 rfl ?_
      refine va_get (D := (dC, dI)) (ci := 9) (v := .int ia0_1) (C := RX9) (T := TX9) (N := 5) hx hb hts in_X9_add_X9 hown hK hP 0 rfl rfl 1 (by decide) (hts (.fieldLink RX9 15 "EachOnHisCue$Saying" "dead" "I") (by decide +kernel)) (fun _ h9 => h9) rfl dX9_add_41 ?_
      refine lv_iload_n hx hb dX9_add_44 rfl (lv_at hl 2 rfl) ?_
      refine lv_ior hx hb dX9_add_45 ?_
      refine lv_topi (fun y17 ey17 => ?_)
      refine va_put (D := (dC, dI)) (ci := 9) (v := .int y17) (ty := .int) (C := RX9) (T := TX9) (N := 5) hx hb hts in_X9_add_X9 tyX9 tyX9_ok nmX9 hown hK hP hD hS 0 rfl rfl 1 (by decide) (hts (.fieldLink RX9 15 "EachOnHisCue$Saying" "dead" "I") (by decide +kernel)) (fun _ h9 => h9) rfl (by decide +kernel) rfl rfl (Nat.le_of_ble_eq_true rfl) dX9_add_46 (fun H locs hP hD hS => ?_)
      have hP : va_P (dC, dI) vwCl [(ha0, .inr (9, [.int y16, .int y17, .int ia0_2, .int ia0_3, .int y14]))] H := hP
      have hD : va_D A [(ha0, .inr (9, [.int y16, .int y17, .int ia0_2, .int ia0_3, .int y14]))] := hD
      refine lv_aload_n hx hb dX9_add_49 rfl (lv_at hl 0 rfl) ?_
      refine lv_iload_n hx hb dX9_add_50 rfl (lv_at hl 1 rfl) ?_
      refine va_put (D := (dC, dI)) (ci := 9) (v := .int p1) (ty := .int) (C := RX9) (T := TX9) (N := 5) hx hb hts in_X9_add_X9 tyX9 tyX9_ok nmX9 hown hK hP hD hS 0 rfl rfl 2 (by decide) (hts (.fieldLink RX9 18 "EachOnHisCue$Saying" "latest" "I") (by decide +kernel)) (fun _ h9 => h9) rfl (by decide +kernel) rfl rfl (Nat.le_of_ble_eq_true rfl) dX9_add_51 (fun H locs hP hD hS => ?_)
      have hP : va_P (dC, dI) vwCl [(ha0, .inr (9, [.int y16, .int y17, .int p1, .int ia0_3, .int y14]))] H := hP
      have hD : va_D A [(ha0, .inr (9, [.int y16, .int y17, .int p1, .int ia0_3, .int y14]))] := hD
      refine lv_aload_n hx hb dX9_add_54 rfl (lv_at hl 0 rfl) ?_
      refine lv_dup hx hb dX9_add_55 rfl ?_
      refine va_get (D := (dC, dI)) (ci := 9) (v := .int ia0_3) (C := RX9) (T := TX9) (N := 5) hx hb hts in_X9_add_X9 hown hK hP 0 rfl rfl 3 (by decide) (hts (.fieldLink RX9 21 "EachOnHisCue$Saying" "times" "I") (by decide +kernel)) (fun _ h9 => h9) rfl dX9_add_56 ?_
      refine lv_iconst (v := 1) hx hb dX9_add_59 (by decide) ?_
      refine lv_iadd hx hb dX9_add_60 ?_
      refine lv_topi (fun y18 ey18 => ?_)
      refine va_put (D := (dC, dI)) (ci := 9) (v := .int y18) (ty := .int) (C := RX9) (T := TX9) (N := 5) hx hb hts in_X9_add_X9 tyX9 tyX9_ok nmX9 hown hK hP hD hS 0 rfl rfl 3 (by decide) (hts (.fieldLink RX9 21 "EachOnHisCue$Saying" "times" "I") (by decide +kernel)) (fun _ h9 => h9) rfl (by decide +kernel) rfl rfl (Nat.le_of_ble_eq_true rfl) dX9_add_61 (fun H locs hP hD hS => ?_)
      have hP : va_P (dC, dI) vwCl [(ha0, .inr (9, [.int y16, .int y17, .int p1, .int y18, .int y14]))] H := hP
      have hD : va_D A [(ha0, .inr (9, [.int y16, .int y17, .int p1, .int y18, .int y14]))] := hD
      have hP9 := hP.sub (ws' := [(ha0, .inr (9, [.int y16, .int y17, .int p1, .int y18, .int y14]))]) [0] rfl
      have hD9 := hD.sub (ws' := [(ha0, .inr (9, [.int y16, .int y17, .int p1, .int y18, .int y14]))]) [0] (by decide) rfl
      exact W.vret hx hb hr (fun t ht hW => ⟨⟨(fun k => [y16, y17, p1, y18, y14].getD k 0, fun k => [].getD k (fun _ => 0)), rfl, (show ((-2147483648) ≤ (y16 : Int32).toInt ∧ (y16 : Int32).toInt ≤ 2147483647) ∧ ((-2147483648) ≤ (y17 : Int32).toInt ∧ (y17 : Int32).toInt ≤ 2147483647) ∧ ((-2147483648) ≤ (p1 : Int32).toInt ∧ (p1 : Int32).toInt ≤ 2147483647) ∧ ((-2147483648) ≤ (y18 : Int32).toInt ∧ (y18 : Int32).toInt ≤ 2147483647) ∧ ((-2147483648) ≤ (y14 : Int32).toInt ∧ (y14 : Int32).toInt ≤ 2147483647) ∧ (True) from ⟨⟨by first | omega | decide | exact z_lo _, by first | omega | decide | exact z_hi _⟩, ⟨by first | omega | decide | exact z_lo _, by first | omega | decide | exact z_hi _⟩, ⟨by first | omega | decide | exact z_lo _, by first | omega | decide | exact z_hi _⟩, ⟨by first | omega | decide | exact z_lo _, by first | omega | decide | exact z_hi _⟩, ⟨by first | omega | decide | exact z_lo _, by first | omega | decide | exact z_hi _⟩, trivial⟩), by rw [ht]; exact hP9, hD9⟩, hS.F ht⟩) hS.2.2 dX9_add_64
theorem dX9_take_0 : decode cX9_take 0 = .ok (.aload_n 0, 1) := by decide +kernel
theorem dX9_take_1 : decode cX9_take 1 = .ok (.aload_n 1, 1) := by decide +kernel
theorem dX9_take_2 : decode cX9_take 2 = .ok (.getfield 9, 3) := by decide +kernel
theorem dX9_take_5 : decode cX9_take 5 = .ok (.putfield 9, 3) := by decide +kernel
theorem dX9_take_8 : decode cX9_take 8 = .ok (.aload_n 0, 1) := by decide +kernel
theorem dX9_take_9 : decode cX9_take 9 = .ok (.aload_n 1, 1) := by decide +kernel
theorem dX9_take_10 : decode cX9_take 10 = .ok (.getfield 15, 3) := by decide +kernel
theorem dX9_take_13 : decode cX9_take 13 = .ok (.putfield 15, 3) := by decide +kernel
theorem dX9_take_16 : decode cX9_take 16 = .ok (.aload_n 0, 1) := by decide +kernel
theorem dX9_take_17 : decode cX9_take 17 = .ok (.aload_n 1, 1) := by decide +kernel
theorem dX9_take_18 : decode cX9_take 18 = .ok (.getfield 18, 3) := by decide +kernel
theorem dX9_take_21 : decode cX9_take 21 = .ok (.putfield 18, 3) := by decide +kernel
theorem dX9_take_24 : decode cX9_take 24 = .ok (.aload_n 0, 1) := by decide +kernel
theorem dX9_take_25 : decode cX9_take 25 = .ok (.aload_n 1, 1) := by decide +kernel
theorem dX9_take_26 : decode cX9_take 26 = .ok (.getfield 21, 3) := by decide +kernel
theorem dX9_take_29 : decode cX9_take 29 = .ok (.putfield 21, 3) := by decide +kernel
theorem dX9_take_32 : decode cX9_take 32 = .ok (.aload_n 0, 1) := by decide +kernel
theorem dX9_take_33 : decode cX9_take 33 = .ok (.aload_n 1, 1) := by decide +kernel
theorem dX9_take_34 : decode cX9_take 34 = .ok (.getfield 24, 3) := by decide +kernel
theorem dX9_take_37 : decode cX9_take 37 = .ok (.putfield 24, 3) := by decide +kernel
theorem dX9_take_40 : decode cX9_take 40 = .ok (.return_, 1) := by decide +kernel
noncomputable def vsX9_take : List Cond := .code yX9_take cX9_take 2 none :: (([.fieldLink RX9 9 "EachOnHisCue$Saying" "said" "I", .fieldLink RX9 15 "EachOnHisCue$Saying" "dead" "I", .fieldLink RX9 18 "EachOnHisCue$Saying" "latest" "I", .fieldLink RX9 21 "EachOnHisCue$Saying" "times" "I", .fieldLink RX9 24 "EachOnHisCue$Saying" "leaps" "I"] : List Cond) ++ wsX90)
theorem in_X9_take_X9 : ∀ w ∈ wsX90, w ∈ vsX9_take := fun _ h => List.mem_cons_of_mem _ (List.mem_append_right _ h)
set_option maxHeartbeats 4000000 in
set_option maxRecDepth 100000 in
theorem wX9_take (l : Launch) (dC : Nat → ClassId) (dI : Nat → Nat → Nat) (cI cQ : ClassId) (ha0 ha1 : Nat) (ia0_0 : Int32) (ia0_1 : Int32) (ia0_2 : Int32) (ia0_3 : Int32) (ia0_4 : Int32) (ia1_0 : Int32) (ia1_1 : Int32) (ia1_2 : Int32) (ia1_3 : Int32) (ia1_4 : Int32) (sz : Nat) : Met l yX9_take vsX9_take ({ frames := 0, cells := 0, slots := 0, locals := 0 }) (va_Pc [.ref ha0, .ref ha1] (zB dC dI cI cQ [(ha0, .inr (9, [.int ia0_0, .int ia0_1, .int ia0_2, .int ia0_3, .int ia0_4])), (ha1, .inr (9, [.int ia1_0, .int ia1_1, .int ia1_2, .int ia1_3, .int ia1_4]))] sz)) (zWv dC dI (va_A [(ha0, .inr (9, [.int ia0_0, .int ia0_1, .int ia0_2, .int ia0_3, .int ia0_4])), (ha1, .inr (9, [.int ia1_0, .int ia1_1, .int ia1_2, .int ia1_3, .int ia1_4]))] sz) (fun u => [(ha0, .inr (9, [.int (u.1 0), .int (u.1 1), .int (u.1 2), .int (u.1 3), .int (u.1 4)])), (ha1, .inr (9, [.int ia1_0, .int ia1_1, .int ia1_2, .int ia1_3, .int ia1_4]))]) (fun u => ((-2147483648) ≤ (u.1 0).toInt ∧ (u.1 0).toInt ≤ 2147483647) ∧ ((-2147483648) ≤ (u.1 1).toInt ∧ (u.1 1).toInt ≤ 2147483647) ∧ ((-2147483648) ≤ (u.1 2).toInt ∧ (u.1 2).toInt ≤ 2147483647) ∧ ((-2147483648) ≤ (u.1 3).toInt ∧ (u.1 3).toInt ≤ 2147483647) ∧ ((-2147483648) ≤ (u.1 4).toInt ∧ (u.1 4).toInt ≤ 2147483647) ∧ True)) 0 0 (va_A [(ha0, .inr (9, [.int ia0_0, .int ia0_1, .int ia0_2, .int ia0_3, .int ia0_4])), (ha1, .inr (9, [.int ia1_0, .int ia1_1, .int ia1_2, .int ia1_3, .int ia1_4]))] sz) := by
  refine Met.ofW (cc := cX9_take) (maxL := 2) (ret := none) (by decide) rfl ?_
  intro p e s m args below meth c s₁ B hml hv
  obtain ⟨rfl, hsz, hP, hZ, hD0⟩ := hv
  obtain ⟨hK, hAO, hN⟩ := id hZ
  have hx := B.exec
  have hb := B.bytes
  have hr := B.returns
  have hts := atoms_spec (ws := vsX9_take) B.pre
  have hown : s.vm.findClass RX9 = some m.cls := findClass_of_methodNamed B.named
  have hlocks := B.notSynchronized
  subst hsz
  have hD := hD0.self (sz := s.heap.size)
  generalize hAe : va_A [(ha0, .inr (9, [.int ia0_0, .int ia0_1, .int ia0_2, .int ia0_3, .int ia0_4])), (ha1, .inr (9, [.int ia1_0, .int ia1_1, .int ia1_2, .int ia1_3, .int ia1_4]))] s.heap.size = A at hD ⊢
  have hA : ∀ q : Nat, s.heap.size ≤ q → A q := fun q h => by rw [← hAe]; exact Or.inr h
  have hS : va_S A s.heap s.heap [] := va_S.rf
  have hP : va_P (dC, dI) vwCl [(ha0, .inr (9, [.int ia0_0, .int ia0_1, .int ia0_2, .int ia0_3, .int ia0_4])), (ha1, .inr (9, [.int ia1_0, .int ia1_1, .int ia1_2, .int ia1_3, .int ia1_4]))] s.heap := hP
  have hl := lv_entry ([.ref ha0, .ref ha1]) (n := 2) (Nat.le_of_ble_eq_true rfl)
  rw [lg_entry_eq]
  generalize (lg_sl ([.ref ha0, .ref ha1]) ++ List.replicate (2 - (lg_sl ([.ref ha0, .ref ha1])).length) Slot.unset).toArray = ls at hl ⊢
  have hl : lv_has ls 2 [(0, .ref ha0), (1, .ref ha1)] := hl
  refine lv_aload_n hx hb dX9_take_0 rfl (lv_at hl 0 rfl) ?_
  refine lv_aload_n hx hb dX9_take_1 rfl (lv_at hl 1 rfl) ?_
  refine va_get (D := (dC, dI)) (ci := 9) (v := .int ia1_0) (C := RX9) (T := TX9) (N := 5) hx hb hts in_X9_take_X9 hown hK hP 1 rfl rfl 0 (by decide) (hts (.fieldLink RX9 9 "EachOnHisCue$Saying" "said" "I") (by decide +kernel)) (fun _ h9 => h9) rfl dX9_take_2 ?_
  refine va_put (D := (dC, dI)) (ci := 9) (v := .int ia1_0) (ty := .int) (C := RX9) (T := TX9) (N := 5) hx hb hts in_X9_take_X9 tyX9 tyX9_ok nmX9 hown hK hP hD hS 0 rfl rfl 0 (by decide) (hts (.fieldLink RX9 9 "EachOnHisCue$Saying" "said" "I") (by decide +kernel)) (fun _ h9 => h9) rfl (by decide +kernel) rfl rfl (Nat.le_of_ble_eq_true rfl) dX9_take_5 (fun H locs hP hD hS => ?_)
  have hP : va_P (dC, dI) vwCl [(ha0, .inr (9, [.int ia1_0, .int ia0_1, .int ia0_2, .int ia0_3, .int ia0_4])), (ha1, .inr (9, [.int ia1_0, .int ia1_1, .int ia1_2, .int ia1_3, .int ia1_4]))] H := hP
  have hD : va_D A [(ha0, .inr (9, [.int ia1_0, .int ia0_1, .int ia0_2, .int ia0_3, .int ia0_4])), (ha1, .inr (9, [.int ia1_0, .int ia1_1, .int ia1_2, .int ia1_3, .int ia1_4]))] := hD
  refine lv_aload_n hx hb dX9_take_8 rfl (lv_at hl 0 rfl) ?_
  refine lv_aload_n hx hb dX9_take_9 rfl (lv_at hl 1 rfl) ?_
  refine va_get (D := (dC, dI)) (ci := 9) (v := .int ia1_1) (C := RX9) (T := TX9) (N := 5) hx hb hts in_X9_take_X9 hown hK hP 1 rfl rfl 1 (by decide) (hts (.fieldLink RX9 15 "EachOnHisCue$Saying" "dead" "I") (by decide +kernel)) (fun _ h9 => h9) rfl dX9_take_10 ?_
  refine va_put (D := (dC, dI)) (ci := 9) (v := .int ia1_1) (ty := .int) (C := RX9) (T := TX9) (N := 5) hx hb hts in_X9_take_X9 tyX9 tyX9_ok nmX9 hown hK hP hD hS 0 rfl rfl 1 (by decide) (hts (.fieldLink RX9 15 "EachOnHisCue$Saying" "dead" "I") (by decide +kernel)) (fun _ h9 => h9) rfl (by decide +kernel) rfl rfl (Nat.le_of_ble_eq_true rfl) dX9_take_13 (fun H locs hP hD hS => ?_)
  have hP : va_P (dC, dI) vwCl [(ha0, .inr (9, [.int ia1_0, .int ia1_1, .int ia0_2, .int ia0_3, .int ia0_4])), (ha1, .inr (9, [.int ia1_0, .int ia1_1, .int ia1_2, .int ia1_3, .int ia1_4]))] H := hP
  have hD : va_D A [(ha0, .inr (9, [.int ia1_0, .int ia1_1, .int ia0_2, .int ia0_3, .int ia0_4])), (ha1, .inr (9, [.int ia1_0, .int ia1_1, .int ia1_2, .int ia1_3, .int ia1_4]))] := hD
  refine lv_aload_n hx hb dX9_take_16 rfl (lv_at hl 0 rfl) ?_
  refine lv_aload_n hx hb dX9_take_17 rfl (lv_at hl 1 rfl) ?_
  refine va_get (D := (dC, dI)) (ci := 9) (v := .int ia1_2) (C := RX9) (T := TX9) (N := 5) hx hb hts in_X9_take_X9 hown hK hP 1 rfl rfl 2 (by decide) (hts (.fieldLink RX9 18 "EachOnHisCue$Saying" "latest" "I") (by decide +kernel)) (fun _ h9 => h9) rfl dX9_take_18 ?_
  refine va_put (D := (dC, dI)) (ci := 9) (v := .int ia1_2) (ty := .int) (C := RX9) (T := TX9) (N := 5) hx hb hts in_X9_take_X9 tyX9 tyX9_ok nmX9 hown hK hP hD hS 0 rfl rfl 2 (by decide) (hts (.fieldLink RX9 18 "EachOnHisCue$Saying" "latest" "I") (by decide +kernel)) (fun _ h9 => h9) rfl (by decide +kernel) rfl rfl (Nat.le_of_ble_eq_true rfl) dX9_take_21 (fun H locs hP hD hS => ?_)
  have hP : va_P (dC, dI) vwCl [(ha0, .inr (9, [.int ia1_0, .int ia1_1, .int ia1_2, .int ia0_3, .int ia0_4])), (ha1, .inr (9, [.int ia1_0, .int ia1_1, .int ia1_2, .int ia1_3, .int ia1_4]))] H := hP
  have hD : va_D A [(ha0, .inr (9, [.int ia1_0, .int ia1_1, .int ia1_2, .int ia0_3, .int ia0_4])), (ha1, .inr (9, [.int ia1_0, .int ia1_1, .int ia1_2, .int ia1_3, .int ia1_4]))] := hD
  refine lv_aload_n hx hb dX9_take_24 rfl (lv_at hl 0 rfl) ?_
  refine lv_aload_n hx hb dX9_take_25 rfl (lv_at hl 1 rfl) ?_
  refine va_get (D := (dC, dI)) (ci := 9) (v := .int ia1_3) (C := RX9) (T := TX9) (N := 5) hx hb hts in_X9_take_X9 hown hK hP 1 rfl rfl 3 (by decide) (hts (.fieldLink RX9 21 "EachOnHisCue$Saying" "times" "I") (by decide +kernel)) (fun _ h9 => h9) rfl dX9_take_26 ?_
  refine va_put (D := (dC, dI)) (ci := 9) (v := .int ia1_3) (ty := .int) (C := RX9) (T := TX9) (N := 5) hx hb hts in_X9_take_X9 tyX9 tyX9_ok nmX9 hown hK hP hD hS 0 rfl rfl 3 (by decide) (hts (.fieldLink RX9 21 "EachOnHisCue$Saying" "times" "I") (by decide +kernel)) (fun _ h9 => h9) rfl (by decide +kernel) rfl rfl (Nat.le_of_ble_eq_true rfl) dX9_take_29 (fun H locs hP hD hS => ?_)
  have hP : va_P (dC, dI) vwCl [(ha0, .inr (9, [.int ia1_0, .int ia1_1, .int ia1_2, .int ia1_3, .int ia0_4])), (ha1, .inr (9, [.int ia1_0, .int ia1_1, .int ia1_2, .int ia1_3, .int ia1_4]))] H := hP
  have hD : va_D A [(ha0, .inr (9, [.int ia1_0, .int ia1_1, .int ia1_2, .int ia1_3, .int ia0_4])), (ha1, .inr (9, [.int ia1_0, .int ia1_1, .int ia1_2, .int ia1_3, .int ia1_4]))] := hD
  refine lv_aload_n hx hb dX9_take_32 rfl (lv_at hl 0 rfl) ?_
  refine lv_aload_n hx hb dX9_take_33 rfl (lv_at hl 1 rfl) ?_
  refine va_get (D := (dC, dI)) (ci := 9) (v := .int ia1_4) (C := RX9) (T := TX9) (N := 5) hx hb hts in_X9_take_X9 hown hK hP 1 rfl rfl 4 (by decide) (hts (.fieldLink RX9 24 "EachOnHisCue$Saying" "leaps" "I") (by decide +kernel)) (fun _ h9 => h9) rfl dX9_take_34 ?_
  refine va_put (D := (dC, dI)) (ci := 9) (v := .int ia1_4) (ty := .int) (C := RX9) (T := TX9) (N := 5) hx hb hts in_X9_take_X9 tyX9 tyX9_ok nmX9 hown hK hP hD hS 0 rfl rfl 4 (by decide) (hts (.fieldLink RX9 24 "EachOnHisCue$Saying" "leaps" "I") (by decide +kernel)) (fun _ h9 => h9) rfl (by decide +kernel) rfl rfl (Nat.le_of_ble_eq_true rfl) dX9_take_37 (fun H locs hP hD hS => ?_)
  have hP : va_P (dC, dI) vwCl [(ha0, .inr (9, [.int ia1_0, .int ia1_1, .int ia1_2, .int ia1_3, .int ia1_4])), (ha1, .inr (9, [.int ia1_0, .int ia1_1, .int ia1_2, .int ia1_3, .int ia1_4]))] H := hP
  have hD : va_D A [(ha0, .inr (9, [.int ia1_0, .int ia1_1, .int ia1_2, .int ia1_3, .int ia1_4])), (ha1, .inr (9, [.int ia1_0, .int ia1_1, .int ia1_2, .int ia1_3, .int ia1_4]))] := hD
  have hP9 := hP.sub (ws' := [(ha0, .inr (9, [.int ia1_0, .int ia1_1, .int ia1_2, .int ia1_3, .int ia1_4])), (ha1, .inr (9, [.int ia1_0, .int ia1_1, .int ia1_2, .int ia1_3, .int ia1_4]))]) [0, 1] rfl
  have hD9 := hD.sub (ws' := [(ha0, .inr (9, [.int ia1_0, .int ia1_1, .int ia1_2, .int ia1_3, .int ia1_4])), (ha1, .inr (9, [.int ia1_0, .int ia1_1, .int ia1_2, .int ia1_3, .int ia1_4]))]) [0, 1] (by decide) rfl
  exact W.vret hx hb hr (fun t ht hW => ⟨⟨(fun k => [ia1_0, ia1_1, ia1_2, ia1_3, ia1_4].getD k 0, fun k => [].getD k (fun _ => 0)), rfl, (show ((-2147483648) ≤ (ia1_0 : Int32).toInt ∧ (ia1_0 : Int32).toInt ≤ 2147483647) ∧ ((-2147483648) ≤ (ia1_1 : Int32).toInt ∧ (ia1_1 : Int32).toInt ≤ 2147483647) ∧ ((-2147483648) ≤ (ia1_2 : Int32).toInt ∧ (ia1_2 : Int32).toInt ≤ 2147483647) ∧ ((-2147483648) ≤ (ia1_3 : Int32).toInt ∧ (ia1_3 : Int32).toInt ≤ 2147483647) ∧ ((-2147483648) ≤ (ia1_4 : Int32).toInt ∧ (ia1_4 : Int32).toInt ≤ 2147483647) ∧ (True) from ⟨⟨by first | omega | decide | exact z_lo _, by first | omega | decide | exact z_hi _⟩, ⟨by first | omega | decide | exact z_lo _, by first | omega | decide | exact z_hi _⟩, ⟨by first | omega | decide | exact z_lo _, by first | omega | decide | exact z_hi _⟩, ⟨by first | omega | decide | exact z_lo _, by first | omega | decide | exact z_hi _⟩, ⟨by first | omega | decide | exact z_lo _, by first | omega | decide | exact z_hi _⟩, trivial⟩), by rw [ht]; exact hP9, hD9⟩, hS.F ht⟩) hS.2.2 dX9_take_40
