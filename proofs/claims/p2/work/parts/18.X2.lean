theorem dX2_draw_0 : decode cX2_draw 0 = .ok (.aload_n 0, 1) := by decide +kernel
theorem dX2_draw_1 : decode cX2_draw 1 = .ok (.aload_n 0, 1) := by decide +kernel
theorem dX2_draw_2 : decode cX2_draw 2 = .ok (.getfield 25, 3) := by decide +kernel
theorem dX2_draw_5 : decode cX2_draw 5 = .ok (.ldc 93, 2) := by decide +kernel
theorem dX2_draw_7 : decode cX2_draw 7 = .ok (.imul, 1) := by decide +kernel
theorem dX2_draw_8 : decode cX2_draw 8 = .ok (.sipush 12345, 3) := by decide +kernel
theorem dX2_draw_11 : decode cX2_draw 11 = .ok (.iadd, 1) := by decide +kernel
theorem dX2_draw_12 : decode cX2_draw 12 = .ok (.putfield 25, 3) := by decide +kernel
theorem dX2_draw_15 : decode cX2_draw 15 = .ok (.iload_n 1, 1) := by decide +kernel
theorem dX2_draw_16 : decode cX2_draw 16 = .ok (.iconst 1, 1) := by decide +kernel
theorem dX2_draw_17 : decode cX2_draw 17 = .ok (.if_icmp .ge 7, 3) := by decide +kernel
theorem dX2_draw_20 : decode cX2_draw 20 = .ok (.iconst 0, 1) := by decide +kernel
theorem dX2_draw_21 : decode cX2_draw 21 = .ok (.goto 15, 3) := by decide +kernel
theorem dX2_draw_24 : decode cX2_draw 24 = .ok (.aload_n 0, 1) := by decide +kernel
theorem dX2_draw_25 : decode cX2_draw 25 = .ok (.getfield 25, 3) := by decide +kernel
theorem dX2_draw_28 : decode cX2_draw 28 = .ok (.ldc 94, 2) := by decide +kernel
theorem dX2_draw_30 : decode cX2_draw 30 = .ok (.iand, 1) := by decide +kernel
theorem dX2_draw_31 : decode cX2_draw 31 = .ok (.ldc 95, 2) := by decide +kernel
theorem dX2_draw_33 : decode cX2_draw 33 = .ok (.idiv, 1) := by decide +kernel
theorem dX2_draw_34 : decode cX2_draw 34 = .ok (.iload_n 1, 1) := by decide +kernel
theorem dX2_draw_35 : decode cX2_draw 35 = .ok (.irem, 1) := by decide +kernel
theorem dX2_draw_36 : decode cX2_draw 36 = .ok (.ireturn, 1) := by decide +kernel
noncomputable def vsX2_draw : List Cond := .code yX2_draw cX2_draw 2 (some .int) :: (([.fieldLink RX2 25 "EachOnHisCue$Evening" "seed" "I", .constant RX2 93 (1103515245), .constant RX2 94 (2147483647), .constant RX2 95 (65536)] : List Cond) ++ wsX20)
theorem in_X2_draw_X2 : ∀ w ∈ wsX20, w ∈ vsX2_draw := fun _ h => List.mem_cons_of_mem _ (List.mem_append_right _ h)
set_option maxHeartbeats 4000000 in
set_option maxRecDepth 100000 in
theorem wX2_draw (l : Launch) (dC : Nat → ClassId) (dI : Nat → Nat → Nat) (cI cQ : ClassId) (ha0 ha0_0 ha0_1 : Nat) (ia0_2 : Int32) (p1 : Int32) (sz : Nat) : Met l yX2_draw vsX2_draw ({ frames := 0, cells := 0, slots := 0, locals := 0 }) (va_Pc [.ref ha0, .int p1] (zB dC dI cI cQ [(ha0, .inr (2, [.ref ha0_0, .ref ha0_1, .int ia0_2]))] sz)) (zWi dC dI (va_A [(ha0, .inr (2, [.ref ha0_0, .ref ha0_1, .int ia0_2]))] sz) (fun u => [(ha0, .inr (2, [.ref ha0_0, .ref ha0_1, .int (u.1 0)]))]) (fun r u => ((-2147483648) ≤ (u.1 0).toInt ∧ (u.1 0).toInt ≤ 2147483647) ∧ ((-2147483648) ≤ r.toInt ∧ r.toInt ≤ 2147483647) ∧ True)) 0 0 (va_A [(ha0, .inr (2, [.ref ha0_0, .ref ha0_1, .int ia0_2]))] sz) := by
  refine Met.ofW (cc := cX2_draw) (maxL := 2) (ret := (some .int)) (by decide) rfl ?_
  intro p e s m args below meth c s₁ B hml hv
  obtain ⟨rfl, hsz, hP, hZ, hD0⟩ := hv
  obtain ⟨hK, hAO, hN⟩ := id hZ
  have hx := B.exec
  have hb := B.bytes
  have hr := B.returns
  have hts := atoms_spec (ws := vsX2_draw) B.pre
  have hown : s.vm.findClass RX2 = some m.cls := findClass_of_methodNamed B.named
  have hlocks := B.notSynchronized
  subst hsz
  have hD := hD0.self (sz := s.heap.size)
  generalize hAe : va_A [(ha0, .inr (2, [.ref ha0_0, .ref ha0_1, .int ia0_2]))] s.heap.size = A at hD ⊢
  have hA : ∀ q : Nat, s.heap.size ≤ q → A q := fun q h => by rw [← hAe]; exact Or.inr h
  have hS : va_S A s.heap s.heap [] := va_S.rf
  have hP : va_P (dC, dI) vwCl [(ha0, .inr (2, [.ref ha0_0, .ref ha0_1, .int ia0_2]))] s.heap := hP
  have hp1l := z_lo p1
  have hp1h := z_hi p1
  have hl := lv_entry ([.ref ha0, .int p1]) (n := 2) (Nat.le_of_ble_eq_true rfl)
  rw [lg_entry_eq]
  generalize (lg_sl ([.ref ha0, .int p1]) ++ List.replicate (2 - (lg_sl ([.ref ha0, .int p1])).length) Slot.unset).toArray = ls at hl ⊢
  have hl : lv_has ls 2 [(0, .ref ha0), (1, .int p1)] := hl
  refine lv_aload_n hx hb dX2_draw_0 rfl (lv_at hl 0 rfl) ?_
  refine lv_aload_n hx hb dX2_draw_1 rfl (lv_at hl 0 rfl) ?_
  refine va_get (D := (dC, dI)) (ci := 2) (v := .int ia0_2) (C := RX2) (T := TX2) (N := 3) hx hb hts in_X2_draw_X2 hown hK hP 0 rfl rfl 2 (by decide) (hts (.fieldLink RX2 25 "EachOnHisCue$Evening" "seed" "I") (by decide +kernel)) (fun _ h9 => h9) rfl dX2_draw_2 ?_
  refine lv_ldc (own := RX2) (v := 1103515245) hx hb hown (hts (.constant RX2 93 (1103515245)) (by decide +kernel)) dX2_draw_5 ?_
  refine lv_imul hx hb dX2_draw_7 ?_
  refine lv_topi (fun y1 ey1 => ?_)
  refine lv_sipush (v := 12345) hx hb dX2_draw_8 (by decide) ?_
  refine lv_iadd hx hb dX2_draw_11 ?_
  refine lv_topi (fun y2 ey2 => ?_)
  refine va_put (D := (dC, dI)) (ci := 2) (v := .int y2) (ty := .int) (C := RX2) (T := TX2) (N := 3) hx hb hts in_X2_draw_X2 tyX2 tyX2_ok nmX2 hown hK hP hD hS 0 rfl rfl 2 (by decide) (hts (.fieldLink RX2 25 "EachOnHisCue$Evening" "seed" "I") (by decide +kernel)) (fun _ h9 => h9) rfl (by decide +kernel) rfl rfl (Nat.le_of_ble_eq_true rfl) dX2_draw_12 (fun H locs hP hD hS => ?_)
  have hP : va_P (dC, dI) vwCl [(ha0, .inr (2, [.ref ha0_0, .ref ha0_1, .int y2]))] H := hP
  have hD : va_D A [(ha0, .inr (2, [.ref ha0_0, .ref ha0_1, .int y2]))] := hD
  refine lv_iload_n hx hb dX2_draw_15 rfl (lv_at hl 1 rfl) ?_
  refine lv_iconst (v := 1) hx hb dX2_draw_16 (by decide) ?_
  refine lv_icmp_ge (tgt := 24) hx hb dX2_draw_17 (by decide) (fun hc => ?_) (fun hc => ?_)
  · have q3 : 1 ≤ p1.toInt := z_le (by decide) rfl hc
    refine lv_aload_n hx hb dX2_draw_24 rfl (lv_at hl 0 rfl) ?_
    refine va_get (D := (dC, dI)) (ci := 2) (v := .int y2) (C := RX2) (T := TX2) (N := 3) hx hb hts in_X2_draw_X2 hown hK hP 0 rfl rfl 2 (by decide) (hts (.fieldLink RX2 25 "EachOnHisCue$Evening" "seed" "I") (by decide +kernel)) (fun _ h9 => h9) rfl dX2_draw_25 ?_
    refine lv_ldc (own := RX2) (v := 2147483647) hx hb hown (hts (.constant RX2 94 (2147483647)) (by decide +kernel)) dX2_draw_28 ?_
    refine lv_iand hx hb dX2_draw_30 ?_
    refine lv_topi (fun y4 ey4 => ?_)
    refine lv_ldc (own := RX2) (v := 65536) hx hb hown (hts (.constant RX2 95 (65536)) (by decide +kernel)) dX2_draw_31 ?_
    refine lv_idiv hx hb dX2_draw_33 (by decide) ?_
    refine lv_topi (fun y5 ey5 => ?_)
    refine lv_iload_n hx hb dX2_draw_34 rfl (lv_at hl 1 rfl) ?_
    refine lv_irem hx hb dX2_draw_35 (z_n0 (by omega)) ?_
    refine lv_topi (fun y6 ey6 => ?_)
    have hP9 := hP.sub (ws' := [(ha0, .inr (2, [.ref ha0_0, .ref ha0_1, .int y2]))]) [0] rfl
    have hD9 := hD.sub (ws' := [(ha0, .inr (2, [.ref ha0_0, .ref ha0_1, .int y2]))]) [0] (by decide) rfl
    exact W.iret (v := y6) hx hb hr (fun t ht hW => ⟨⟨y6, (fun k => [y2].getD k 0, fun k => [].getD k (fun _ => 0)), rfl, (show ((-2147483648) ≤ (y2 : Int32).toInt ∧ (y2 : Int32).toInt ≤ 2147483647) ∧ ((-2147483648) ≤ (y6 : Int32).toInt ∧ (y6 : Int32).toInt ≤ 2147483647) ∧ (True) from ⟨⟨by first | omega | decide | exact z_lo _, by first | omega | decide | exact z_hi _⟩, ⟨by first | omega | decide | exact z_lo _, by first | omega | decide | exact z_hi _⟩, trivial⟩), by rw [ht]; exact hP9, hD9⟩, hS.F ht⟩) hS.2.2 dX2_draw_36
  · have q7 : p1.toInt < 1 := z_nle (by decide) rfl hc
    refine lv_iconst (v := 0) hx hb dX2_draw_20 (by decide) ?_
    refine lv_goto (tgt := 36) hx hb dX2_draw_21 (by decide) ?_
    have hP9 := hP.sub (ws' := [(ha0, .inr (2, [.ref ha0_0, .ref ha0_1, .int y2]))]) [0] rfl
    have hD9 := hD.sub (ws' := [(ha0, .inr (2, [.ref ha0_0, .ref ha0_1, .int y2]))]) [0] (by decide) rfl
    exact W.iret (v := 0) hx hb hr (fun t ht hW => ⟨⟨0, (fun k => [y2].getD k 0, fun k => [].getD k (fun _ => 0)), rfl, (show ((-2147483648) ≤ (y2 : Int32).toInt ∧ (y2 : Int32).toInt ≤ 2147483647) ∧ ((-2147483648) ≤ (0 : Int32).toInt ∧ (0 : Int32).toInt ≤ 2147483647) ∧ (True) from ⟨⟨by first | omega | decide | exact z_lo _, by first | omega | decide | exact z_hi _⟩, ⟨by first | omega | decide | exact z_lo _, by first | omega | decide | exact z_hi _⟩, trivial⟩), by rw [ht]; exact hP9, hD9⟩, hS.F ht⟩) hS.2.2 dX2_draw_36
