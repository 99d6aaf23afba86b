set_option maxRecDepth 20000 in
theorem edX2_wentAsWritten_0 : decode cX2_wentAsWritten 0 = .ok (.aload_n 0, 1) ∧ decode cX2_wentAsWritten 1 = .ok (.getfield 21, 3) ∧ decode cX2_wentAsWritten 4 = .ok (.getfield 56, 3) ∧ decode cX2_wentAsWritten 7 = .ok (.aload_n 1, 1) ∧ decode cX2_wentAsWritten 8 = .ok (.getfield 80, 3) ∧ decode cX2_wentAsWritten 11 = .ok (.if_icmp .ne 17, 3) ∧ decode cX2_wentAsWritten 14 = .ok (.aload_n 0, 1) ∧ decode cX2_wentAsWritten 15 = .ok (.getfield 21, 3) ∧ decode cX2_wentAsWritten 18 = .ok (.getfield 83, 3) ∧ decode cX2_wentAsWritten 21 = .ok (.ifCond .ne 7, 3) ∧ decode cX2_wentAsWritten 24 = .ok (.iconst 1, 1) ∧ decode cX2_wentAsWritten 25 = .ok (.goto 4, 3) := by decide +kernel
theorem dX2_wentAsWritten_0 : decode cX2_wentAsWritten 0 = .ok (.aload_n 0, 1) := edX2_wentAsWritten_0.1
theorem dX2_wentAsWritten_1 : decode cX2_wentAsWritten 1 = .ok (.getfield 21, 3) := edX2_wentAsWritten_0.2.1
theorem dX2_wentAsWritten_4 : decode cX2_wentAsWritten 4 = .ok (.getfield 56, 3) := edX2_wentAsWritten_0.2.2.1
theorem dX2_wentAsWritten_7 : decode cX2_wentAsWritten 7 = .ok (.aload_n 1, 1) := edX2_wentAsWritten_0.2.2.2.1
theorem dX2_wentAsWritten_8 : decode cX2_wentAsWritten 8 = .ok (.getfield 80, 3) := edX2_wentAsWritten_0.2.2.2.2.1
theorem dX2_wentAsWritten_11 : decode cX2_wentAsWritten 11 = .ok (.if_icmp .ne 17, 3) := edX2_wentAsWritten_0.2.2.2.2.2.1
theorem dX2_wentAsWritten_14 : decode cX2_wentAsWritten 14 = .ok (.aload_n 0, 1) := edX2_wentAsWritten_0.2.2.2.2.2.2.1
theorem dX2_wentAsWritten_15 : decode cX2_wentAsWritten 15 = .ok (.getfield 21, 3) := edX2_wentAsWritten_0.2.2.2.2.2.2.2.1
theorem dX2_wentAsWritten_18 : decode cX2_wentAsWritten 18 = .ok (.getfield 83, 3) := edX2_wentAsWritten_0.2.2.2.2.2.2.2.2.1
theorem dX2_wentAsWritten_21 : decode cX2_wentAsWritten 21 = .ok (.ifCond .ne 7, 3) := edX2_wentAsWritten_0.2.2.2.2.2.2.2.2.2.1
theorem dX2_wentAsWritten_24 : decode cX2_wentAsWritten 24 = .ok (.iconst 1, 1) := edX2_wentAsWritten_0.2.2.2.2.2.2.2.2.2.2.1
theorem dX2_wentAsWritten_25 : decode cX2_wentAsWritten 25 = .ok (.goto 4, 3) := edX2_wentAsWritten_0.2.2.2.2.2.2.2.2.2.2.2
set_option maxRecDepth 20000 in
theorem edX2_wentAsWritten_28 : decode cX2_wentAsWritten 28 = .ok (.iconst 0, 1) ∧ decode cX2_wentAsWritten 29 = .ok (.ireturn, 1) := by decide +kernel
theorem dX2_wentAsWritten_28 : decode cX2_wentAsWritten 28 = .ok (.iconst 0, 1) := edX2_wentAsWritten_28.1
theorem dX2_wentAsWritten_29 : decode cX2_wentAsWritten 29 = .ok (.ireturn, 1) := edX2_wentAsWritten_28.2
noncomputable def voX2_wentAsWritten : List Cond := [.fieldLink RX2 21 "EachOnHisCue$Evening" "saying" "LEachOnHisCue$Saying;", .fieldLink RX2 56 "EachOnHisCue$Saying" "times" "I", .fieldLink RX2 80 "EachOnHisCue$Play" "lines" "I", .fieldLink RX2 83 "EachOnHisCue$Saying" "leaps" "I"]
noncomputable def vsX2_wentAsWritten : List Cond := .code yX2_wentAsWritten cX2_wentAsWritten 2 (some .boolean) :: (voX2_wentAsWritten ++ (wsX20 ++ (wsX70 ++ (wsX90))))
theorem zgX2_wentAsWritten : zGd vsX2_wentAsWritten := z_gdC rfl (z_gdA (z_gdO (by decide +kernel) : zGd voX2_wentAsWritten) (z_gdA zgX2 (z_gdA zgX7 (zgX9))))
theorem in_X2_wentAsWritten_X2 : ∀ w ∈ wsX20, w ∈ vsX2_wentAsWritten := fun _ h => List.mem_cons_of_mem _ (List.mem_append_right _ (List.mem_append_left _ h))
theorem in_X2_wentAsWritten_X7 : ∀ w ∈ wsX70, w ∈ vsX2_wentAsWritten := fun _ h => List.mem_cons_of_mem _ (List.mem_append_right _ (List.mem_append_right _ (List.mem_append_left _ h)))
theorem in_X2_wentAsWritten_X9 : ∀ w ∈ wsX90, w ∈ vsX2_wentAsWritten := fun _ h => List.mem_cons_of_mem _ (List.mem_append_right _ (List.mem_append_right _ (List.mem_append_right _ (h))))
set_option maxHeartbeats 4000000 in
set_option maxRecDepth 100000 in
theorem rX2_wentAsWritten (l : Launch) (dC : Nat → ClassId) (dI : Nat → Nat → Nat) (cI cQ : ClassId) (ha0 ha1 ha0_1 ha0_0 ha1_0 ha1_1 ha1_2 ha1_4 ha1_5 ha1_6 ha1_7 ha1_11 : Nat) (ia0_1_0 : Int32) (ia0_1_1 : Int32) (ia0_1_2 : Int32) (ia0_1_3 : Int32) (ia0_1_4 : Int32) (ia0_2 : Int32) (ia1_3 : Int32) (hia1_3l : 0 ≤ ia1_3.toInt) (hia1_3h : ia1_3.toInt ≤ 5) (ia1_8 : Int32) (ia1_9 : Int32) (hia1_9l : 0 ≤ ia1_9.toInt) (hia1_9h : ia1_9.toInt ≤ 12) (ia1_10 : Int32) : Met l yX2_wentAsWritten vsX2_wentAsWritten ({ frames := 0, cells := 0, slots := 0, locals := 0 }) (va_Pc [.ref ha0, .ref ha1] (zRB dC dI cI cQ [(ha0_1, .inr (9, [.int ia0_1_0, .int ia0_1_1, .int ia0_1_2, .int ia0_1_3, .int ia0_1_4])), (ha0, .inr (2, [.ref ha0_0, .ref ha0_1, .int ia0_2])), (ha1, .inr (7, [.ref ha1_0, .ref ha1_1, .ref ha1_2, .int ia1_3, .ref ha1_4, .ref ha1_5, .ref ha1_6, .ref ha1_7, .int ia1_8, .int ia1_9, .int ia1_10, .ref ha1_11]))])) (vp_Si (fun r => 0 ≤ r.toInt ∧ r.toInt ≤ 1 ∧ (zYn (ia0_1_3.toInt = ia1_9.toInt ∧ ia0_1_4.toInt = 0) r.toInt))) 0 0 (fun _ => False) := by
  refine Met.ofW (cc := cX2_wentAsWritten) (maxL := 2) (ret := (some .boolean)) (by decide) rfl ?_
  intro p e s m args below meth c s₁ B hml hv
  obtain ⟨rfl, hP, hZ⟩ := hv
  obtain ⟨hK, hAO, hN⟩ := id hZ
  have hx := B.exec
  have hb := B.bytes
  have hr := B.returns
  have hts := atoms_spec (ws := vsX2_wentAsWritten) B.pre
  have hown : s.vm.findClass RX2 = some m.cls := findClass_of_methodNamed B.named
  have hlocks := B.notSynchronized
  have hl := lv_entry ([.ref ha0, .ref ha1]) (n := 2) (Nat.le_of_ble_eq_true rfl)
  rw [lg_entry_eq]
  generalize (lg_sl ([.ref ha0, .ref ha1]) ++ List.replicate (2 - (lg_sl ([.ref ha0, .ref ha1])).length) Slot.unset).toArray = ls at hl ⊢
  have hl : lv_has ls 2 [(0, .ref ha0), (1, .ref ha1)] := hl
  refine lv_aload_n hx hb dX2_wentAsWritten_0 rfl (lv_at hl 0 rfl) ?_
  refine va_get (D := (dC, dI)) (ci := 2) (v := .ref ha0_1) (C := RX2) (T := TX2) (N := 3) hx hb hts in_X2_wentAsWritten_X2 hown hK hP 1 rfl rfl 1 (by decide) (hts (.fieldLink RX2 21 "EachOnHisCue$Evening" "saying" "LEachOnHisCue$Saying;") (by decide +kernel)) (fun _ h9 => h9) rfl dX2_wentAsWritten_1 ?_
  refine va_get (D := (dC, dI)) (ci := 9) (v := .int ia0_1_3) (C := RX9) (T := TX9) (N := 5) hx hb hts in_X2_wentAsWritten_X9 hown hK hP 0 rfl rfl 3 (by decide) (hts (.fieldLink RX2 56 "EachOnHisCue$Saying" "times" "I") (by decide +kernel)) (fun _ h9 => h9) rfl dX2_wentAsWritten_4 ?_
  refine lv_aload_n hx hb dX2_wentAsWritten_7 rfl (lv_at hl 1 rfl) ?_
  refine va_get (D := (dC, dI)) (ci := 7) (v := .int ia1_9) (C := RX7) (T := TX7) (N := 12) hx hb hts in_X2_wentAsWritten_X7 hown hK hP 2 rfl rfl 9 (by decide) (hts (.fieldLink RX2 80 "EachOnHisCue$Play" "lines" "I") (by decide +kernel)) (fun _ h9 => h9) rfl dX2_wentAsWritten_8 ?_
  refine lv_icmp_ne (tgt := 28) hx hb dX2_wentAsWritten_11 (by decide) (fun hc => ?_) (fun hc => ?_)
  · have q1 : ia0_1_3.toInt ≠ ia1_9.toInt := z_ne rfl rfl hc
    refine lv_iconst (v := 0) hx hb dX2_wentAsWritten_28 (by decide) ?_
    exact W.zret (v := 0) hx hb hr (rfl) (fun t ht hW => ⟨0, rfl, ⟨by first | decide | omega, by first | decide | omega, (by first | exact Or.inl ⟨by decide, by omega, by omega⟩ | exact Or.inr ⟨by decide, fun h => by omega⟩)⟩, ht⟩) (fun _ h => absurd h List.not_mem_nil) dX2_wentAsWritten_29
  · have q2 : ia0_1_3.toInt = ia1_9.toInt := z_eq rfl rfl hc
    refine lv_aload_n hx hb dX2_wentAsWritten_14 rfl (lv_at hl 0 rfl) ?_
    refine va_get (D := (dC, dI)) (ci := 2) (v := .ref ha0_1) (C := RX2) (T := TX2) (N := 3) hx hb hts in_X2_wentAsWritten_X2 hown hK hP 1 rfl rfl 1 (by decide) (hts (.fieldLink RX2 21 "EachOnHisCue$Evening" "saying" "LEachOnHisCue$Saying;") (by decide +kernel)) (fun _ h9 => h9) rfl dX2_wentAsWritten_15 ?_
    refine va_get (D := (dC, dI)) (ci := 9) (v := .int ia0_1_4) (C := RX9) (T := TX9) (N := 5) hx hb hts in_X2_wentAsWritten_X9 hown hK hP 0 rfl rfl 4 (by decide) (hts (.fieldLink RX2 83 "EachOnHisCue$Saying" "leaps" "I") (by decide +kernel)) (fun _ h9 => h9) rfl dX2_wentAsWritten_18 ?_
    refine lv_if_ne (tgt := 28) hx hb dX2_wentAsWritten_21 (by decide) (fun hc => ?_) (fun hc => ?_)
    · have q3 : ia0_1_4.toInt ≠ 0 := z_ne rfl (by decide) hc
      refine lv_iconst (v := 0) hx hb dX2_wentAsWritten_28 (by decide) ?_
      exact W.zret (v := 0) hx hb hr (rfl) (fun t ht hW => ⟨0, rfl, ⟨by first | decide | omega, by first | decide | omega, (by first | exact Or.inl ⟨by decide, by omega, by omega⟩ | exact Or.inr ⟨by decide, fun h => by omega⟩)⟩, ht⟩) (fun _ h => absurd h List.not_mem_nil) dX2_wentAsWritten_29
    · have q4 : ia0_1_4.toInt = 0 := z_eq rfl (by decide) hc
      refine lv_iconst (v := 1) hx hb dX2_wentAsWritten_24 (by decide) ?_
      refine lv_goto (tgt := 29) hx hb dX2_wentAsWritten_25 (by decide) ?_
      exact W.zret (v := 1) hx hb hr (rfl) (fun t ht hW => ⟨1, rfl, ⟨by first | decide | omega, by first | decide | omega, (by first | exact Or.inl ⟨by decide, by omega, by omega⟩ | exact Or.inr ⟨by decide, fun h => by omega⟩)⟩, ht⟩) (fun _ h => absurd h List.not_mem_nil) dX2_wentAsWritten_29
set_option maxRecDepth 20000 in
theorem edX5_ordersBehind_0 : decode cX5_ordersBehind 0 = .ok (.iload_n 3, 1) ∧ decode cX5_ordersBehind 1 = .ok (.aload_n 0, 1) ∧ decode cX5_ordersBehind 2 = .ok (.getfield 15, 3) ∧ decode cX5_ordersBehind 5 = .ok (.if_icmp .ge 9, 3) ∧ decode cX5_ordersBehind 8 = .ok (.iload_n 3, 1) ∧ decode cX5_ordersBehind 9 = .ok (.bipush 7, 2) ∧ decode cX5_ordersBehind 11 = .ok (.if_icmp .lt 5, 3) ∧ decode cX5_ordersBehind 14 = .ok (.iconst 1, 1) ∧ decode cX5_ordersBehind 15 = .ok (.ireturn, 1) ∧ decode cX5_ordersBehind 16 = .ok (.iconst 0, 1) ∧ decode cX5_ordersBehind 17 = .ok (.istore 4, 2) ∧ decode cX5_ordersBehind 19 = .ok (.aload_n 0, 1) := by decide +kernel
theorem dX5_ordersBehind_0 : decode cX5_ordersBehind 0 = .ok (.iload_n 3, 1) := edX5_ordersBehind_0.1
theorem dX5_ordersBehind_1 : decode cX5_ordersBehind 1 = .ok (.aload_n 0, 1) := edX5_ordersBehind_0.2.1
theorem dX5_ordersBehind_2 : decode cX5_ordersBehind 2 = .ok (.getfield 15, 3) := edX5_ordersBehind_0.2.2.1
theorem dX5_ordersBehind_5 : decode cX5_ordersBehind 5 = .ok (.if_icmp .ge 9, 3) := edX5_ordersBehind_0.2.2.2.1
theorem dX5_ordersBehind_8 : decode cX5_ordersBehind 8 = .ok (.iload_n 3, 1) := edX5_ordersBehind_0.2.2.2.2.1
theorem dX5_ordersBehind_9 : decode cX5_ordersBehind 9 = .ok (.bipush 7, 2) := edX5_ordersBehind_0.2.2.2.2.2.1
theorem dX5_ordersBehind_11 : decode cX5_ordersBehind 11 = .ok (.if_icmp .lt 5, 3) := edX5_ordersBehind_0.2.2.2.2.2.2.1
theorem dX5_ordersBehind_14 : decode cX5_ordersBehind 14 = .ok (.iconst 1, 1) := edX5_ordersBehind_0.2.2.2.2.2.2.2.1
theorem dX5_ordersBehind_15 : decode cX5_ordersBehind 15 = .ok (.ireturn, 1) := edX5_ordersBehind_0.2.2.2.2.2.2.2.2.1
theorem dX5_ordersBehind_16 : decode cX5_ordersBehind 16 = .ok (.iconst 0, 1) := edX5_ordersBehind_0.2.2.2.2.2.2.2.2.2.1
theorem dX5_ordersBehind_17 : decode cX5_ordersBehind 17 = .ok (.istore 4, 2) := edX5_ordersBehind_0.2.2.2.2.2.2.2.2.2.2.1
theorem dX5_ordersBehind_19 : decode cX5_ordersBehind 19 = .ok (.aload_n 0, 1) := edX5_ordersBehind_0.2.2.2.2.2.2.2.2.2.2.2
set_option maxRecDepth 20000 in
theorem edX5_ordersBehind_20 : decode cX5_ordersBehind 20 = .ok (.iload_n 1, 1) ∧ decode cX5_ordersBehind 21 = .ok (.iload_n 2, 1) ∧ decode cX5_ordersBehind 22 = .ok (.invokevirtual 55, 3) ∧ decode cX5_ordersBehind 25 = .ok (.istore 5, 2) ∧ decode cX5_ordersBehind 27 = .ok (.iconst 1, 1) ∧ decode cX5_ordersBehind 28 = .ok (.istore 6, 2) ∧ decode cX5_ordersBehind 30 = .ok (.iload 6, 2) ∧ decode cX5_ordersBehind 32 = .ok (.aload_n 0, 1) ∧ decode cX5_ordersBehind 33 = .ok (.getfield 15, 3) ∧ decode cX5_ordersBehind 36 = .ok (.if_icmp .ge 40, 3) ∧ decode cX5_ordersBehind 39 = .ok (.iload 5, 2) ∧ decode cX5_ordersBehind 41 = .ok (.iload 6, 2) := by decide +kernel
theorem dX5_ordersBehind_20 : decode cX5_ordersBehind 20 = .ok (.iload_n 1, 1) := edX5_ordersBehind_20.1
theorem dX5_ordersBehind_21 : decode cX5_ordersBehind 21 = .ok (.iload_n 2, 1) := edX5_ordersBehind_20.2.1
theorem dX5_ordersBehind_22 : decode cX5_ordersBehind 22 = .ok (.invokevirtual 55, 3) := edX5_ordersBehind_20.2.2.1
theorem dX5_ordersBehind_25 : decode cX5_ordersBehind 25 = .ok (.istore 5, 2) := edX5_ordersBehind_20.2.2.2.1
theorem dX5_ordersBehind_27 : decode cX5_ordersBehind 27 = .ok (.iconst 1, 1) := edX5_ordersBehind_20.2.2.2.2.1
theorem dX5_ordersBehind_28 : decode cX5_ordersBehind 28 = .ok (.istore 6, 2) := edX5_ordersBehind_20.2.2.2.2.2.1
theorem dX5_ordersBehind_30 : decode cX5_ordersBehind 30 = .ok (.iload 6, 2) := edX5_ordersBehind_20.2.2.2.2.2.2.1
theorem dX5_ordersBehind_32 : decode cX5_ordersBehind 32 = .ok (.aload_n 0, 1) := edX5_ordersBehind_20.2.2.2.2.2.2.2.1
theorem dX5_ordersBehind_33 : decode cX5_ordersBehind 33 = .ok (.getfield 15, 3) := edX5_ordersBehind_20.2.2.2.2.2.2.2.2.1
theorem dX5_ordersBehind_36 : decode cX5_ordersBehind 36 = .ok (.if_icmp .ge 40, 3) := edX5_ordersBehind_20.2.2.2.2.2.2.2.2.2.1
theorem dX5_ordersBehind_39 : decode cX5_ordersBehind 39 = .ok (.iload 5, 2) := edX5_ordersBehind_20.2.2.2.2.2.2.2.2.2.2.1
theorem dX5_ordersBehind_41 : decode cX5_ordersBehind 41 = .ok (.iload 6, 2) := edX5_ordersBehind_20.2.2.2.2.2.2.2.2.2.2.2
set_option maxRecDepth 20000 in
theorem edX5_ordersBehind_43 : decode cX5_ordersBehind 43 = .ok (.invokestatic 40, 3) ∧ decode cX5_ordersBehind 46 = .ok (.iconst 1, 1) ∧ decode cX5_ordersBehind 47 = .ok (.if_icmp .ne 23, 3) ∧ decode cX5_ordersBehind 50 = .ok (.iload 4, 2) ∧ decode cX5_ordersBehind 52 = .ok (.aload_n 0, 1) ∧ decode cX5_ordersBehind 53 = .ok (.iload 6, 2) ∧ decode cX5_ordersBehind 55 = .ok (.iload_n 2, 1) ∧ decode cX5_ordersBehind 56 = .ok (.iconst 1, 1) ∧ decode cX5_ordersBehind 57 = .ok (.iload 6, 2) ∧ decode cX5_ordersBehind 59 = .ok (.ishl, 1) ∧ decode cX5_ordersBehind 60 = .ok (.ior, 1) ∧ decode cX5_ordersBehind 61 = .ok (.iload_n 3, 1) := by decide +kernel
theorem dX5_ordersBehind_43 : decode cX5_ordersBehind 43 = .ok (.invokestatic 40, 3) := edX5_ordersBehind_43.1
theorem dX5_ordersBehind_46 : decode cX5_ordersBehind 46 = .ok (.iconst 1, 1) := edX5_ordersBehind_43.2.1
theorem dX5_ordersBehind_47 : decode cX5_ordersBehind 47 = .ok (.if_icmp .ne 23, 3) := edX5_ordersBehind_43.2.2.1
theorem dX5_ordersBehind_50 : decode cX5_ordersBehind 50 = .ok (.iload 4, 2) := edX5_ordersBehind_43.2.2.2.1
theorem dX5_ordersBehind_52 : decode cX5_ordersBehind 52 = .ok (.aload_n 0, 1) := edX5_ordersBehind_43.2.2.2.2.1
theorem dX5_ordersBehind_53 : decode cX5_ordersBehind 53 = .ok (.iload 6, 2) := edX5_ordersBehind_43.2.2.2.2.2.1
theorem dX5_ordersBehind_55 : decode cX5_ordersBehind 55 = .ok (.iload_n 2, 1) := edX5_ordersBehind_43.2.2.2.2.2.2.1
theorem dX5_ordersBehind_56 : decode cX5_ordersBehind 56 = .ok (.iconst 1, 1) := edX5_ordersBehind_43.2.2.2.2.2.2.2.1
theorem dX5_ordersBehind_57 : decode cX5_ordersBehind 57 = .ok (.iload 6, 2) := edX5_ordersBehind_43.2.2.2.2.2.2.2.2.1
theorem dX5_ordersBehind_59 : decode cX5_ordersBehind 59 = .ok (.ishl, 1) := edX5_ordersBehind_43.2.2.2.2.2.2.2.2.2.1
theorem dX5_ordersBehind_60 : decode cX5_ordersBehind 60 = .ok (.ior, 1) := edX5_ordersBehind_43.2.2.2.2.2.2.2.2.2.2.1
theorem dX5_ordersBehind_61 : decode cX5_ordersBehind 61 = .ok (.iload_n 3, 1) := edX5_ordersBehind_43.2.2.2.2.2.2.2.2.2.2.2
set_option maxRecDepth 20000 in
theorem edX5_ordersBehind_62 : decode cX5_ordersBehind 62 = .ok (.iconst 1, 1) ∧ decode cX5_ordersBehind 63 = .ok (.iadd, 1) ∧ decode cX5_ordersBehind 64 = .ok (.invokestatic 51, 3) ∧ decode cX5_ordersBehind 67 = .ok (.iadd, 1) ∧ decode cX5_ordersBehind 68 = .ok (.istore 4, 2) ∧ decode cX5_ordersBehind 70 = .ok (.iinc 6 1, 3) ∧ decode cX5_ordersBehind 73 = .ok (.goto (-43), 3) ∧ decode cX5_ordersBehind 76 = .ok (.iload 4, 2) ∧ decode cX5_ordersBehind 78 = .ok (.ireturn, 1) := by decide +kernel
theorem dX5_ordersBehind_62 : decode cX5_ordersBehind 62 = .ok (.iconst 1, 1) := edX5_ordersBehind_62.1
theorem dX5_ordersBehind_63 : decode cX5_ordersBehind 63 = .ok (.iadd, 1) := edX5_ordersBehind_62.2.1
theorem dX5_ordersBehind_64 : decode cX5_ordersBehind 64 = .ok (.invokestatic 51, 3) := edX5_ordersBehind_62.2.2.1
theorem dX5_ordersBehind_67 : decode cX5_ordersBehind 67 = .ok (.iadd, 1) := edX5_ordersBehind_62.2.2.2.1
theorem dX5_ordersBehind_68 : decode cX5_ordersBehind 68 = .ok (.istore 4, 2) := edX5_ordersBehind_62.2.2.2.2.1
theorem dX5_ordersBehind_70 : decode cX5_ordersBehind 70 = .ok (.iinc 6 1, 3) := edX5_ordersBehind_62.2.2.2.2.2.1
theorem dX5_ordersBehind_73 : decode cX5_ordersBehind 73 = .ok (.goto (-43), 3) := edX5_ordersBehind_62.2.2.2.2.2.2.1
theorem dX5_ordersBehind_76 : decode cX5_ordersBehind 76 = .ok (.iload 4, 2) := edX5_ordersBehind_62.2.2.2.2.2.2.2.1
theorem dX5_ordersBehind_78 : decode cX5_ordersBehind 78 = .ok (.ireturn, 1) := edX5_ordersBehind_62.2.2.2.2.2.2.2.2
noncomputable def voX5_ordersBehind : List Cond := [.fieldLink RX5 15 "EachOnHisCue$Net" "lines" "I", .initialized RX11, .static yX11_bitAt, .methodLink RX5 55 yX5_freeBehind, .instanceMethod yX5_freeBehind, .selects RX5 yX5_freeBehind yX5_freeBehind, .initialized RX5, .methodLink RX5 51 yX5_ordersBehind, .static yX5_ordersBehind]
noncomputable def vsX5_ordersBehind : List Cond := .code yX5_ordersBehind cX5_ordersBehind 7 (some .int) :: (voX5_ordersBehind ++ (vsX5_freeBehind ++ (vsX11_bitAt ++ (wsX50))))
theorem zgX5_ordersBehind : zGd vsX5_ordersBehind := z_gdC rfl (z_gdA (z_gdO (by decide +kernel) : zGd voX5_ordersBehind) (z_gdA zgX5_freeBehind (z_gdA zgX11_bitAt (zgX5))))
theorem in_X5_ordersBehind_X5 : ∀ w ∈ wsX50, w ∈ vsX5_ordersBehind := fun _ h => List.mem_cons_of_mem _ (List.mem_append_right _ (List.mem_append_right _ (List.mem_append_right _ (h))))
theorem gw_X5_ordersBehind_X5_freeBehind : GoodIn vsX5_ordersBehind vsX5_freeBehind := z_gdI (fun _ h => List.mem_cons_of_mem _ (List.mem_append_right _ (List.mem_append_left _ h))) zgX5_freeBehind
set_option maxRecDepth 20000 in
theorem gv_X5_ordersBehind_X5_freeBehind_55 : GoodIn vsX5_ordersBehind (wsV RX5 55 RX5 yX5_freeBehind vsX5_freeBehind) := goodIn_app (goodIn_of _ (by decide +kernel)) gw_X5_ordersBehind_X5_freeBehind
theorem gw_X5_ordersBehind_X11_bitAt : GoodIn vsX5_ordersBehind vsX11_bitAt := z_gdI (fun _ h => List.mem_cons_of_mem _ (List.mem_append_right _ (List.mem_append_right _ (List.mem_append_left _ h)))) zgX11_bitAt
set_option maxRecDepth 20000 in
theorem gv_X5_ordersBehind_X11_bitAt_40 : GoodIn vsX5_ordersBehind (vsX11_bitAt) := gw_X5_ordersBehind_X11_bitAt
theorem gw_X5_ordersBehind_X5_ordersBehind : GoodIn vsX5_ordersBehind vsX5_ordersBehind := z_gdI (fun _ h => h) zgX5_ordersBehind
set_option maxRecDepth 20000 in
theorem gv_X5_ordersBehind_X5_ordersBehind_51 : GoodIn vsX5_ordersBehind (va_wsS RX5 51 yX5_ordersBehind vsX5_ordersBehind) := goodIn_app (goodIn_of _ (by decide +kernel)) gw_X5_ordersBehind_X5_ordersBehind
set_option maxHeartbeats 4000000 in
set_option maxRecDepth 100000 in
theorem rX5_ordersBehind_d7 (l : Launch) (dC : Nat → ClassId) (dI : Nat → Nat → Nat) (cI cQ : ClassId) (ha0 ha0_0 : Nat) (ia0_1 : Int32) (hia0_1l : 0 ≤ ia0_1.toInt) (hia0_1h : ia0_1.toInt ≤ 12) (p1 : Int32) (p2 : Int32) (p3 : Int32) (hp3l : 7 ≤ p3.toInt) (hp3h : p3.toInt ≤ 100) : Met l yX5_ordersBehind vsX5_ordersBehind ({ frames := 0, cells := 0, slots := 0, locals := 0 }) (va_Pc [.ref ha0, .int p1, .int p2, .int p3] (zRB dC dI cI cQ [(ha0, .inr (5, [.ref ha0_0, .int ia0_1]))])) (vp_Si (fun r => 1 ≤ r.toInt ∧ r.toInt ≤ 1)) 0 0 (fun _ => False) := by
  refine Met.ofW (cc := cX5_ordersBehind) (maxL := 7) (ret := (some .int)) (by decide) rfl ?_
  intro p e s m args below meth c s₁ B hml hv
  obtain ⟨rfl, hP, hZ⟩ := hv
  obtain ⟨hK, hAO, hN⟩ := id hZ
  have hx := B.exec
  have hb := B.bytes
  have hr := B.returns
  have hts := atoms_spec (ws := vsX5_ordersBehind) B.pre
  have hown : s.vm.findClass RX5 = some m.cls := findClass_of_methodNamed B.named
  have hlocks := B.notSynchronized
  have hp1l := z_lo p1
  have hp1h := z_hi p1
  have hp2l := z_lo p2
  have hp2h := z_hi p2
  have hl := lv_entry ([.ref ha0, .int p1, .int p2, .int p3]) (n := 7) (Nat.le_of_ble_eq_true rfl)
  rw [lg_entry_eq]
  generalize (lg_sl ([.ref ha0, .int p1, .int p2, .int p3]) ++ List.replicate (7 - (lg_sl ([.ref ha0, .int p1, .int p2, .int p3])).length) Slot.unset).toArray = ls at hl ⊢
  have hl : lv_has ls 7 [(0, .ref ha0), (1, .int p1), (2, .int p2), (3, .int p3)] := hl
  refine lv_iload_n hx hb dX5_ordersBehind_0 rfl (lv_at hl 3 rfl) ?_
  refine lv_aload_n hx hb dX5_ordersBehind_1 rfl (lv_at hl 0 rfl) ?_
  refine va_get (D := (dC, dI)) (ci := 5) (v := .int ia0_1) (C := RX5) (T := TX5) (N := 2) hx hb hts in_X5_ordersBehind_X5 hown hK hP 0 rfl rfl 1 (by decide) (hts (.fieldLink RX5 15 "EachOnHisCue$Net" "lines" "I") (by decide +kernel)) (fun _ h9 => h9) rfl dX5_ordersBehind_2 ?_
  refine lv_icmp_ge (tgt := 14) hx hb dX5_ordersBehind_5 (by decide) (fun hc => ?_) (fun hc => ?_)
  · have q1 : ia0_1.toInt ≤ p3.toInt := z_le rfl rfl hc
    refine lv_iconst (v := 1) hx hb dX5_ordersBehind_14 (by decide) ?_
    exact W.iret (v := 1) hx hb hr (fun t ht hW => ⟨1, rfl, ⟨by first | decide | omega, by first | decide | omega⟩, ht⟩) (fun _ h => absurd h List.not_mem_nil) dX5_ordersBehind_15
  · have q2 : p3.toInt < ia0_1.toInt := z_nle rfl rfl hc
    refine lv_iload_n hx hb dX5_ordersBehind_8 rfl (lv_at hl 3 rfl) ?_
    refine lv_bipush (v := 7) hx hb dX5_ordersBehind_9 (by decide) ?_
    refine lv_icmp_lt (tgt := 16) hx hb dX5_ordersBehind_11 (by decide) (fun hc => ?_) (fun hc => ?_)
    · have q3 : p3.toInt < 7 := z_lt rfl (by decide) hc
      exfalso; omega
    · have q4 : 7 ≤ p3.toInt := z_nlt rfl (by decide) hc
      refine lv_iconst (v := 1) hx hb dX5_ordersBehind_14 (by decide) ?_
      exact W.iret (v := 1) hx hb hr (fun t ht hW => ⟨1, rfl, ⟨by first | decide | omega, by first | decide | omega⟩, ht⟩) (fun _ h => absurd h List.not_mem_nil) dX5_ordersBehind_15
set_option maxHeartbeats 4000000 in
set_option maxRecDepth 100000 in
theorem rX5_ordersBehind_d6 (l : Launch) (dC : Nat → ClassId) (dI : Nat → Nat → Nat) (cI cQ : ClassId) (ha0 ha0_0 : Nat) (fa0_0 : Nat → Int32) (ia0_1 : Int32) (hia0_1l : 0 ≤ ia0_1.toInt) (hia0_1h : ia0_1.toInt ≤ 12) (p1 : Int32) (p2 : Int32) (p3 : Int32) (hp3l : 6 ≤ p3.toInt) (hp3h : p3.toInt ≤ 100) : Met l yX5_ordersBehind vsX5_ordersBehind ({ frames := 1, cells := 0, slots := 0, locals := 26 }) (va_Pc [.ref ha0, .int p1, .int p2, .int p3] (zRB dC dI cI cQ [(ha0_0, .inl (cI, 12, .inl fa0_0)), (ha0, .inr (5, [.ref ha0_0, .int ia0_1]))])) (vp_Si (fun r => (-2147483648) ≤ r.toInt ∧ r.toInt ≤ 2147483647)) 0 0 (fun _ => False) := by
  refine Met.ofW (cc := cX5_ordersBehind) (maxL := 7) (ret := (some .int)) (by decide) rfl ?_
  intro p e s m args below meth c s₁ B hml hv
  obtain ⟨rfl, hP, hZ⟩ := hv
  obtain ⟨hK, hAO, hN⟩ := id hZ
  have hx := B.exec
  have hb := B.bytes
  have hr := B.returns
  have hts := atoms_spec (ws := vsX5_ordersBehind) B.pre
  have hown : s.vm.findClass RX5 = some m.cls := findClass_of_methodNamed B.named
  have hlocks := B.notSynchronized
  have hp1l := z_lo p1
  have hp1h := z_hi p1
  have hp2l := z_lo p2
  have hp2h := z_hi p2
  have hl := lv_entry ([.ref ha0, .int p1, .int p2, .int p3]) (n := 7) (Nat.le_of_ble_eq_true rfl)
  rw [lg_entry_eq]
  generalize (lg_sl ([.ref ha0, .int p1, .int p2, .int p3]) ++ List.replicate (7 - (lg_sl ([.ref ha0, .int p1, .int p2, .int p3])).length) Slot.unset).toArray = ls at hl ⊢
  have hl : lv_has ls 7 [(0, .ref ha0), (1, .int p1), (2, .int p2), (3, .int p3)] := hl
  refine lv_iload_n hx hb dX5_ordersBehind_0 rfl (lv_at hl 3 rfl) ?_
  refine lv_aload_n hx hb dX5_ordersBehind_1 rfl (lv_at hl 0 rfl) ?_
  refine va_get (D := (dC, dI)) (ci := 5) (v := .int ia0_1) (C := RX5) (T := TX5) (N := 2) hx hb hts in_X5_ordersBehind_X5 hown hK hP 1 rfl rfl 1 (by decide) (hts (.fieldLink RX5 15 "EachOnHisCue$Net" "lines" "I") (by decide +kernel)) (fun _ h9 => h9) rfl dX5_ordersBehind_2 ?_
  refine lv_icmp_ge (tgt := 14) hx hb dX5_ordersBehind_5 (by decide) (fun hc => ?_) (fun hc => ?_)
  · have q1 : ia0_1.toInt ≤ p3.toInt := z_le rfl rfl hc
    refine lv_iconst (v := 1) hx hb dX5_ordersBehind_14 (by decide) ?_
    exact W.iret (v := 1) hx hb hr (fun t ht hW => ⟨1, rfl, ⟨z_lo _, z_hi _⟩, ht⟩) (fun _ h => absurd h List.not_mem_nil) dX5_ordersBehind_15
  · have q2 : p3.toInt < ia0_1.toInt := z_nle rfl rfl hc
    refine lv_iload_n hx hb dX5_ordersBehind_8 rfl (lv_at hl 3 rfl) ?_
    refine lv_bipush (v := 7) hx hb dX5_ordersBehind_9 (by decide) ?_
    refine lv_icmp_lt (tgt := 16) hx hb dX5_ordersBehind_11 (by decide) (fun hc => ?_) (fun hc => ?_)
    · have q3 : p3.toInt < 7 := z_lt rfl (by decide) hc
      refine lv_iconst (v := 0) hx hb dX5_ordersBehind_16 (by decide) ?_
      refine lv_istore (lv' := [(4, .int 0), (0, .ref ha0), (1, .int p1), (2, .int p2), (3, .int p3)]) hx hb dX5_ordersBehind_17 hl (by decide) rfl (fun ls hl => ?_)
      refine lv_aload_n hx hb dX5_ordersBehind_19 rfl (lv_at hl 1 rfl) ?_
      refine lv_iload_n hx hb dX5_ordersBehind_20 rfl (lv_at hl 2 rfl) ?_
      refine lv_iload_n hx hb dX5_ordersBehind_21 rfl (lv_at hl 3 rfl) ?_
      refine z_rdi (va_runV (As := [.int p1, .int p2]) (rest := []) ⟨hx, hb, hml, hown, hts⟩ (rX5_freeBehind l dC dI cI cQ ha0 ha0_0 fa0_0 ia0_1 hia0_1l hia0_1h p1 p2) (cwV 2 hts gv_X5_ordersBehind_X5_freeBehind_55 rfl rfl rfl (by decide +kernel) ⟨Nat.le_of_ble_eq_true rfl, Nat.le_of_ble_eq_true rfl⟩) ⟨z_blindR, va_recv hK hP (ci := 5) (q0 := 1) rfl rfl, z_preR hZ hP [0, 1] rfl⟩ rfl rfl hl.1 rfl (lv_room (Nat.le_of_ble_eq_true rfl)) dX5_ordersBehind_22 ⟨Nat.le_of_ble_eq_true rfl, Nat.le_of_ble_eq_true rfl⟩) (fun y4 hy4 => ?_)
      obtain ⟨hy4_0, hy4_1⟩ := hy4
      refine lv_istore (lv' := [(5, .int y4), (4, .int 0), (0, .ref ha0), (1, .int p1), (2, .int p2), (3, .int p3)]) hx hb dX5_ordersBehind_25 hl (by decide) rfl (fun ls hl => ?_)
      refine lv_iconst (v := 1) hx hb dX5_ordersBehind_27 (by decide) ?_
      refine lv_istore (lv' := [(6, .int 1), (5, .int y4), (4, .int 0), (0, .ref ha0), (1, .int p1), (2, .int p2), (3, .int p3)]) hx hb dX5_ordersBehind_28 hl (by decide) rfl (fun ls hl => ?_)
      have hL235 : ∀ (n : Nat) (v5 : Int32) (v6 : Int32) (ls : Array Slot), 1 ≤ v5.toInt → v5.toInt ≤ 12 → (12 - v5.toInt).toNat < n → lv_has ls 7 [(6, .int v5), (5, .int y4), (4, .int v6), (0, .ref ha0), (1, .int p1), (2, .int p2), (3, .int p3)] → W p l e (headSpec vsX5_ordersBehind ({ frames := 1, cells := 0, slots := 0, locals := 26 })).room s m ([.ref ha0, .int p1, .int p2, .int p3] : List Value).toArray below meth c s.heap [] 0 0 (MQ below (vp_Si (fun r => (-2147483648) ≤ r.toInt ∧ r.toInt ≤ 2147483647)) ([.ref ha0, .int p1, .int p2, .int p3] : List Value).toArray s 0 0 (fun _ => False)) (F0 m 30 ls []) := by
        intro n
        induction n with
        | zero =>
          intro v5 v6 ls hi236_0 hi236_1 hi236_m hl
          exact absurd hi236_m (Nat.not_lt_zero _)
        | succ n ih =>
          intro v5 v6 ls hi236_0 hi236_1 hi236_m hl
          have ih237 := ih
          refine lv_iload hx hb dX5_ordersBehind_30 (lv_at hl 0 rfl) ?_
          refine lv_aload_n hx hb dX5_ordersBehind_32 rfl (lv_at hl 3 rfl) ?_
          refine va_get (D := (dC, dI)) (ci := 5) (v := .int ia0_1) (C := RX5) (T := TX5) (N := 2) hx hb hts in_X5_ordersBehind_X5 hown hK hP 1 rfl rfl 1 (by decide) (hts (.fieldLink RX5 15 "EachOnHisCue$Net" "lines" "I") (by decide +kernel)) (fun _ h9 => h9) rfl dX5_ordersBehind_33 ?_
          refine lv_icmp_ge (tgt := 76) hx hb dX5_ordersBehind_36 (by decide) (fun hc => ?_) (fun hc => ?_)
          · have q238 : ia0_1.toInt ≤ v5.toInt := z_le rfl rfl hc
            refine lv_iload hx hb dX5_ordersBehind_76 (lv_at hl 2 rfl) ?_
            exact W.iret (v := v6) hx hb hr (fun t ht hW => ⟨v6, rfl, ⟨z_lo _, z_hi _⟩, ht⟩) (fun _ h => absurd h List.not_mem_nil) dX5_ordersBehind_78
          · have q239 : v5.toInt < ia0_1.toInt := z_nle rfl rfl hc
            refine lv_iload hx hb dX5_ordersBehind_39 (lv_at hl 1 rfl) ?_
            refine lv_iload hx hb dX5_ordersBehind_41 (lv_at hl 0 rfl) ?_
            refine z_rdi (va_runSN (As := [.int y4, .int v5]) (rest := []) ⟨hx, hb, hml, hown, hts⟩ (rX11_bitAt l dC dI cI cQ y4 v5) ⟨va_cnB (host := "EachOnHisCue") 2 hts gv_X5_ordersBehind_X11_bitAt_40 rfl rfl rfl (hN.2.2.2.2.2.2.2.2.2.1) (hts (.initialized RX11) (by decide +kernel)) (by decide +kernel) ⟨Nat.le_of_ble_eq_true rfl, Nat.le_of_ble_eq_true rfl⟩, hts (.static yX11_bitAt) (by decide +kernel), trivial⟩ ⟨z_blindR, z_preR hZ hP [] rfl⟩ rfl rfl hl.1 rfl (lv_room (Nat.le_of_ble_eq_true rfl)) dX5_ordersBehind_43 ⟨Nat.le_of_ble_eq_true rfl, Nat.le_of_ble_eq_true rfl⟩) (fun y240 hy240 => ?_)
            obtain ⟨hy240_0, hy240_1, hy240_2⟩ := hy240
            refine lv_iconst (v := 1) hx hb dX5_ordersBehind_46 (by decide) ?_
            refine lv_icmp_ne (tgt := 70) hx hb dX5_ordersBehind_47 (by decide) (fun hc => ?_) (fun hc => ?_)
            · have q241 : y240.toInt ≠ 1 := z_ne rfl (by decide) hc
              obtain ⟨y242, ey242⟩ : ∃ y : Int32, y = v5 + 1 := ⟨_, rfl⟩
              refine lv_iinc (v := y242) (lv' := [(6, .int y242), (5, .int y4), (4, .int v6), (0, .ref ha0), (1, .int p1), (2, .int p2), (3, .int p3)]) hx hb dX5_ordersBehind_70 hl (k := 0) rfl (by rw [ey242]; rfl) (by decide) rfl (fun ls hl => ?_)
              have hy242 : y242.toInt = v5.toInt + 1 := by rw [ey242]; exact z_add rfl (by decide) (by omega) (by omega)
              refine lv_goto (tgt := 30) hx hb dX5_ordersBehind_73 (by decide) ?_
              exact ih237 y242 v6 ls (by first | decide | omega) (by first | decide | omega) (by omega) (lv_sub hl [0, 1, 2, 3, 4, 5, 6] rfl)
            · have q243 : y240.toInt = 1 := z_eq rfl (by decide) hc
              refine lv_iload hx hb dX5_ordersBehind_50 (lv_at hl 2 rfl) ?_
              refine lv_aload_n hx hb dX5_ordersBehind_52 rfl (lv_at hl 3 rfl) ?_
              refine lv_iload hx hb dX5_ordersBehind_53 (lv_at hl 0 rfl) ?_
              refine lv_iload_n hx hb dX5_ordersBehind_55 rfl (lv_at hl 5 rfl) ?_
              refine lv_iconst (v := 1) hx hb dX5_ordersBehind_56 (by decide) ?_
              refine lv_iload hx hb dX5_ordersBehind_57 (lv_at hl 0 rfl) ?_
              refine lv_ishl hx hb dX5_ordersBehind_59 ?_
              refine lv_topi (fun y244 ey244 => ?_)
              refine lv_ior hx hb dX5_ordersBehind_60 ?_
              refine lv_topi (fun y245 ey245 => ?_)
              refine lv_iload_n hx hb dX5_ordersBehind_61 rfl (lv_at hl 6 rfl) ?_
              refine lv_iconst (v := 1) hx hb dX5_ordersBehind_62 (by decide) ?_
              refine lv_iadd hx hb dX5_ordersBehind_63 ?_
              refine lv_topi (fun y246 ey246 => ?_)
              have hy246 : y246.toInt = p3.toInt + 1 := by rw [ey246]; exact z_add rfl (by decide) (by omega) (by omega)
              refine z_rdi (va_runS (As := [.ref ha0, .int v5, .int y245, .int y246]) (rest := [.int v6]) ⟨hx, hb, hml, hown, hts⟩ (rX5_ordersBehind_d7 l dC dI cI cQ ha0 ha0_0 ia0_1 hia0_1l hia0_1h v5 y245 y246 (by first | decide | omega) (by first | decide | omega)) (va_cwS 4 hts gv_X5_ordersBehind_X5_ordersBehind_51 rfl rfl rfl (by decide +kernel) ⟨Nat.le_of_ble_eq_true rfl, Nat.le_of_ble_eq_true rfl⟩) ⟨z_blindR, z_preR hZ hP [1] rfl⟩ rfl rfl hl.1 rfl (lv_room (Nat.le_of_ble_eq_true rfl)) dX5_ordersBehind_64 ⟨Nat.le_of_ble_eq_true rfl, Nat.le_of_ble_eq_true rfl⟩) (fun y247 hy247 => ?_)
              obtain ⟨hy247_0, hy247_1⟩ := hy247
              refine lv_iadd hx hb dX5_ordersBehind_67 ?_
              refine lv_topi (fun y248 ey248 => ?_)
              refine lv_istore (lv' := [(4, .int y248), (6, .int v5), (5, .int y4), (0, .ref ha0), (1, .int p1), (2, .int p2), (3, .int p3)]) hx hb dX5_ordersBehind_68 hl (by decide) rfl (fun ls hl => ?_)
              obtain ⟨y249, ey249⟩ : ∃ y : Int32, y = v5 + 1 := ⟨_, rfl⟩
              refine lv_iinc (v := y249) (lv' := [(6, .int y249), (4, .int y248), (5, .int y4), (0, .ref ha0), (1, .int p1), (2, .int p2), (3, .int p3)]) hx hb dX5_ordersBehind_70 hl (k := 1) rfl (by rw [ey249]; rfl) (by decide) rfl (fun ls hl => ?_)
              have hy249 : y249.toInt = v5.toInt + 1 := by rw [ey249]; exact z_add rfl (by decide) (by omega) (by omega)
              refine lv_goto (tgt := 30) hx hb dX5_ordersBehind_73 (by decide) ?_
              exact ih237 y249 y248 ls (by first | decide | omega) (by first | decide | omega) (by omega) (lv_sub hl [0, 2, 1, 3, 4, 5, 6] rfl)
      exact hL235 ((12 - (1 : Int32).toInt).toNat + 1) 1 0 ls (by decide) (by decide) (by omega) hl
    · have q250 : 7 ≤ p3.toInt := z_nlt rfl (by decide) hc
      refine lv_iconst (v := 1) hx hb dX5_ordersBehind_14 (by decide) ?_
      exact W.iret (v := 1) hx hb hr (fun t ht hW => ⟨1, rfl, ⟨z_lo _, z_hi _⟩, ht⟩) (fun _ h => absurd h List.not_mem_nil) dX5_ordersBehind_15
set_option maxHeartbeats 4000000 in
set_option maxRecDepth 100000 in
theorem rX5_ordersBehind_d5 (l : Launch) (dC : Nat → ClassId) (dI : Nat → Nat → Nat) (cI cQ : ClassId) (ha0 ha0_0 : Nat) (fa0_0 : Nat → Int32) (ia0_1 : Int32) (hia0_1l : 0 ≤ ia0_1.toInt) (hia0_1h : ia0_1.toInt ≤ 12) (p1 : Int32) (p2 : Int32) (p3 : Int32) (hp3l : 5 ≤ p3.toInt) (hp3h : p3.toInt ≤ 100) : Met l yX5_ordersBehind vsX5_ordersBehind ({ frames := 2, cells := 0, slots := 0, locals := 52 }) (va_Pc [.ref ha0, .int p1, .int p2, .int p3] (zRB dC dI cI cQ [(ha0_0, .inl (cI, 12, .inl fa0_0)), (ha0, .inr (5, [.ref ha0_0, .int ia0_1]))])) (vp_Si (fun r => (-2147483648) ≤ r.toInt ∧ r.toInt ≤ 2147483647)) 0 0 (fun _ => False) := by
  refine Met.ofW (cc := cX5_ordersBehind) (maxL := 7) (ret := (some .int)) (by decide) rfl ?_
  intro p e s m args below meth c s₁ B hml hv
  obtain ⟨rfl, hP, hZ⟩ := hv
  obtain ⟨hK, hAO, hN⟩ := id hZ
  have hx := B.exec
  have hb := B.bytes
  have hr := B.returns
  have hts := atoms_spec (ws := vsX5_ordersBehind) B.pre
  have hown : s.vm.findClass RX5 = some m.cls := findClass_of_methodNamed B.named
  have hlocks := B.notSynchronized
  have hp1l := z_lo p1
  have hp1h := z_hi p1
  have hp2l := z_lo p2
  have hp2h := z_hi p2
  have hl := lv_entry ([.ref ha0, .int p1, .int p2, .int p3]) (n := 7) (Nat.le_of_ble_eq_true rfl)
  rw [lg_entry_eq]
  generalize (lg_sl ([.ref ha0, .int p1, .int p2, .int p3]) ++ List.replicate (7 - (lg_sl ([.ref ha0, .int p1, .int p2, .int p3])).length) Slot.unset).toArray = ls at hl ⊢
  have hl : lv_has ls 7 [(0, .ref ha0), (1, .int p1), (2, .int p2), (3, .int p3)] := hl
  refine lv_iload_n hx hb dX5_ordersBehind_0 rfl (lv_at hl 3 rfl) ?_
  refine lv_aload_n hx hb dX5_ordersBehind_1 rfl (lv_at hl 0 rfl) ?_
  refine va_get (D := (dC, dI)) (ci := 5) (v := .int ia0_1) (C := RX5) (T := TX5) (N := 2) hx hb hts in_X5_ordersBehind_X5 hown hK hP 1 rfl rfl 1 (by decide) (hts (.fieldLink RX5 15 "EachOnHisCue$Net" "lines" "I") (by decide +kernel)) (fun _ h9 => h9) rfl dX5_ordersBehind_2 ?_
  refine lv_icmp_ge (tgt := 14) hx hb dX5_ordersBehind_5 (by decide) (fun hc => ?_) (fun hc => ?_)
  · have q1 : ia0_1.toInt ≤ p3.toInt := z_le rfl rfl hc
    refine lv_iconst (v := 1) hx hb dX5_ordersBehind_14 (by decide) ?_
    exact W.iret (v := 1) hx hb hr (fun t ht hW => ⟨1, rfl, ⟨z_lo _, z_hi _⟩, ht⟩) (fun _ h => absurd h List.not_mem_nil) dX5_ordersBehind_15
  · have q2 : p3.toInt < ia0_1.toInt := z_nle rfl rfl hc
    refine lv_iload_n hx hb dX5_ordersBehind_8 rfl (lv_at hl 3 rfl) ?_
    refine lv_bipush (v := 7) hx hb dX5_ordersBehind_9 (by decide) ?_
    refine lv_icmp_lt (tgt := 16) hx hb dX5_ordersBehind_11 (by decide) (fun hc => ?_) (fun hc => ?_)
    · have q3 : p3.toInt < 7 := z_lt rfl (by decide) hc
      refine lv_iconst (v := 0) hx hb dX5_ordersBehind_16 (by decide) ?_
      refine lv_istore (lv' := [(4, .int 0), (0, .ref ha0), (1, .int p1), (2, .int p2), (3, .int p3)]) hx hb dX5_ordersBehind_17 hl (by decide) rfl (fun ls hl => ?_)
      refine lv_aload_n hx hb dX5_ordersBehind_19 rfl (lv_at hl 1 rfl) ?_
      refine lv_iload_n hx hb dX5_ordersBehind_20 rfl (lv_at hl 2 rfl) ?_
      refine lv_iload_n hx hb dX5_ordersBehind_21 rfl (lv_at hl 3 rfl) ?_
      refine z_rdi (va_runV (As := [.int p1, .int p2]) (rest := []) ⟨hx, hb, hml, hown, hts⟩ (rX5_freeBehind l dC dI cI cQ ha0 ha0_0 fa0_0 ia0_1 hia0_1l hia0_1h p1 p2) (cwV 2 hts gv_X5_ordersBehind_X5_freeBehind_55 rfl rfl rfl (by decide +kernel) ⟨Nat.le_of_ble_eq_true rfl, Nat.le_of_ble_eq_true rfl⟩) ⟨z_blindR, va_recv hK hP (ci := 5) (q0 := 1) rfl rfl, z_preR hZ hP [0, 1] rfl⟩ rfl rfl hl.1 rfl (lv_room (Nat.le_of_ble_eq_true rfl)) dX5_ordersBehind_22 ⟨Nat.le_of_ble_eq_true rfl, Nat.le_of_ble_eq_true rfl⟩) (fun y4 hy4 => ?_)
      obtain ⟨hy4_0, hy4_1⟩ := hy4
      refine lv_istore (lv' := [(5, .int y4), (4, .int 0), (0, .ref ha0), (1, .int p1), (2, .int p2), (3, .int p3)]) hx hb dX5_ordersBehind_25 hl (by decide) rfl (fun ls hl => ?_)
      refine lv_iconst (v := 1) hx hb dX5_ordersBehind_27 (by decide) ?_
      refine lv_istore (lv' := [(6, .int 1), (5, .int y4), (4, .int 0), (0, .ref ha0), (1, .int p1), (2, .int p2), (3, .int p3)]) hx hb dX5_ordersBehind_28 hl (by decide) rfl (fun ls hl => ?_)
      have hL103 : ∀ (n : Nat) (v5 : Int32) (v6 : Int32) (ls : Array Slot), 1 ≤ v5.toInt → v5.toInt ≤ 12 → (12 - v5.toInt).toNat < n → lv_has ls 7 [(6, .int v5), (5, .int y4), (4, .int v6), (0, .ref ha0), (1, .int p1), (2, .int p2), (3, .int p3)] → W p l e (headSpec vsX5_ordersBehind ({ frames := 2, cells := 0, slots := 0, locals := 52 })).room s m ([.ref ha0, .int p1, .int p2, .int p3] : List Value).toArray below meth c s.heap [] 0 0 (MQ below (vp_Si (fun r => (-2147483648) ≤ r.toInt ∧ r.toInt ≤ 2147483647)) ([.ref ha0, .int p1, .int p2, .int p3] : List Value).toArray s 0 0 (fun _ => False)) (F0 m 30 ls []) := by
        intro n
        induction n with
        | zero =>
          intro v5 v6 ls hi104_0 hi104_1 hi104_m hl
          exact absurd hi104_m (Nat.not_lt_zero _)
        | succ n ih =>
          intro v5 v6 ls hi104_0 hi104_1 hi104_m hl
          have ih105 := ih
          refine lv_iload hx hb dX5_ordersBehind_30 (lv_at hl 0 rfl) ?_
          refine lv_aload_n hx hb dX5_ordersBehind_32 rfl (lv_at hl 3 rfl) ?_
          refine va_get (D := (dC, dI)) (ci := 5) (v := .int ia0_1) (C := RX5) (T := TX5) (N := 2) hx hb hts in_X5_ordersBehind_X5 hown hK hP 1 rfl rfl 1 (by decide) (hts (.fieldLink RX5 15 "EachOnHisCue$Net" "lines" "I") (by decide +kernel)) (fun _ h9 => h9) rfl dX5_ordersBehind_33 ?_
          refine lv_icmp_ge (tgt := 76) hx hb dX5_ordersBehind_36 (by decide) (fun hc => ?_) (fun hc => ?_)
          · have q106 : ia0_1.toInt ≤ v5.toInt := z_le rfl rfl hc
            refine lv_iload hx hb dX5_ordersBehind_76 (lv_at hl 2 rfl) ?_
            exact W.iret (v := v6) hx hb hr (fun t ht hW => ⟨v6, rfl, ⟨z_lo _, z_hi _⟩, ht⟩) (fun _ h => absurd h List.not_mem_nil) dX5_ordersBehind_78
          · have q107 : v5.toInt < ia0_1.toInt := z_nle rfl rfl hc
            refine lv_iload hx hb dX5_ordersBehind_39 (lv_at hl 1 rfl) ?_
            refine lv_iload hx hb dX5_ordersBehind_41 (lv_at hl 0 rfl) ?_
            refine z_rdi (va_runSN (As := [.int y4, .int v5]) (rest := []) ⟨hx, hb, hml, hown, hts⟩ (rX11_bitAt l dC dI cI cQ y4 v5) ⟨va_cnB (host := "EachOnHisCue") 2 hts gv_X5_ordersBehind_X11_bitAt_40 rfl rfl rfl (hN.2.2.2.2.2.2.2.2.2.1) (hts (.initialized RX11) (by decide +kernel)) (by decide +kernel) ⟨Nat.le_of_ble_eq_true rfl, Nat.le_of_ble_eq_true rfl⟩, hts (.static yX11_bitAt) (by decide +kernel), trivial⟩ ⟨z_blindR, z_preR hZ hP [] rfl⟩ rfl rfl hl.1 rfl (lv_room (Nat.le_of_ble_eq_true rfl)) dX5_ordersBehind_43 ⟨Nat.le_of_ble_eq_true rfl, Nat.le_of_ble_eq_true rfl⟩) (fun y108 hy108 => ?_)
            obtain ⟨hy108_0, hy108_1, hy108_2⟩ := hy108
            refine lv_iconst (v := 1) hx hb dX5_ordersBehind_46 (by decide) ?_
            refine lv_icmp_ne (tgt := 70) hx hb dX5_ordersBehind_47 (by decide) (fun hc => ?_) (fun hc => ?_)
            · have q109 : y108.toInt ≠ 1 := z_ne rfl (by decide) hc
              obtain ⟨y110, ey110⟩ : ∃ y : Int32, y = v5 + 1 := ⟨_, rfl⟩
              refine lv_iinc (v := y110) (lv' := [(6, .int y110), (5, .int y4), (4, .int v6), (0, .ref ha0), (1, .int p1), (2, .int p2), (3, .int p3)]) hx hb dX5_ordersBehind_70 hl (k := 0) rfl (by rw [ey110]; rfl) (by decide) rfl (fun ls hl => ?_)
              have hy110 : y110.toInt = v5.toInt + 1 := by rw [ey110]; exact z_add rfl (by decide) (by omega) (by omega)
              refine lv_goto (tgt := 30) hx hb dX5_ordersBehind_73 (by decide) ?_
              exact ih105 y110 v6 ls (by first | decide | omega) (by first | decide | omega) (by omega) (lv_sub hl [0, 1, 2, 3, 4, 5, 6] rfl)
            · have q111 : y108.toInt = 1 := z_eq rfl (by decide) hc
              refine lv_iload hx hb dX5_ordersBehind_50 (lv_at hl 2 rfl) ?_
              refine lv_aload_n hx hb dX5_ordersBehind_52 rfl (lv_at hl 3 rfl) ?_
              refine lv_iload hx hb dX5_ordersBehind_53 (lv_at hl 0 rfl) ?_
              refine lv_iload_n hx hb dX5_ordersBehind_55 rfl (lv_at hl 5 rfl) ?_
              refine lv_iconst (v := 1) hx hb dX5_ordersBehind_56 (by decide) ?_
              refine lv_iload hx hb dX5_ordersBehind_57 (lv_at hl 0 rfl) ?_
              refine lv_ishl hx hb dX5_ordersBehind_59 ?_
              refine lv_topi (fun y112 ey112 => ?_)
              refine lv_ior hx hb dX5_ordersBehind_60 ?_
              refine lv_topi (fun y113 ey113 => ?_)
              refine lv_iload_n hx hb dX5_ordersBehind_61 rfl (lv_at hl 6 rfl) ?_
              refine lv_iconst (v := 1) hx hb dX5_ordersBehind_62 (by decide) ?_
              refine lv_iadd hx hb dX5_ordersBehind_63 ?_
              refine lv_topi (fun y114 ey114 => ?_)
              have hy114 : y114.toInt = p3.toInt + 1 := by rw [ey114]; exact z_add rfl (by decide) (by omega) (by omega)
              refine z_rdi (va_runS (As := [.ref ha0, .int v5, .int y113, .int y114]) (rest := [.int v6]) ⟨hx, hb, hml, hown, hts⟩ (rX5_ordersBehind_d6 l dC dI cI cQ ha0 ha0_0 fa0_0 ia0_1 hia0_1l hia0_1h v5 y113 y114 (by first | decide | omega) (by first | decide | omega)) (va_cwS 4 hts gv_X5_ordersBehind_X5_ordersBehind_51 rfl rfl rfl (by decide +kernel) ⟨Nat.le_of_ble_eq_true rfl, Nat.le_of_ble_eq_true rfl⟩) ⟨z_blindR, z_preR hZ hP [0, 1] rfl⟩ rfl rfl hl.1 rfl (lv_room (Nat.le_of_ble_eq_true rfl)) dX5_ordersBehind_64 ⟨Nat.le_of_ble_eq_true rfl, Nat.le_of_ble_eq_true rfl⟩) (fun y115 hy115 => ?_)
              obtain ⟨hy115_0, hy115_1⟩ := hy115
              refine lv_iadd hx hb dX5_ordersBehind_67 ?_
              refine lv_topi (fun y116 ey116 => ?_)
              refine lv_istore (lv' := [(4, .int y116), (6, .int v5), (5, .int y4), (0, .ref ha0), (1, .int p1), (2, .int p2), (3, .int p3)]) hx hb dX5_ordersBehind_68 hl (by decide) rfl (fun ls hl => ?_)
              obtain ⟨y117, ey117⟩ : ∃ y : Int32, y = v5 + 1 := ⟨_, rfl⟩
              refine lv_iinc (v := y117) (lv' := [(6, .int y117), (4, .int y116), (5, .int y4), (0, .ref ha0), (1, .int p1), (2, .int p2), (3, .int p3)]) hx hb dX5_ordersBehind_70 hl (k := 1) rfl (by rw [ey117]; rfl) (by decide) rfl (fun ls hl => ?_)
              have hy117 : y117.toInt = v5.toInt + 1 := by rw [ey117]; exact z_add rfl (by decide) (by omega) (by omega)
              refine lv_goto (tgt := 30) hx hb dX5_ordersBehind_73 (by decide) ?_
              exact ih105 y117 y116 ls (by first | decide | omega) (by first | decide | omega) (by omega) (lv_sub hl [0, 2, 1, 3, 4, 5, 6] rfl)
      exact hL103 ((12 - (1 : Int32).toInt).toNat + 1) 1 0 ls (by decide) (by decide) (by omega) hl
    · have q118 : 7 ≤ p3.toInt := z_nlt rfl (by decide) hc
      refine lv_iconst (v := 1) hx hb dX5_ordersBehind_14 (by decide) ?_
      exact W.iret (v := 1) hx hb hr (fun t ht hW => ⟨1, rfl, ⟨z_lo _, z_hi _⟩, ht⟩) (fun _ h => absurd h List.not_mem_nil) dX5_ordersBehind_15
set_option maxHeartbeats 4000000 in
set_option maxRecDepth 100000 in
theorem rX5_ordersBehind_d4 (l : Launch) (dC : Nat → ClassId) (dI : Nat → Nat → Nat) (cI cQ : ClassId) (ha0 ha0_0 : Nat) (fa0_0 : Nat → Int32) (ia0_1 : Int32) (hia0_1l : 0 ≤ ia0_1.toInt) (hia0_1h : ia0_1.toInt ≤ 12) (p1 : Int32) (p2 : Int32) (p3 : Int32) (hp3l : 4 ≤ p3.toInt) (hp3h : p3.toInt ≤ 100) : Met l yX5_ordersBehind vsX5_ordersBehind ({ frames := 3, cells := 0, slots := 0, locals := 78 }) (va_Pc [.ref ha0, .int p1, .int p2, .int p3] (zRB dC dI cI cQ [(ha0_0, .inl (cI, 12, .inl fa0_0)), (ha0, .inr (5, [.ref ha0_0, .int ia0_1]))])) (vp_Si (fun r => (-2147483648) ≤ r.toInt ∧ r.toInt ≤ 2147483647)) 0 0 (fun _ => False) := by
  refine Met.ofW (cc := cX5_ordersBehind) (maxL := 7) (ret := (some .int)) (by decide) rfl ?_
  intro p e s m args below meth c s₁ B hml hv
  obtain ⟨rfl, hP, hZ⟩ := hv
  obtain ⟨hK, hAO, hN⟩ := id hZ
  have hx := B.exec
  have hb := B.bytes
  have hr := B.returns
  have hts := atoms_spec (ws := vsX5_ordersBehind) B.pre
  have hown : s.vm.findClass RX5 = some m.cls := findClass_of_methodNamed B.named
  have hlocks := B.notSynchronized
  have hp1l := z_lo p1
  have hp1h := z_hi p1
  have hp2l := z_lo p2
  have hp2h := z_hi p2
  have hl := lv_entry ([.ref ha0, .int p1, .int p2, .int p3]) (n := 7) (Nat.le_of_ble_eq_true rfl)
  rw [lg_entry_eq]
  generalize (lg_sl ([.ref ha0, .int p1, .int p2, .int p3]) ++ List.replicate (7 - (lg_sl ([.ref ha0, .int p1, .int p2, .int p3])).length) Slot.unset).toArray = ls at hl ⊢
  have hl : lv_has ls 7 [(0, .ref ha0), (1, .int p1), (2, .int p2), (3, .int p3)] := hl
  refine lv_iload_n hx hb dX5_ordersBehind_0 rfl (lv_at hl 3 rfl) ?_
  refine lv_aload_n hx hb dX5_ordersBehind_1 rfl (lv_at hl 0 rfl) ?_
  refine va_get (D := (dC, dI)) (ci := 5) (v := .int ia0_1) (C := RX5) (T := TX5) (N := 2) hx hb hts in_X5_ordersBehind_X5 hown hK hP 1 rfl rfl 1 (by decide) (hts (.fieldLink RX5 15 "EachOnHisCue$Net" "lines" "I") (by decide +kernel)) (fun _ h9 => h9) rfl dX5_ordersBehind_2 ?_
  refine lv_icmp_ge (tgt := 14) hx hb dX5_ordersBehind_5 (by decide) (fun hc => ?_) (fun hc => ?_)
  · have q1 : ia0_1.toInt ≤ p3.toInt := z_le rfl rfl hc
    refine lv_iconst (v := 1) hx hb dX5_ordersBehind_14 (by decide) ?_
    exact W.iret (v := 1) hx hb hr (fun t ht hW => ⟨1, rfl, ⟨z_lo _, z_hi _⟩, ht⟩) (fun _ h => absurd h List.not_mem_nil) dX5_ordersBehind_15
  · have q2 : p3.toInt < ia0_1.toInt := z_nle rfl rfl hc
    refine lv_iload_n hx hb dX5_ordersBehind_8 rfl (lv_at hl 3 rfl) ?_
    refine lv_bipush (v := 7) hx hb dX5_ordersBehind_9 (by decide) ?_
    refine lv_icmp_lt (tgt := 16) hx hb dX5_ordersBehind_11 (by decide) (fun hc => ?_) (fun hc => ?_)
    · have q3 : p3.toInt < 7 := z_lt rfl (by decide) hc
      refine lv_iconst (v := 0) hx hb dX5_ordersBehind_16 (by decide) ?_
      refine lv_istore (lv' := [(4, .int 0), (0, .ref ha0), (1, .int p1), (2, .int p2), (3, .int p3)]) hx hb dX5_ordersBehind_17 hl (by decide) rfl (fun ls hl => ?_)
      refine lv_aload_n hx hb dX5_ordersBehind_19 rfl (lv_at hl 1 rfl) ?_
      refine lv_iload_n hx hb dX5_ordersBehind_20 rfl (lv_at hl 2 rfl) ?_
      refine lv_iload_n hx hb dX5_ordersBehind_21 rfl (lv_at hl 3 rfl) ?_
      refine z_rdi (va_runV (As := [.int p1, .int p2]) (rest := []) ⟨hx, hb, hml, hown, hts⟩ (rX5_freeBehind l dC dI cI cQ ha0 ha0_0 fa0_0 ia0_1 hia0_1l hia0_1h p1 p2) (cwV 2 hts gv_X5_ordersBehind_X5_freeBehind_55 rfl rfl rfl (by decide +kernel) ⟨Nat.le_of_ble_eq_true rfl, Nat.le_of_ble_eq_true rfl⟩) ⟨z_blindR, va_recv hK hP (ci := 5) (q0 := 1) rfl rfl, z_preR hZ hP [0, 1] rfl⟩ rfl rfl hl.1 rfl (lv_room (Nat.le_of_ble_eq_true rfl)) dX5_ordersBehind_22 ⟨Nat.le_of_ble_eq_true rfl, Nat.le_of_ble_eq_true rfl⟩) (fun y4 hy4 => ?_)
      obtain ⟨hy4_0, hy4_1⟩ := hy4
      refine lv_istore (lv' := [(5, .int y4), (4, .int 0), (0, .ref ha0), (1, .int p1), (2, .int p2), (3, .int p3)]) hx hb dX5_ordersBehind_25 hl (by decide) rfl (fun ls hl => ?_)
      refine lv_iconst (v := 1) hx hb dX5_ordersBehind_27 (by decide) ?_
      refine lv_istore (lv' := [(6, .int 1), (5, .int y4), (4, .int 0), (0, .ref ha0), (1, .int p1), (2, .int p2), (3, .int p3)]) hx hb dX5_ordersBehind_28 hl (by decide) rfl (fun ls hl => ?_)
      have hL103 : ∀ (n : Nat) (v5 : Int32) (v6 : Int32) (ls : Array Slot), 1 ≤ v5.toInt → v5.toInt ≤ 12 → (12 - v5.toInt).toNat < n → lv_has ls 7 [(6, .int v5), (5, .int y4), (4, .int v6), (0, .ref ha0), (1, .int p1), (2, .int p2), (3, .int p3)] → W p l e (headSpec vsX5_ordersBehind ({ frames := 3, cells := 0, slots := 0, locals := 78 })).room s m ([.ref ha0, .int p1, .int p2, .int p3] : List Value).toArray below meth c s.heap [] 0 0 (MQ below (vp_Si (fun r => (-2147483648) ≤ r.toInt ∧ r.toInt ≤ 2147483647)) ([.ref ha0, .int p1, .int p2, .int p3] : List Value).toArray s 0 0 (fun _ => False)) (F0 m 30 ls []) := by
        intro n
        induction n with
        | zero =>
          intro v5 v6 ls hi104_0 hi104_1 hi104_m hl
          exact absurd hi104_m (Nat.not_lt_zero _)
        | succ n ih =>
          intro v5 v6 ls hi104_0 hi104_1 hi104_m hl
          have ih105 := ih
          refine lv_iload hx hb dX5_ordersBehind_30 (lv_at hl 0 rfl) ?_
          refine lv_aload_n hx hb dX5_ordersBehind_32 rfl (lv_at hl 3 rfl) ?_
          refine va_get (D := (dC, dI)) (ci := 5) (v := .int ia0_1) (C := RX5) (T := TX5) (N := 2) hx hb hts in_X5_ordersBehind_X5 hown hK hP 1 rfl rfl 1 (by decide) (hts (.fieldLink RX5 15 "EachOnHisCue$Net" "lines" "I") (by decide +kernel)) (fun _ h9 => h9) rfl dX5_ordersBehind_33 ?_
          refine lv_icmp_ge (tgt := 76) hx hb dX5_ordersBehind_36 (by decide) (fun hc => ?_) (fun hc => ?_)
          · have q106 : ia0_1.toInt ≤ v5.toInt := z_le rfl rfl hc
            refine lv_iload hx hb dX5_ordersBehind_76 (lv_at hl 2 rfl) ?_
            exact W.iret (v := v6) hx hb hr (fun t ht hW => ⟨v6, rfl, ⟨z_lo _, z_hi _⟩, ht⟩) (fun _ h => absurd h List.not_mem_nil) dX5_ordersBehind_78
          · have q107 : v5.toInt < ia0_1.toInt := z_nle rfl rfl hc
            refine lv_iload hx hb dX5_ordersBehind_39 (lv_at hl 1 rfl) ?_
            refine lv_iload hx hb dX5_ordersBehind_41 (lv_at hl 0 rfl) ?_
            refine z_rdi (va_runSN (As := [.int y4, .int v5]) (rest := []) ⟨hx, hb, hml, hown, hts⟩ (rX11_bitAt l dC dI cI cQ y4 v5) ⟨va_cnB (host := "EachOnHisCue") 2 hts gv_X5_ordersBehind_X11_bitAt_40 rfl rfl rfl (hN.2.2.2.2.2.2.2.2.2.1) (hts (.initialized RX11) (by decide +kernel)) (by decide +kernel) ⟨Nat.le_of_ble_eq_true rfl, Nat.le_of_ble_eq_true rfl⟩, hts (.static yX11_bitAt) (by decide +kernel), trivial⟩ ⟨z_blindR, z_preR hZ hP [] rfl⟩ rfl rfl hl.1 rfl (lv_room (Nat.le_of_ble_eq_true rfl)) dX5_ordersBehind_43 ⟨Nat.le_of_ble_eq_true rfl, Nat.le_of_ble_eq_true rfl⟩) (fun y108 hy108 => ?_)
            obtain ⟨hy108_0, hy108_1, hy108_2⟩ := hy108
            refine lv_iconst (v := 1) hx hb dX5_ordersBehind_46 (by decide) ?_
            refine lv_icmp_ne (tgt := 70) hx hb dX5_ordersBehind_47 (by decide) (fun hc => ?_) (fun hc => ?_)
            · have q109 : y108.toInt ≠ 1 := z_ne rfl (by decide) hc
              obtain ⟨y110, ey110⟩ : ∃ y : Int32, y = v5 + 1 := ⟨_, rfl⟩
              refine lv_iinc (v := y110) (lv' := [(6, .int y110), (5, .int y4), (4, .int v6), (0, .ref ha0), (1, .int p1), (2, .int p2), (3, .int p3)]) hx hb dX5_ordersBehind_70 hl (k := 0) rfl (by rw [ey110]; rfl) (by decide) rfl (fun ls hl => ?_)
              have hy110 : y110.toInt = v5.toInt + 1 := by rw [ey110]; exact z_add rfl (by decide) (by omega) (by omega)
              refine lv_goto (tgt := 30) hx hb dX5_ordersBehind_73 (by decide) ?_
              exact ih105 y110 v6 ls (by first | decide | omega) (by first | decide | omega) (by omega) (lv_sub hl [0, 1, 2, 3, 4, 5, 6] rfl)
            · have q111 : y108.toInt = 1 := z_eq rfl (by decide) hc
              refine lv_iload hx hb dX5_ordersBehind_50 (lv_at hl 2 rfl) ?_
              refine lv_aload_n hx hb dX5_ordersBehind_52 rfl (lv_at hl 3 rfl) ?_
              refine lv_iload hx hb dX5_ordersBehind_53 (lv_at hl 0 rfl) ?_
              refine lv_iload_n hx hb dX5_ordersBehind_55 rfl (lv_at hl 5 rfl) ?_
              refine lv_iconst (v := 1) hx hb dX5_ordersBehind_56 (by decide) ?_
              refine lv_iload hx hb dX5_ordersBehind_57 (lv_at hl 0 rfl) ?_
              refine lv_ishl hx hb dX5_ordersBehind_59 ?_
              refine lv_topi (fun y112 ey112 => ?_)
              refine lv_ior hx hb dX5_ordersBehind_60 ?_
              refine lv_topi (fun y113 ey113 => ?_)
              refine lv_iload_n hx hb dX5_ordersBehind_61 rfl (lv_at hl 6 rfl) ?_
              refine lv_iconst (v := 1) hx hb dX5_ordersBehind_62 (by decide) ?_
              refine lv_iadd hx hb dX5_ordersBehind_63 ?_
              refine lv_topi (fun y114 ey114 => ?_)
              have hy114 : y114.toInt = p3.toInt + 1 := by rw [ey114]; exact z_add rfl (by decide) (by omega) (by omega)
              refine z_rdi (va_runS (As := [.ref ha0, .int v5, .int y113, .int y114]) (rest := [.int v6]) ⟨hx, hb, hml, hown, hts⟩ (rX5_ordersBehind_d5 l dC dI cI cQ ha0 ha0_0 fa0_0 ia0_1 hia0_1l hia0_1h v5 y113 y114 (by first | decide | omega) (by first | decide | omega)) (va_cwS 4 hts gv_X5_ordersBehind_X5_ordersBehind_51 rfl rfl rfl (by decide +kernel) ⟨Nat.le_of_ble_eq_true rfl, Nat.le_of_ble_eq_true rfl⟩) ⟨z_blindR, z_preR hZ hP [0, 1] rfl⟩ rfl rfl hl.1 rfl (lv_room (Nat.le_of_ble_eq_true rfl)) dX5_ordersBehind_64 ⟨Nat.le_of_ble_eq_true rfl, Nat.le_of_ble_eq_true rfl⟩) (fun y115 hy115 => ?_)
              obtain ⟨hy115_0, hy115_1⟩ := hy115
              refine lv_iadd hx hb dX5_ordersBehind_67 ?_
              refine lv_topi (fun y116 ey116 => ?_)
              refine lv_istore (lv' := [(4, .int y116), (6, .int v5), (5, .int y4), (0, .ref ha0), (1, .int p1), (2, .int p2), (3, .int p3)]) hx hb dX5_ordersBehind_68 hl (by decide) rfl (fun ls hl => ?_)
              obtain ⟨y117, ey117⟩ : ∃ y : Int32, y = v5 + 1 := ⟨_, rfl⟩
              refine lv_iinc (v := y117) (lv' := [(6, .int y117), (4, .int y116), (5, .int y4), (0, .ref ha0), (1, .int p1), (2, .int p2), (3, .int p3)]) hx hb dX5_ordersBehind_70 hl (k := 1) rfl (by rw [ey117]; rfl) (by decide) rfl (fun ls hl => ?_)
              have hy117 : y117.toInt = v5.toInt + 1 := by rw [ey117]; exact z_add rfl (by decide) (by omega) (by omega)
              refine lv_goto (tgt := 30) hx hb dX5_ordersBehind_73 (by decide) ?_
              exact ih105 y117 y116 ls (by first | decide | omega) (by first | decide | omega) (by omega) (lv_sub hl [0, 2, 1, 3, 4, 5, 6] rfl)
      exact hL103 ((12 - (1 : Int32).toInt).toNat + 1) 1 0 ls (by decide) (by decide) (by omega) hl
    · have q118 : 7 ≤ p3.toInt := z_nlt rfl (by decide) hc
      refine lv_iconst (v := 1) hx hb dX5_ordersBehind_14 (by decide) ?_
      exact W.iret (v := 1) hx hb hr (fun t ht hW => ⟨1, rfl, ⟨z_lo _, z_hi _⟩, ht⟩) (fun _ h => absurd h List.not_mem_nil) dX5_ordersBehind_15
set_option maxHeartbeats 4000000 in
set_option maxRecDepth 100000 in
theorem rX5_ordersBehind_d3 (l : Launch) (dC : Nat → ClassId) (dI : Nat → Nat → Nat) (cI cQ : ClassId) (ha0 ha0_0 : Nat) (fa0_0 : Nat → Int32) (ia0_1 : Int32) (hia0_1l : 0 ≤ ia0_1.toInt) (hia0_1h : ia0_1.toInt ≤ 12) (p1 : Int32) (p2 : Int32) (p3 : Int32) (hp3l : 3 ≤ p3.toInt) (hp3h : p3.toInt ≤ 100) : Met l yX5_ordersBehind vsX5_ordersBehind ({ frames := 4, cells := 0, slots := 0, locals := 104 }) (va_Pc [.ref ha0, .int p1, .int p2, .int p3] (zRB dC dI cI cQ [(ha0_0, .inl (cI, 12, .inl fa0_0)), (ha0, .inr (5, [.ref ha0_0, .int ia0_1]))])) (vp_Si (fun r => (-2147483648) ≤ r.toInt ∧ r.toInt ≤ 2147483647)) 0 0 (fun _ => False) := by
  refine Met.ofW (cc := cX5_ordersBehind) (maxL := 7) (ret := (some .int)) (by decide) rfl ?_
  intro p e s m args below meth c s₁ B hml hv
  obtain ⟨rfl, hP, hZ⟩ := hv
  obtain ⟨hK, hAO, hN⟩ := id hZ
  have hx := B.exec
  have hb := B.bytes
  have hr := B.returns
  have hts := atoms_spec (ws := vsX5_ordersBehind) B.pre
  have hown : s.vm.findClass RX5 = some m.cls := findClass_of_methodNamed B.named
  have hlocks := B.notSynchronized
  have hp1l := z_lo p1
  have hp1h := z_hi p1
  have hp2l := z_lo p2
  have hp2h := z_hi p2
  have hl := lv_entry ([.ref ha0, .int p1, .int p2, .int p3]) (n := 7) (Nat.le_of_ble_eq_true rfl)
  rw [lg_entry_eq]
  generalize (lg_sl ([.ref ha0, .int p1, .int p2, .int p3]) ++ List.replicate (7 - (lg_sl ([.ref ha0, .int p1, .int p2, .int p3])).length) Slot.unset).toArray = ls at hl ⊢
  have hl : lv_has ls 7 [(0, .ref ha0), (1, .int p1), (2, .int p2), (3, .int p3)] := hl
  refine lv_iload_n hx hb dX5_ordersBehind_0 rfl (lv_at hl 3 rfl) ?_
  refine lv_aload_n hx hb dX5_ordersBehind_1 rfl (lv_at hl 0 rfl) ?_
  refine va_get (D := (dC, dI)) (ci := 5) (v := .int ia0_1) (C := RX5) (T := TX5) (N := 2) hx hb hts in_X5_ordersBehind_X5 hown hK hP 1 rfl rfl 1 (by decide) (hts (.fieldLink RX5 15 "EachOnHisCue$Net" "lines" "I") (by decide +kernel)) (fun _ h9 => h9) rfl dX5_ordersBehind_2 ?_
  refine lv_icmp_ge (tgt := 14) hx hb dX5_ordersBehind_5 (by decide) (fun hc => ?_) (fun hc => ?_)
  · have q1 : ia0_1.toInt ≤ p3.toInt := z_le rfl rfl hc
    refine lv_iconst (v := 1) hx hb dX5_ordersBehind_14 (by decide) ?_
    exact W.iret (v := 1) hx hb hr (fun t ht hW => ⟨1, rfl, ⟨z_lo _, z_hi _⟩, ht⟩) (fun _ h => absurd h List.not_mem_nil) dX5_ordersBehind_15
  · have q2 : p3.toInt < ia0_1.toInt := z_nle rfl rfl hc
    refine lv_iload_n hx hb dX5_ordersBehind_8 rfl (lv_at hl 3 rfl) ?_
    refine lv_bipush (v := 7) hx hb dX5_ordersBehind_9 (by decide) ?_
    refine lv_icmp_lt (tgt := 16) hx hb dX5_ordersBehind_11 (by decide) (fun hc => ?_) (fun hc => ?_)
    · have q3 : p3.toInt < 7 := z_lt rfl (by decide) hc
      refine lv_iconst (v := 0) hx hb dX5_ordersBehind_16 (by decide) ?_
      refine lv_istore (lv' := [(4, .int 0), (0, .ref ha0), (1, .int p1), (2, .int p2), (3, .int p3)]) hx hb dX5_ordersBehind_17 hl (by decide) rfl (fun ls hl => ?_)
      refine lv_aload_n hx hb dX5_ordersBehind_19 rfl (lv_at hl 1 rfl) ?_
      refine lv_iload_n hx hb dX5_ordersBehind_20 rfl (lv_at hl 2 rfl) ?_
      refine lv_iload_n hx hb dX5_ordersBehind_21 rfl (lv_at hl 3 rfl) ?_
      refine z_rdi (va_runV (As := [.int p1, .int p2]) (rest := []) ⟨hx, hb, hml, hown, hts⟩ (rX5_freeBehind l dC dI cI cQ ha0 ha0_0 fa0_0 ia0_1 hia0_1l hia0_1h p1 p2) (cwV 2 hts gv_X5_ordersBehind_X5_freeBehind_55 rfl rfl rfl (by decide +kernel) ⟨Nat.le_of_ble_eq_true rfl, Nat.le_of_ble_eq_true rfl⟩) ⟨z_blindR, va_recv hK hP (ci := 5) (q0 := 1) rfl rfl, z_preR hZ hP [0, 1] rfl⟩ rfl rfl hl.1 rfl (lv_room (Nat.le_of_ble_eq_true rfl)) dX5_ordersBehind_22 ⟨Nat.le_of_ble_eq_true rfl, Nat.le_of_ble_eq_true rfl⟩) (fun y4 hy4 => ?_)
      obtain ⟨hy4_0, hy4_1⟩ := hy4
      refine lv_istore (lv' := [(5, .int y4), (4, .int 0), (0, .ref ha0), (1, .int p1), (2, .int p2), (3, .int p3)]) hx hb dX5_ordersBehind_25 hl (by decide) rfl (fun ls hl => ?_)
      refine lv_iconst (v := 1) hx hb dX5_ordersBehind_27 (by decide) ?_
      refine lv_istore (lv' := [(6, .int 1), (5, .int y4), (4, .int 0), (0, .ref ha0), (1, .int p1), (2, .int p2), (3, .int p3)]) hx hb dX5_ordersBehind_28 hl (by decide) rfl (fun ls hl => ?_)
      have hL103 : ∀ (n : Nat) (v5 : Int32) (v6 : Int32) (ls : Array Slot), 1 ≤ v5.toInt → v5.toInt ≤ 12 → (12 - v5.toInt).toNat < n → lv_has ls 7 [(6, .int v5), (5, .int y4), (4, .int v6), (0, .ref ha0), (1, .int p1), (2, .int p2), (3, .int p3)] → W p l e (headSpec vsX5_ordersBehind ({ frames := 4, cells := 0, slots := 0, locals := 104 })).room s m ([.ref ha0, .int p1, .int p2, .int p3] : List Value).toArray below meth c s.heap [] 0 0 (MQ below (vp_Si (fun r => (-2147483648) ≤ r.toInt ∧ r.toInt ≤ 2147483647)) ([.ref ha0, .int p1, .int p2, .int p3] : List Value).toArray s 0 0 (fun _ => False)) (F0 m 30 ls []) := by
        intro n
        induction n with
        | zero =>
          intro v5 v6 ls hi104_0 hi104_1 hi104_m hl
          exact absurd hi104_m (Nat.not_lt_zero _)
        | succ n ih =>
          intro v5 v6 ls hi104_0 hi104_1 hi104_m hl
          have ih105 := ih
          refine lv_iload hx hb dX5_ordersBehind_30 (lv_at hl 0 rfl) ?_
          refine lv_aload_n hx hb dX5_ordersBehind_32 rfl (lv_at hl 3 rfl) ?_
          refine va_get (D := (dC, dI)) (ci := 5) (v := .int ia0_1) (C := RX5) (T := TX5) (N := 2) hx hb hts in_X5_ordersBehind_X5 hown hK hP 1 rfl rfl 1 (by decide) (hts (.fieldLink RX5 15 "EachOnHisCue$Net" "lines" "I") (by decide +kernel)) (fun _ h9 => h9) rfl dX5_ordersBehind_33 ?_
          refine lv_icmp_ge (tgt := 76) hx hb dX5_ordersBehind_36 (by decide) (fun hc => ?_) (fun hc => ?_)
          · have q106 : ia0_1.toInt ≤ v5.toInt := z_le rfl rfl hc
            refine lv_iload hx hb dX5_ordersBehind_76 (lv_at hl 2 rfl) ?_
            exact W.iret (v := v6) hx hb hr (fun t ht hW => ⟨v6, rfl, ⟨z_lo _, z_hi _⟩, ht⟩) (fun _ h => absurd h List.not_mem_nil) dX5_ordersBehind_78
          · have q107 : v5.toInt < ia0_1.toInt := z_nle rfl rfl hc
            refine lv_iload hx hb dX5_ordersBehind_39 (lv_at hl 1 rfl) ?_
            refine lv_iload hx hb dX5_ordersBehind_41 (lv_at hl 0 rfl) ?_
            refine z_rdi (va_runSN (As := [.int y4, .int v5]) (rest := []) ⟨hx, hb, hml, hown, hts⟩ (rX11_bitAt l dC dI cI cQ y4 v5) ⟨va_cnB (host := "EachOnHisCue") 2 hts gv_X5_ordersBehind_X11_bitAt_40 rfl rfl rfl (hN.2.2.2.2.2.2.2.2.2.1) (hts (.initialized RX11) (by decide +kernel)) (by decide +kernel) ⟨Nat.le_of_ble_eq_true rfl, Nat.le_of_ble_eq_true rfl⟩, hts (.static yX11_bitAt) (by decide +kernel), trivial⟩ ⟨z_blindR, z_preR hZ hP [] rfl⟩ rfl rfl hl.1 rfl (lv_room (Nat.le_of_ble_eq_true rfl)) dX5_ordersBehind_43 ⟨Nat.le_of_ble_eq_true rfl, Nat.le_of_ble_eq_true rfl⟩) (fun y108 hy108 => ?_)
            obtain ⟨hy108_0, hy108_1, hy108_2⟩ := hy108
            refine lv_iconst (v := 1) hx hb dX5_ordersBehind_46 (by decide) ?_
            refine lv_icmp_ne (tgt := 70) hx hb dX5_ordersBehind_47 (by decide) (fun hc => ?_) (fun hc => ?_)
            · have q109 : y108.toInt ≠ 1 := z_ne rfl (by decide) hc
              obtain ⟨y110, ey110⟩ : ∃ y : Int32, y = v5 + 1 := ⟨_, rfl⟩
              refine lv_iinc (v := y110) (lv' := [(6, .int y110), (5, .int y4), (4, .int v6), (0, .ref ha0), (1, .int p1), (2, .int p2), (3, .int p3)]) hx hb dX5_ordersBehind_70 hl (k := 0) rfl (by rw [ey110]; rfl) (by decide) rfl (fun ls hl => ?_)
              have hy110 : y110.toInt = v5.toInt + 1 := by rw [ey110]; exact z_add rfl (by decide) (by omega) (by omega)
              refine lv_goto (tgt := 30) hx hb dX5_ordersBehind_73 (by decide) ?_
              exact ih105 y110 v6 ls (by first | decide | omega) (by first | decide | omega) (by omega) (lv_sub hl [0, 1, 2, 3, 4, 5, 6] rfl)
            · have q111 : y108.toInt = 1 := z_eq rfl (by decide) hc
              refine lv_iload hx hb dX5_ordersBehind_50 (lv_at hl 2 rfl) ?_
              refine lv_aload_n hx hb dX5_ordersBehind_52 rfl (lv_at hl 3 rfl) ?_
              refine lv_iload hx hb dX5_ordersBehind_53 (lv_at hl 0 rfl) ?_
              refine lv_iload_n hx hb dX5_ordersBehind_55 rfl (lv_at hl 5 rfl) ?_
              refine lv_iconst (v := 1) hx hb dX5_ordersBehind_56 (by decide) ?_
              refine lv_iload hx hb dX5_ordersBehind_57 (lv_at hl 0 rfl) ?_
              refine lv_ishl hx hb dX5_ordersBehind_59 ?_
              refine lv_topi (fun y112 ey112 => ?_)
              refine lv_ior hx hb dX5_ordersBehind_60 ?_
              refine lv_topi (fun y113 ey113 => ?_)
              refine lv_iload_n hx hb dX5_ordersBehind_61 rfl (lv_at hl 6 rfl) ?_
              refine lv_iconst (v := 1) hx hb dX5_ordersBehind_62 (by decide) ?_
              refine lv_iadd hx hb dX5_ordersBehind_63 ?_
              refine lv_topi (fun y114 ey114 => ?_)
              have hy114 : y114.toInt = p3.toInt + 1 := by rw [ey114]; exact z_add rfl (by decide) (by omega) (by omega)
              refine z_rdi (va_runS (As := [.ref ha0, .int v5, .int y113, .int y114]) (rest := [.int v6]) ⟨hx, hb, hml, hown, hts⟩ (rX5_ordersBehind_d4 l dC dI cI cQ ha0 ha0_0 fa0_0 ia0_1 hia0_1l hia0_1h v5 y113 y114 (by first | decide | omega) (by first | decide | omega)) (va_cwS 4 hts gv_X5_ordersBehind_X5_ordersBehind_51 rfl rfl rfl (by decide +kernel) ⟨Nat.le_of_ble_eq_true rfl, Nat.le_of_ble_eq_true rfl⟩) ⟨z_blindR, z_preR hZ hP [0, 1] rfl⟩ rfl rfl hl.1 rfl (lv_room (Nat.le_of_ble_eq_true rfl)) dX5_ordersBehind_64 ⟨Nat.le_of_ble_eq_true rfl, Nat.le_of_ble_eq_true rfl⟩) (fun y115 hy115 => ?_)
              obtain ⟨hy115_0, hy115_1⟩ := hy115
              refine lv_iadd hx hb dX5_ordersBehind_67 ?_
              refine lv_topi (fun y116 ey116 => ?_)
              refine lv_istore (lv' := [(4, .int y116), (6, .int v5), (5, .int y4), (0, .ref ha0), (1, .int p1), (2, .int p2), (3, .int p3)]) hx hb dX5_ordersBehind_68 hl (by decide) rfl (fun ls hl => ?_)
              obtain ⟨y117, ey117⟩ : ∃ y : Int32, y = v5 + 1 := ⟨_, rfl⟩
              refine lv_iinc (v := y117) (lv' := [(6, .int y117), (4, .int y116), (5, .int y4), (0, .ref ha0), (1, .int p1), (2, .int p2), (3, .int p3)]) hx hb dX5_ordersBehind_70 hl (k := 1) rfl (by rw [ey117]; rfl) (by decide) rfl (fun ls hl => ?_)
              have hy117 : y117.toInt = v5.toInt + 1 := by rw [ey117]; exact z_add rfl (by decide) (by omega) (by omega)
              refine lv_goto (tgt := 30) hx hb dX5_ordersBehind_73 (by decide) ?_
              exact ih105 y117 y116 ls (by first | decide | omega) (by first | decide | omega) (by omega) (lv_sub hl [0, 2, 1, 3, 4, 5, 6] rfl)
      exact hL103 ((12 - (1 : Int32).toInt).toNat + 1) 1 0 ls (by decide) (by decide) (by omega) hl
    · have q118 : 7 ≤ p3.toInt := z_nlt rfl (by decide) hc
      refine lv_iconst (v := 1) hx hb dX5_ordersBehind_14 (by decide) ?_
      exact W.iret (v := 1) hx hb hr (fun t ht hW => ⟨1, rfl, ⟨z_lo _, z_hi _⟩, ht⟩) (fun _ h => absurd h List.not_mem_nil) dX5_ordersBehind_15
set_option maxHeartbeats 4000000 in
set_option maxRecDepth 100000 in
theorem rX5_ordersBehind_d2 (l : Launch) (dC : Nat → ClassId) (dI : Nat → Nat → Nat) (cI cQ : ClassId) (ha0 ha0_0 : Nat) (fa0_0 : Nat → Int32) (ia0_1 : Int32) (hia0_1l : 0 ≤ ia0_1.toInt) (hia0_1h : ia0_1.toInt ≤ 12) (p1 : Int32) (p2 : Int32) (p3 : Int32) (hp3l : 2 ≤ p3.toInt) (hp3h : p3.toInt ≤ 100) : Met l yX5_ordersBehind vsX5_ordersBehind ({ frames := 5, cells := 0, slots := 0, locals := 130 }) (va_Pc [.ref ha0, .int p1, .int p2, .int p3] (zRB dC dI cI cQ [(ha0_0, .inl (cI, 12, .inl fa0_0)), (ha0, .inr (5, [.ref ha0_0, .int ia0_1]))])) (vp_Si (fun r => (-2147483648) ≤ r.toInt ∧ r.toInt ≤ 2147483647)) 0 0 (fun _ => False) := by
  refine Met.ofW (cc := cX5_ordersBehind) (maxL := 7) (ret := (some .int)) (by decide) rfl ?_
  intro p e s m args below meth c s₁ B hml hv
  obtain ⟨rfl, hP, hZ⟩ := hv
  obtain ⟨hK, hAO, hN⟩ := id hZ
  have hx := B.exec
  have hb := B.bytes
  have hr := B.returns
  have hts := atoms_spec (ws := vsX5_ordersBehind) B.pre
  have hown : s.vm.findClass RX5 = some m.cls := findClass_of_methodNamed B.named
  have hlocks := B.notSynchronized
  have hp1l := z_lo p1
  have hp1h := z_hi p1
  have hp2l := z_lo p2
  have hp2h := z_hi p2
  have hl := lv_entry ([.ref ha0, .int p1, .int p2, .int p3]) (n := 7) (Nat.le_of_ble_eq_true rfl)
  rw [lg_entry_eq]
  generalize (lg_sl ([.ref ha0, .int p1, .int p2, .int p3]) ++ List.replicate (7 - (lg_sl ([.ref ha0, .int p1, .int p2, .int p3])).length) Slot.unset).toArray = ls at hl ⊢
  have hl : lv_has ls 7 [(0, .ref ha0), (1, .int p1), (2, .int p2), (3, .int p3)] := hl
  refine lv_iload_n hx hb dX5_ordersBehind_0 rfl (lv_at hl 3 rfl) ?_
  refine lv_aload_n hx hb dX5_ordersBehind_1 rfl (lv_at hl 0 rfl) ?_
  refine va_get (D := (dC, dI)) (ci := 5) (v := .int ia0_1) (C := RX5) (T := TX5) (N := 2) hx hb hts in_X5_ordersBehind_X5 hown hK hP 1 rfl rfl 1 (by decide) (hts (.fieldLink RX5 15 "EachOnHisCue$Net" "lines" "I") (by decide +kernel)) (fun _ h9 => h9) rfl dX5_ordersBehind_2 ?_
  refine lv_icmp_ge (tgt := 14) hx hb dX5_ordersBehind_5 (by decide) (fun hc => ?_) (fun hc => ?_)
  · have q1 : ia0_1.toInt ≤ p3.toInt := z_le rfl rfl hc
    refine lv_iconst (v := 1) hx hb dX5_ordersBehind_14 (by decide) ?_
    exact W.iret (v := 1) hx hb hr (fun t ht hW => ⟨1, rfl, ⟨z_lo _, z_hi _⟩, ht⟩) (fun _ h => absurd h List.not_mem_nil) dX5_ordersBehind_15
  · have q2 : p3.toInt < ia0_1.toInt := z_nle rfl rfl hc
    refine lv_iload_n hx hb dX5_ordersBehind_8 rfl (lv_at hl 3 rfl) ?_
    refine lv_bipush (v := 7) hx hb dX5_ordersBehind_9 (by decide) ?_
    refine lv_icmp_lt (tgt := 16) hx hb dX5_ordersBehind_11 (by decide) (fun hc => ?_) (fun hc => ?_)
    · have q3 : p3.toInt < 7 := z_lt rfl (by decide) hc
      refine lv_iconst (v := 0) hx hb dX5_ordersBehind_16 (by decide) ?_
      refine lv_istore (lv' := [(4, .int 0), (0, .ref ha0), (1, .int p1), (2, .int p2), (3, .int p3)]) hx hb dX5_ordersBehind_17 hl (by decide) rfl (fun ls hl => ?_)
      refine lv_aload_n hx hb dX5_ordersBehind_19 rfl (lv_at hl 1 rfl) ?_
      refine lv_iload_n hx hb dX5_ordersBehind_20 rfl (lv_at hl 2 rfl) ?_
      refine lv_iload_n hx hb dX5_ordersBehind_21 rfl (lv_at hl 3 rfl) ?_
      refine z_rdi (va_runV (As := [.int p1, .int p2]) (rest := []) ⟨hx, hb, hml, hown, hts⟩ (rX5_freeBehind l dC dI cI cQ ha0 ha0_0 fa0_0 ia0_1 hia0_1l hia0_1h p1 p2) (cwV 2 hts gv_X5_ordersBehind_X5_freeBehind_55 rfl rfl rfl (by decide +kernel) ⟨Nat.le_of_ble_eq_true rfl, Nat.le_of_ble_eq_true rfl⟩) ⟨z_blindR, va_recv hK hP (ci := 5) (q0 := 1) rfl rfl, z_preR hZ hP [0, 1] rfl⟩ rfl rfl hl.1 rfl (lv_room (Nat.le_of_ble_eq_true rfl)) dX5_ordersBehind_22 ⟨Nat.le_of_ble_eq_true rfl, Nat.le_of_ble_eq_true rfl⟩) (fun y4 hy4 => ?_)
      obtain ⟨hy4_0, hy4_1⟩ := hy4
      refine lv_istore (lv' := [(5, .int y4), (4, .int 0), (0, .ref ha0), (1, .int p1), (2, .int p2), (3, .int p3)]) hx hb dX5_ordersBehind_25 hl (by decide) rfl (fun ls hl => ?_)
      refine lv_iconst (v := 1) hx hb dX5_ordersBehind_27 (by decide) ?_
      refine lv_istore (lv' := [(6, .int 1), (5, .int y4), (4, .int 0), (0, .ref ha0), (1, .int p1), (2, .int p2), (3, .int p3)]) hx hb dX5_ordersBehind_28 hl (by decide) rfl (fun ls hl => ?_)
      have hL103 : ∀ (n : Nat) (v5 : Int32) (v6 : Int32) (ls : Array Slot), 1 ≤ v5.toInt → v5.toInt ≤ 12 → (12 - v5.toInt).toNat < n → lv_has ls 7 [(6, .int v5), (5, .int y4), (4, .int v6), (0, .ref ha0), (1, .int p1), (2, .int p2), (3, .int p3)] → W p l e (headSpec vsX5_ordersBehind ({ frames := 5, cells := 0, slots := 0, locals := 130 })).room s m ([.ref ha0, .int p1, .int p2, .int p3] : List Value).toArray below meth c s.heap [] 0 0 (MQ below (vp_Si (fun r => (-2147483648) ≤ r.toInt ∧ r.toInt ≤ 2147483647)) ([.ref ha0, .int p1, .int p2, .int p3] : List Value).toArray s 0 0 (fun _ => False)) (F0 m 30 ls []) := by
        intro n
        induction n with
        | zero =>
          intro v5 v6 ls hi104_0 hi104_1 hi104_m hl
          exact absurd hi104_m (Nat.not_lt_zero _)
        | succ n ih =>
          intro v5 v6 ls hi104_0 hi104_1 hi104_m hl
          have ih105 := ih
          refine lv_iload hx hb dX5_ordersBehind_30 (lv_at hl 0 rfl) ?_
          refine lv_aload_n hx hb dX5_ordersBehind_32 rfl (lv_at hl 3 rfl) ?_
          refine va_get (D := (dC, dI)) (ci := 5) (v := .int ia0_1) (C := RX5) (T := TX5) (N := 2) hx hb hts in_X5_ordersBehind_X5 hown hK hP 1 rfl rfl 1 (by decide) (hts (.fieldLink RX5 15 "EachOnHisCue$Net" "lines" "I") (by decide +kernel)) (fun _ h9 => h9) rfl dX5_ordersBehind_33 ?_
          refine lv_icmp_ge (tgt := 76) hx hb dX5_ordersBehind_36 (by decide) (fun hc => ?_) (fun hc => ?_)
          · have q106 : ia0_1.toInt ≤ v5.toInt := z_le rfl rfl hc
            refine lv_iload hx hb dX5_ordersBehind_76 (lv_at hl 2 rfl) ?_
            exact W.iret (v := v6) hx hb hr (fun t ht hW => ⟨v6, rfl, ⟨z_lo _, z_hi _⟩, ht⟩) (fun _ h => absurd h List.not_mem_nil) dX5_ordersBehind_78
          · have q107 : v5.toInt < ia0_1.toInt := z_nle rfl rfl hc
            refine lv_iload hx hb dX5_ordersBehind_39 (lv_at hl 1 rfl) ?_
            refine lv_iload hx hb dX5_ordersBehind_41 (lv_at hl 0 rfl) ?_
            refine z_rdi (va_runSN (As := [.int y4, .int v5]) (rest := []) ⟨hx, hb, hml, hown, hts⟩ (rX11_bitAt l dC dI cI cQ y4 v5) ⟨va_cnB (host := "EachOnHisCue") 2 hts gv_X5_ordersBehind_X11_bitAt_40 rfl rfl rfl (hN.2.2.2.2.2.2.2.2.2.1) (hts (.initialized RX11) (by decide +kernel)) (by decide +kernel) ⟨Nat.le_of_ble_eq_true rfl, Nat.le_of_ble_eq_true rfl⟩, hts (.static yX11_bitAt) (by decide +kernel), trivial⟩ ⟨z_blindR, z_preR hZ hP [] rfl⟩ rfl rfl hl.1 rfl (lv_room (Nat.le_of_ble_eq_true rfl)) dX5_ordersBehind_43 ⟨Nat.le_of_ble_eq_true rfl, Nat.le_of_ble_eq_true rfl⟩) (fun y108 hy108 => ?_)
            obtain ⟨hy108_0, hy108_1, hy108_2⟩ := hy108
            refine lv_iconst (v := 1) hx hb dX5_ordersBehind_46 (by decide) ?_
            refine lv_icmp_ne (tgt := 70) hx hb dX5_ordersBehind_47 (by decide) (fun hc => ?_) (fun hc => ?_)
            · have q109 : y108.toInt ≠ 1 := z_ne rfl (by decide) hc
              obtain ⟨y110, ey110⟩ : ∃ y : Int32, y = v5 + 1 := ⟨_, rfl⟩
              refine lv_iinc (v := y110) (lv' := [(6, .int y110), (5, .int y4), (4, .int v6), (0, .ref ha0), (1, .int p1), (2, .int p2), (3, .int p3)]) hx hb dX5_ordersBehind_70 hl (k := 0) rfl (by rw [ey110]; rfl) (by decide) rfl (fun ls hl => ?_)
              have hy110 : y110.toInt = v5.toInt + 1 := by rw [ey110]; exact z_add rfl (by decide) (by omega) (by omega)
              refine lv_goto (tgt := 30) hx hb dX5_ordersBehind_73 (by decide) ?_
              exact ih105 y110 v6 ls (by first | decide | omega) (by first | decide | omega) (by omega) (lv_sub hl [0, 1, 2, 3, 4, 5, 6] rfl)
            · have q111 : y108.toInt = 1 := z_eq rfl (by decide) hc
              refine lv_iload hx hb dX5_ordersBehind_50 (lv_at hl 2 rfl) ?_
              refine lv_aload_n hx hb dX5_ordersBehind_52 rfl (lv_at hl 3 rfl) ?_
              refine lv_iload hx hb dX5_ordersBehind_53 (lv_at hl 0 rfl) ?_
              refine lv_iload_n hx hb dX5_ordersBehind_55 rfl (lv_at hl 5 rfl) ?_
              refine lv_iconst (v := 1) hx hb dX5_ordersBehind_56 (by decide) ?_
              refine lv_iload hx hb dX5_ordersBehind_57 (lv_at hl 0 rfl) ?_
              refine lv_ishl hx hb dX5_ordersBehind_59 ?_
              refine lv_topi (fun y112 ey112 => ?_)
              refine lv_ior hx hb dX5_ordersBehind_60 ?_
              refine lv_topi (fun y113 ey113 => ?_)
              refine lv_iload_n hx hb dX5_ordersBehind_61 rfl (lv_at hl 6 rfl) ?_
              refine lv_iconst (v := 1) hx hb dX5_ordersBehind_62 (by decide) ?_
              refine lv_iadd hx hb dX5_ordersBehind_63 ?_
              refine lv_topi (fun y114 ey114 => ?_)
              have hy114 : y114.toInt = p3.toInt + 1 := by rw [ey114]; exact z_add rfl (by decide) (by omega) (by omega)
              refine z_rdi (va_runS (As := [.ref ha0, .int v5, .int y113, .int y114]) (rest := [.int v6]) ⟨hx, hb, hml, hown, hts⟩ (rX5_ordersBehind_d3 l dC dI cI cQ ha0 ha0_0 fa0_0 ia0_1 hia0_1l hia0_1h v5 y113 y114 (by first | decide | omega) (by first | decide | omega)) (va_cwS 4 hts gv_X5_ordersBehind_X5_ordersBehind_51 rfl rfl rfl (by decide +kernel) ⟨Nat.le_of_ble_eq_true rfl, Nat.le_of_ble_eq_true rfl⟩) ⟨z_blindR, z_preR hZ hP [0, 1] rfl⟩ rfl rfl hl.1 rfl (lv_room (Nat.le_of_ble_eq_true rfl)) dX5_ordersBehind_64 ⟨Nat.le_of_ble_eq_true rfl, Nat.le_of_ble_eq_true rfl⟩) (fun y115 hy115 => ?_)
              obtain ⟨hy115_0, hy115_1⟩ := hy115
              refine lv_iadd hx hb dX5_ordersBehind_67 ?_
              refine lv_topi (fun y116 ey116 => ?_)
              refine lv_istore (lv' := [(4, .int y116), (6, .int v5), (5, .int y4), (0, .ref ha0), (1, .int p1), (2, .int p2), (3, .int p3)]) hx hb dX5_ordersBehind_68 hl (by decide) rfl (fun ls hl => ?_)
              obtain ⟨y117, ey117⟩ : ∃ y : Int32, y = v5 + 1 := ⟨_, rfl⟩
              refine lv_iinc (v := y117) (lv' := [(6, .int y117), (4, .int y116), (5, .int y4), (0, .ref ha0), (1, .int p1), (2, .int p2), (3, .int p3)]) hx hb dX5_ordersBehind_70 hl (k := 1) rfl (by rw [ey117]; rfl) (by decide) rfl (fun ls hl => ?_)
              have hy117 : y117.toInt = v5.toInt + 1 := by rw [ey117]; exact z_add rfl (by decide) (by omega) (by omega)
              refine lv_goto (tgt := 30) hx hb dX5_ordersBehind_73 (by decide) ?_
              exact ih105 y117 y116 ls (by first | decide | omega) (by first | decide | omega) (by omega) (lv_sub hl [0, 2, 1, 3, 4, 5, 6] rfl)
      exact hL103 ((12 - (1 : Int32).toInt).toNat + 1) 1 0 ls (by decide) (by decide) (by omega) hl
    · have q118 : 7 ≤ p3.toInt := z_nlt rfl (by decide) hc
      refine lv_iconst (v := 1) hx hb dX5_ordersBehind_14 (by decide) ?_
      exact W.iret (v := 1) hx hb hr (fun t ht hW => ⟨1, rfl, ⟨z_lo _, z_hi _⟩, ht⟩) (fun _ h => absurd h List.not_mem_nil) dX5_ordersBehind_15
set_option maxHeartbeats 4000000 in
set_option maxRecDepth 100000 in
theorem rX5_ordersBehind_d1 (l : Launch) (dC : Nat → ClassId) (dI : Nat → Nat → Nat) (cI cQ : ClassId) (ha0 ha0_0 : Nat) (fa0_0 : Nat → Int32) (ia0_1 : Int32) (hia0_1l : 0 ≤ ia0_1.toInt) (hia0_1h : ia0_1.toInt ≤ 12) (p1 : Int32) (p2 : Int32) (p3 : Int32) (hp3l : 1 ≤ p3.toInt) (hp3h : p3.toInt ≤ 100) : Met l yX5_ordersBehind vsX5_ordersBehind ({ frames := 6, cells := 0, slots := 0, locals := 156 }) (va_Pc [.ref ha0, .int p1, .int p2, .int p3] (zRB dC dI cI cQ [(ha0_0, .inl (cI, 12, .inl fa0_0)), (ha0, .inr (5, [.ref ha0_0, .int ia0_1]))])) (vp_Si (fun r => (-2147483648) ≤ r.toInt ∧ r.toInt ≤ 2147483647)) 0 0 (fun _ => False) := by
  refine Met.ofW (cc := cX5_ordersBehind) (maxL := 7) (ret := (some .int)) (by decide) rfl ?_
  intro p e s m args below meth c s₁ B hml hv
  obtain ⟨rfl, hP, hZ⟩ := hv
  obtain ⟨hK, hAO, hN⟩ := id hZ
  have hx := B.exec
  have hb := B.bytes
  have hr := B.returns
  have hts := atoms_spec (ws := vsX5_ordersBehind) B.pre
  have hown : s.vm.findClass RX5 = some m.cls := findClass_of_methodNamed B.named
  have hlocks := B.notSynchronized
  have hp1l := z_lo p1
  have hp1h := z_hi p1
  have hp2l := z_lo p2
  have hp2h := z_hi p2
  have hl := lv_entry ([.ref ha0, .int p1, .int p2, .int p3]) (n := 7) (Nat.le_of_ble_eq_true rfl)
  rw [lg_entry_eq]
  generalize (lg_sl ([.ref ha0, .int p1, .int p2, .int p3]) ++ List.replicate (7 - (lg_sl ([.ref ha0, .int p1, .int p2, .int p3])).length) Slot.unset).toArray = ls at hl ⊢
  have hl : lv_has ls 7 [(0, .ref ha0), (1, .int p1), (2, .int p2), (3, .int p3)] := hl
  refine lv_iload_n hx hb dX5_ordersBehind_0 rfl (lv_at hl 3 rfl) ?_
  refine lv_aload_n hx hb dX5_ordersBehind_1 rfl (lv_at hl 0 rfl) ?_
  refine va_get (D := (dC, dI)) (ci := 5) (v := .int ia0_1) (C := RX5) (T := TX5) (N := 2) hx hb hts in_X5_ordersBehind_X5 hown hK hP 1 rfl rfl 1 (by decide) (hts (.fieldLink RX5 15 "EachOnHisCue$Net" "lines" "I") (by decide +kernel)) (fun _ h9 => h9) rfl dX5_ordersBehind_2 ?_
  refine lv_icmp_ge (tgt := 14) hx hb dX5_ordersBehind_5 (by decide) (fun hc => ?_) (fun hc => ?_)
  · have q1 : ia0_1.toInt ≤ p3.toInt := z_le rfl rfl hc
    refine lv_iconst (v := 1) hx hb dX5_ordersBehind_14 (by decide) ?_
    exact W.iret (v := 1) hx hb hr (fun t ht hW => ⟨1, rfl, ⟨z_lo _, z_hi _⟩, ht⟩) (fun _ h => absurd h List.not_mem_nil) dX5_ordersBehind_15
  · have q2 : p3.toInt < ia0_1.toInt := z_nle rfl rfl hc
    refine lv_iload_n hx hb dX5_ordersBehind_8 rfl (lv_at hl 3 rfl) ?_
    refine lv_bipush (v := 7) hx hb dX5_ordersBehind_9 (by decide) ?_
    refine lv_icmp_lt (tgt := 16) hx hb dX5_ordersBehind_11 (by decide) (fun hc => ?_) (fun hc => ?_)
    · have q3 : p3.toInt < 7 := z_lt rfl (by decide) hc
      refine lv_iconst (v := 0) hx hb dX5_ordersBehind_16 (by decide) ?_
      refine lv_istore (lv' := [(4, .int 0), (0, .ref ha0), (1, .int p1), (2, .int p2), (3, .int p3)]) hx hb dX5_ordersBehind_17 hl (by decide) rfl (fun ls hl => ?_)
      refine lv_aload_n hx hb dX5_ordersBehind_19 rfl (lv_at hl 1 rfl) ?_
      refine lv_iload_n hx hb dX5_ordersBehind_20 rfl (lv_at hl 2 rfl) ?_
      refine lv_iload_n hx hb dX5_ordersBehind_21 rfl (lv_at hl 3 rfl) ?_
      refine z_rdi (va_runV (As := [.int p1, .int p2]) (rest := []) ⟨hx, hb, hml, hown, hts⟩ (rX5_freeBehind l dC dI cI cQ ha0 ha0_0 fa0_0 ia0_1 hia0_1l hia0_1h p1 p2) (cwV 2 hts gv_X5_ordersBehind_X5_freeBehind_55 rfl rfl rfl (by decide +kernel) ⟨Nat.le_of_ble_eq_true rfl, Nat.le_of_ble_eq_true rfl⟩) ⟨z_blindR, va_recv hK hP (ci := 5) (q0 := 1) rfl rfl, z_preR hZ hP [0, 1] rfl⟩ rfl rfl hl.1 rfl (lv_room (Nat.le_of_ble_eq_true rfl)) dX5_ordersBehind_22 ⟨Nat.le_of_ble_eq_true rfl, Nat.le_of_ble_eq_true rfl⟩) (fun y4 hy4 => ?_)
      obtain ⟨hy4_0, hy4_1⟩ := hy4
      refine lv_istore (lv' := [(5, .int y4), (4, .int 0), (0, .ref ha0), (1, .int p1), (2, .int p2), (3, .int p3)]) hx hb dX5_ordersBehind_25 hl (by decide) rfl (fun ls hl => ?_)
      refine lv_iconst (v := 1) hx hb dX5_ordersBehind_27 (by decide) ?_
      refine lv_istore (lv' := [(6, .int 1), (5, .int y4), (4, .int 0), (0, .ref ha0), (1, .int p1), (2, .int p2), (3, .int p3)]) hx hb dX5_ordersBehind_28 hl (by decide) rfl (fun ls hl => ?_)
      have hL103 : ∀ (n : Nat) (v5 : Int32) (v6 : Int32) (ls : Array Slot), 1 ≤ v5.toInt → v5.toInt ≤ 12 → (12 - v5.toInt).toNat < n → lv_has ls 7 [(6, .int v5), (5, .int y4), (4, .int v6), (0, .ref ha0), (1, .int p1), (2, .int p2), (3, .int p3)] → W p l e (headSpec vsX5_ordersBehind ({ frames := 6, cells := 0, slots := 0, locals := 156 })).room s m ([.ref ha0, .int p1, .int p2, .int p3] : List Value).toArray below meth c s.heap [] 0 0 (MQ below (vp_Si (fun r => (-2147483648) ≤ r.toInt ∧ r.toInt ≤ 2147483647)) ([.ref ha0, .int p1, .int p2, .int p3] : List Value).toArray s 0 0 (fun _ => False)) (F0 m 30 ls []) := by
        intro n
        induction n with
        | zero =>
          intro v5 v6 ls hi104_0 hi104_1 hi104_m hl
          exact absurd hi104_m (Nat.not_lt_zero _)
        | succ n ih =>
          intro v5 v6 ls hi104_0 hi104_1 hi104_m hl
          have ih105 := ih
          refine lv_iload hx hb dX5_ordersBehind_30 (lv_at hl 0 rfl) ?_
          refine lv_aload_n hx hb dX5_ordersBehind_32 rfl (lv_at hl 3 rfl) ?_
          refine va_get (D := (dC, dI)) (ci := 5) (v := .int ia0_1) (C := RX5) (T := TX5) (N := 2) hx hb hts in_X5_ordersBehind_X5 hown hK hP 1 rfl rfl 1 (by decide) (hts (.fieldLink RX5 15 "EachOnHisCue$Net" "lines" "I") (by decide +kernel)) (fun _ h9 => h9) rfl dX5_ordersBehind_33 ?_
          refine lv_icmp_ge (tgt := 76) hx hb dX5_ordersBehind_36 (by decide) (fun hc => ?_) (fun hc => ?_)
          · have q106 : ia0_1.toInt ≤ v5.toInt := z_le rfl rfl hc
            refine lv_iload hx hb dX5_ordersBehind_76 (lv_at hl 2 rfl) ?_
            exact W.iret (v := v6) hx hb hr (fun t ht hW => ⟨v6, rfl, ⟨z_lo _, z_hi _⟩, ht⟩) (fun _ h => absurd h List.not_mem_nil) dX5_ordersBehind_78
          · have q107 : v5.toInt < ia0_1.toInt := z_nle rfl rfl hc
            refine lv_iload hx hb dX5_ordersBehind_39 (lv_at hl 1 rfl) ?_
            refine lv_iload hx hb dX5_ordersBehind_41 (lv_at hl 0 rfl) ?_
            refine z_rdi (va_runSN (As := [.int y4, .int v5]) (rest := []) ⟨hx, hb, hml, hown, hts⟩ (rX11_bitAt l dC dI cI cQ y4 v5) ⟨va_cnB (host := "EachOnHisCue") 2 hts gv_X5_ordersBehind_X11_bitAt_40 rfl rfl rfl (hN.2.2.2.2.2.2.2.2.2.1) (hts (.initialized RX11) (by decide +kernel)) (by decide +kernel) ⟨Nat.le_of_ble_eq_true rfl, Nat.le_of_ble_eq_true rfl⟩, hts (.static yX11_bitAt) (by decide +kernel), trivial⟩ ⟨z_blindR, z_preR hZ hP [] rfl⟩ rfl rfl hl.1 rfl (lv_room (Nat.le_of_ble_eq_true rfl)) dX5_ordersBehind_43 ⟨Nat.le_of_ble_eq_true rfl, Nat.le_of_ble_eq_true rfl⟩) (fun y108 hy108 => ?_)
            obtain ⟨hy108_0, hy108_1, hy108_2⟩ := hy108
            refine lv_iconst (v := 1) hx hb dX5_ordersBehind_46 (by decide) ?_
            refine lv_icmp_ne (tgt := 70) hx hb dX5_ordersBehind_47 (by decide) (fun hc => ?_) (fun hc => ?_)
            · have q109 : y108.toInt ≠ 1 := z_ne rfl (by decide) hc
              obtain ⟨y110, ey110⟩ : ∃ y : Int32, y = v5 + 1 := ⟨_, rfl⟩
              refine lv_iinc (v := y110) (lv' := [(6, .int y110), (5, .int y4), (4, .int v6), (0, .ref ha0), (1, .int p1), (2, .int p2), (3, .int p3)]) hx hb dX5_ordersBehind_70 hl (k := 0) rfl (by rw [ey110]; rfl) (by decide) rfl (fun ls hl => ?_)
              have hy110 : y110.toInt = v5.toInt + 1 := by rw [ey110]; exact z_add rfl (by decide) (by omega) (by omega)
              refine lv_goto (tgt := 30) hx hb dX5_ordersBehind_73 (by decide) ?_
              exact ih105 y110 v6 ls (by first | decide | omega) (by first | decide | omega) (by omega) (lv_sub hl [0, 1, 2, 3, 4, 5, 6] rfl)
            · have q111 : y108.toInt = 1 := z_eq rfl (by decide) hc
              refine lv_iload hx hb dX5_ordersBehind_50 (lv_at hl 2 rfl) ?_
              refine lv_aload_n hx hb dX5_ordersBehind_52 rfl (lv_at hl 3 rfl) ?_
              refine lv_iload hx hb dX5_ordersBehind_53 (lv_at hl 0 rfl) ?_
              refine lv_iload_n hx hb dX5_ordersBehind_55 rfl (lv_at hl 5 rfl) ?_
              refine lv_iconst (v := 1) hx hb dX5_ordersBehind_56 (by decide) ?_
              refine lv_iload hx hb dX5_ordersBehind_57 (lv_at hl 0 rfl) ?_
              refine lv_ishl hx hb dX5_ordersBehind_59 ?_
              refine lv_topi (fun y112 ey112 => ?_)
              refine lv_ior hx hb dX5_ordersBehind_60 ?_
              refine lv_topi (fun y113 ey113 => ?_)
              refine lv_iload_n hx hb dX5_ordersBehind_61 rfl (lv_at hl 6 rfl) ?_
              refine lv_iconst (v := 1) hx hb dX5_ordersBehind_62 (by decide) ?_
              refine lv_iadd hx hb dX5_ordersBehind_63 ?_
              refine lv_topi (fun y114 ey114 => ?_)
              have hy114 : y114.toInt = p3.toInt + 1 := by rw [ey114]; exact z_add rfl (by decide) (by omega) (by omega)
              refine z_rdi (va_runS (As := [.ref ha0, .int v5, .int y113, .int y114]) (rest := [.int v6]) ⟨hx, hb, hml, hown, hts⟩ (rX5_ordersBehind_d2 l dC dI cI cQ ha0 ha0_0 fa0_0 ia0_1 hia0_1l hia0_1h v5 y113 y114 (by first | decide | omega) (by first | decide | omega)) (va_cwS 4 hts gv_X5_ordersBehind_X5_ordersBehind_51 rfl rfl rfl (by decide +kernel) ⟨Nat.le_of_ble_eq_true rfl, Nat.le_of_ble_eq_true rfl⟩) ⟨z_blindR, z_preR hZ hP [0, 1] rfl⟩ rfl rfl hl.1 rfl (lv_room (Nat.le_of_ble_eq_true rfl)) dX5_ordersBehind_64 ⟨Nat.le_of_ble_eq_true rfl, Nat.le_of_ble_eq_true rfl⟩) (fun y115 hy115 => ?_)
              obtain ⟨hy115_0, hy115_1⟩ := hy115
              refine lv_iadd hx hb dX5_ordersBehind_67 ?_
              refine lv_topi (fun y116 ey116 => ?_)
              refine lv_istore (lv' := [(4, .int y116), (6, .int v5), (5, .int y4), (0, .ref ha0), (1, .int p1), (2, .int p2), (3, .int p3)]) hx hb dX5_ordersBehind_68 hl (by decide) rfl (fun ls hl => ?_)
              obtain ⟨y117, ey117⟩ : ∃ y : Int32, y = v5 + 1 := ⟨_, rfl⟩
              refine lv_iinc (v := y117) (lv' := [(6, .int y117), (4, .int y116), (5, .int y4), (0, .ref ha0), (1, .int p1), (2, .int p2), (3, .int p3)]) hx hb dX5_ordersBehind_70 hl (k := 1) rfl (by rw [ey117]; rfl) (by decide) rfl (fun ls hl => ?_)
              have hy117 : y117.toInt = v5.toInt + 1 := by rw [ey117]; exact z_add rfl (by decide) (by omega) (by omega)
              refine lv_goto (tgt := 30) hx hb dX5_ordersBehind_73 (by decide) ?_
              exact ih105 y117 y116 ls (by first | decide | omega) (by first | decide | omega) (by omega) (lv_sub hl [0, 2, 1, 3, 4, 5, 6] rfl)
      exact hL103 ((12 - (1 : Int32).toInt).toNat + 1) 1 0 ls (by decide) (by decide) (by omega) hl
    · have q118 : 7 ≤ p3.toInt := z_nlt rfl (by decide) hc
      refine lv_iconst (v := 1) hx hb dX5_ordersBehind_14 (by decide) ?_
      exact W.iret (v := 1) hx hb hr (fun t ht hW => ⟨1, rfl, ⟨z_lo _, z_hi _⟩, ht⟩) (fun _ h => absurd h List.not_mem_nil) dX5_ordersBehind_15
set_option maxRecDepth 20000 in
theorem edX5_orders_0 : decode cX5_orders 0 = .ok (.aload_n 0, 1) ∧ decode cX5_orders 1 = .ok (.iconst 0, 1) ∧ decode cX5_orders 2 = .ok (.iconst 1, 1) ∧ decode cX5_orders 3 = .ok (.iconst 1, 1) ∧ decode cX5_orders 4 = .ok (.invokestatic 51, 3) ∧ decode cX5_orders 7 = .ok (.ireturn, 1) := by decide +kernel
theorem dX5_orders_0 : decode cX5_orders 0 = .ok (.aload_n 0, 1) := edX5_orders_0.1
theorem dX5_orders_1 : decode cX5_orders 1 = .ok (.iconst 0, 1) := edX5_orders_0.2.1
theorem dX5_orders_2 : decode cX5_orders 2 = .ok (.iconst 1, 1) := edX5_orders_0.2.2.1
theorem dX5_orders_3 : decode cX5_orders 3 = .ok (.iconst 1, 1) := edX5_orders_0.2.2.2.1
theorem dX5_orders_4 : decode cX5_orders 4 = .ok (.invokestatic 51, 3) := edX5_orders_0.2.2.2.2.1
theorem dX5_orders_7 : decode cX5_orders 7 = .ok (.ireturn, 1) := edX5_orders_0.2.2.2.2.2
noncomputable def voX5_orders : List Cond := [.methodLink RX5 51 yX5_ordersBehind, .static yX5_ordersBehind, .initialized RX5]
noncomputable def vsX5_orders : List Cond := .code yX5_orders cX5_orders 1 (some .int) :: (voX5_orders ++ (vsX5_ordersBehind))
theorem zgX5_orders : zGd vsX5_orders := z_gdC rfl (z_gdA (z_gdO (by decide +kernel) : zGd voX5_orders) (zgX5_ordersBehind))
theorem gw_X5_orders_X5_ordersBehind : GoodIn vsX5_orders vsX5_ordersBehind := z_gdI (fun _ h => List.mem_cons_of_mem _ (List.mem_append_right _ (h))) zgX5_ordersBehind
set_option maxRecDepth 20000 in
theorem gv_X5_orders_X5_ordersBehind_51 : GoodIn vsX5_orders (va_wsS RX5 51 yX5_ordersBehind vsX5_ordersBehind) := goodIn_app (goodIn_of _ (by decide +kernel)) gw_X5_orders_X5_ordersBehind
set_option maxHeartbeats 4000000 in
set_option maxRecDepth 100000 in
theorem rX5_orders (l : Launch) (dC : Nat → ClassId) (dI : Nat → Nat → Nat) (cI cQ : ClassId) (ha0 ha0_0 : Nat) (fa0_0 : Nat → Int32) (ia0_1 : Int32) (hia0_1l : 0 ≤ ia0_1.toInt) (hia0_1h : ia0_1.toInt ≤ 12) : Met l yX5_orders vsX5_orders ({ frames := 7, cells := 0, slots := 0, locals := 182 }) (va_Pc [.ref ha0] (zRB dC dI cI cQ [(ha0_0, .inl (cI, 12, .inl fa0_0)), (ha0, .inr (5, [.ref ha0_0, .int ia0_1]))])) (vp_Si (fun r => (-2147483648) ≤ r.toInt ∧ r.toInt ≤ 2147483647)) 0 0 (fun _ => False) := by
  refine Met.ofW (cc := cX5_orders) (maxL := 1) (ret := (some .int)) (by decide) rfl ?_
  intro p e s m args below meth c s₁ B hml hv
  obtain ⟨rfl, hP, hZ⟩ := hv
  obtain ⟨hK, hAO, hN⟩ := id hZ
  have hx := B.exec
  have hb := B.bytes
  have hr := B.returns
  have hts := atoms_spec (ws := vsX5_orders) B.pre
  have hown : s.vm.findClass RX5 = some m.cls := findClass_of_methodNamed B.named
  have hlocks := B.notSynchronized
  have hl := lv_entry ([.ref ha0]) (n := 1) (Nat.le_of_ble_eq_true rfl)
  rw [lg_entry_eq]
  generalize (lg_sl ([.ref ha0]) ++ List.replicate (1 - (lg_sl ([.ref ha0])).length) Slot.unset).toArray = ls at hl ⊢
  have hl : lv_has ls 1 [(0, .ref ha0)] := hl
  refine lv_aload_n hx hb dX5_orders_0 rfl (lv_at hl 0 rfl) ?_
  refine lv_iconst (v := 0) hx hb dX5_orders_1 (by decide) ?_
  refine lv_iconst (v := 1) hx hb dX5_orders_2 (by decide) ?_
  refine lv_iconst (v := 1) hx hb dX5_orders_3 (by decide) ?_
  refine z_rdi (va_runS (As := [.ref ha0, .int 0, .int 1, .int 1]) (rest := []) ⟨hx, hb, hml, hown, hts⟩ (rX5_ordersBehind_d1 l dC dI cI cQ ha0 ha0_0 fa0_0 ia0_1 hia0_1l hia0_1h 0 1 1 (by decide) (by decide)) (va_cwS 4 hts gv_X5_orders_X5_ordersBehind_51 rfl rfl rfl (by decide +kernel) ⟨Nat.le_of_ble_eq_true rfl, Nat.le_of_ble_eq_true rfl⟩) ⟨z_blindR, z_preR hZ hP [0, 1] rfl⟩ rfl rfl hl.1 rfl (lv_room (Nat.le_of_ble_eq_true rfl)) dX5_orders_4 ⟨Nat.le_of_ble_eq_true rfl, Nat.le_of_ble_eq_true rfl⟩) (fun y1 hy1 => ?_)
  obtain ⟨hy1_0, hy1_1⟩ := hy1
  exact W.iret (v := y1) hx hb hr (fun t ht hW => ⟨y1, rfl, ⟨z_lo _, z_hi _⟩, ht⟩) (fun _ h => absurd h List.not_mem_nil) dX5_orders_7
set_option maxRecDepth 20000 in
theorem edX5_lineOfOrder_0 : decode cX5_lineOfOrder 0 = .ok (.iconst 0, 1) ∧ decode cX5_lineOfOrder 1 = .ok (.istore_n 3, 1) ∧ decode cX5_lineOfOrder 2 = .ok (.iconst 1, 1) ∧ decode cX5_lineOfOrder 3 = .ok (.istore 4, 2) ∧ decode cX5_lineOfOrder 5 = .ok (.iload_n 1, 1) ∧ decode cX5_lineOfOrder 6 = .ok (.istore 5, 2) ∧ decode cX5_lineOfOrder 8 = .ok (.iconst 1, 1) ∧ decode cX5_lineOfOrder 9 = .ok (.istore 6, 2) ∧ decode cX5_lineOfOrder 11 = .ok (.iload 6, 2) ∧ decode cX5_lineOfOrder 13 = .ok (.iload_n 2, 1) ∧ decode cX5_lineOfOrder 14 = .ok (.if_icmp .gt 124, 3) ∧ decode cX5_lineOfOrder 17 = .ok (.aload_n 0, 1) := by decide +kernel
theorem dX5_lineOfOrder_0 : decode cX5_lineOfOrder 0 = .ok (.iconst 0, 1) := edX5_lineOfOrder_0.1
theorem dX5_lineOfOrder_1 : decode cX5_lineOfOrder 1 = .ok (.istore_n 3, 1) := edX5_lineOfOrder_0.2.1
theorem dX5_lineOfOrder_2 : decode cX5_lineOfOrder 2 = .ok (.iconst 1, 1) := edX5_lineOfOrder_0.2.2.1
theorem dX5_lineOfOrder_3 : decode cX5_lineOfOrder 3 = .ok (.istore 4, 2) := edX5_lineOfOrder_0.2.2.2.1
theorem dX5_lineOfOrder_5 : decode cX5_lineOfOrder 5 = .ok (.iload_n 1, 1) := edX5_lineOfOrder_0.2.2.2.2.1
theorem dX5_lineOfOrder_6 : decode cX5_lineOfOrder 6 = .ok (.istore 5, 2) := edX5_lineOfOrder_0.2.2.2.2.2.1
theorem dX5_lineOfOrder_8 : decode cX5_lineOfOrder 8 = .ok (.iconst 1, 1) := edX5_lineOfOrder_0.2.2.2.2.2.2.1
theorem dX5_lineOfOrder_9 : decode cX5_lineOfOrder 9 = .ok (.istore 6, 2) := edX5_lineOfOrder_0.2.2.2.2.2.2.2.1
theorem dX5_lineOfOrder_11 : decode cX5_lineOfOrder 11 = .ok (.iload 6, 2) := edX5_lineOfOrder_0.2.2.2.2.2.2.2.2.1
theorem dX5_lineOfOrder_13 : decode cX5_lineOfOrder 13 = .ok (.iload_n 2, 1) := edX5_lineOfOrder_0.2.2.2.2.2.2.2.2.2.1
theorem dX5_lineOfOrder_14 : decode cX5_lineOfOrder 14 = .ok (.if_icmp .gt 124, 3) := edX5_lineOfOrder_0.2.2.2.2.2.2.2.2.2.2.1
theorem dX5_lineOfOrder_17 : decode cX5_lineOfOrder 17 = .ok (.aload_n 0, 1) := edX5_lineOfOrder_0.2.2.2.2.2.2.2.2.2.2.2
set_option maxRecDepth 20000 in
theorem edX5_lineOfOrder_18 : decode cX5_lineOfOrder 18 = .ok (.iload_n 3, 1) ∧ decode cX5_lineOfOrder 19 = .ok (.iload 4, 2) ∧ decode cX5_lineOfOrder 21 = .ok (.invokevirtual 55, 3) ∧ decode cX5_lineOfOrder 24 = .ok (.istore 7, 2) ∧ decode cX5_lineOfOrder 26 = .ok (.bipush (-9), 2) ∧ decode cX5_lineOfOrder 28 = .ok (.istore 8, 2) ∧ decode cX5_lineOfOrder 30 = .ok (.iconst 1, 1) ∧ decode cX5_lineOfOrder 31 = .ok (.istore 9, 2) ∧ decode cX5_lineOfOrder 33 = .ok (.iload 9, 2) ∧ decode cX5_lineOfOrder 35 = .ok (.aload_n 0, 1) ∧ decode cX5_lineOfOrder 36 = .ok (.getfield 15, 3) ∧ decode cX5_lineOfOrder 39 = .ok (.if_icmp .ge 71, 3) := by decide +kernel
theorem dX5_lineOfOrder_18 : decode cX5_lineOfOrder 18 = .ok (.iload_n 3, 1) := edX5_lineOfOrder_18.1
theorem dX5_lineOfOrder_19 : decode cX5_lineOfOrder 19 = .ok (.iload 4, 2) := edX5_lineOfOrder_18.2.1
theorem dX5_lineOfOrder_21 : decode cX5_lineOfOrder 21 = .ok (.invokevirtual 55, 3) := edX5_lineOfOrder_18.2.2.1
theorem dX5_lineOfOrder_24 : decode cX5_lineOfOrder 24 = .ok (.istore 7, 2) := edX5_lineOfOrder_18.2.2.2.1
theorem dX5_lineOfOrder_26 : decode cX5_lineOfOrder 26 = .ok (.bipush (-9), 2) := edX5_lineOfOrder_18.2.2.2.2.1
theorem dX5_lineOfOrder_28 : decode cX5_lineOfOrder 28 = .ok (.istore 8, 2) := edX5_lineOfOrder_18.2.2.2.2.2.1
theorem dX5_lineOfOrder_30 : decode cX5_lineOfOrder 30 = .ok (.iconst 1, 1) := edX5_lineOfOrder_18.2.2.2.2.2.2.1
theorem dX5_lineOfOrder_31 : decode cX5_lineOfOrder 31 = .ok (.istore 9, 2) := edX5_lineOfOrder_18.2.2.2.2.2.2.2.1
theorem dX5_lineOfOrder_33 : decode cX5_lineOfOrder 33 = .ok (.iload 9, 2) := edX5_lineOfOrder_18.2.2.2.2.2.2.2.2.1
theorem dX5_lineOfOrder_35 : decode cX5_lineOfOrder 35 = .ok (.aload_n 0, 1) := edX5_lineOfOrder_18.2.2.2.2.2.2.2.2.2.1
theorem dX5_lineOfOrder_36 : decode cX5_lineOfOrder 36 = .ok (.getfield 15, 3) := edX5_lineOfOrder_18.2.2.2.2.2.2.2.2.2.2.1
theorem dX5_lineOfOrder_39 : decode cX5_lineOfOrder 39 = .ok (.if_icmp .ge 71, 3) := edX5_lineOfOrder_18.2.2.2.2.2.2.2.2.2.2.2
set_option maxRecDepth 20000 in
theorem edX5_lineOfOrder_42 : decode cX5_lineOfOrder 42 = .ok (.iload 8, 2) ∧ decode cX5_lineOfOrder 44 = .ok (.bipush (-9), 2) ∧ decode cX5_lineOfOrder 46 = .ok (.if_icmp .ne 64, 3) ∧ decode cX5_lineOfOrder 49 = .ok (.iload 7, 2) ∧ decode cX5_lineOfOrder 51 = .ok (.iload 9, 2) ∧ decode cX5_lineOfOrder 53 = .ok (.invokestatic 40, 3) ∧ decode cX5_lineOfOrder 56 = .ok (.iconst 1, 1) ∧ decode cX5_lineOfOrder 57 = .ok (.if_icmp .ne 23, 3) ∧ decode cX5_lineOfOrder 60 = .ok (.aload_n 0, 1) ∧ decode cX5_lineOfOrder 61 = .ok (.iload 9, 2) ∧ decode cX5_lineOfOrder 63 = .ok (.iload 4, 2) ∧ decode cX5_lineOfOrder 65 = .ok (.iconst 1, 1) := by decide +kernel
theorem dX5_lineOfOrder_42 : decode cX5_lineOfOrder 42 = .ok (.iload 8, 2) := edX5_lineOfOrder_42.1
theorem dX5_lineOfOrder_44 : decode cX5_lineOfOrder 44 = .ok (.bipush (-9), 2) := edX5_lineOfOrder_42.2.1
theorem dX5_lineOfOrder_46 : decode cX5_lineOfOrder 46 = .ok (.if_icmp .ne 64, 3) := edX5_lineOfOrder_42.2.2.1
theorem dX5_lineOfOrder_49 : decode cX5_lineOfOrder 49 = .ok (.iload 7, 2) := edX5_lineOfOrder_42.2.2.2.1
theorem dX5_lineOfOrder_51 : decode cX5_lineOfOrder 51 = .ok (.iload 9, 2) := edX5_lineOfOrder_42.2.2.2.2.1
theorem dX5_lineOfOrder_53 : decode cX5_lineOfOrder 53 = .ok (.invokestatic 40, 3) := edX5_lineOfOrder_42.2.2.2.2.2.1
theorem dX5_lineOfOrder_56 : decode cX5_lineOfOrder 56 = .ok (.iconst 1, 1) := edX5_lineOfOrder_42.2.2.2.2.2.2.1
theorem dX5_lineOfOrder_57 : decode cX5_lineOfOrder 57 = .ok (.if_icmp .ne 23, 3) := edX5_lineOfOrder_42.2.2.2.2.2.2.2.1
theorem dX5_lineOfOrder_60 : decode cX5_lineOfOrder 60 = .ok (.aload_n 0, 1) := edX5_lineOfOrder_42.2.2.2.2.2.2.2.2.1
theorem dX5_lineOfOrder_61 : decode cX5_lineOfOrder 61 = .ok (.iload 9, 2) := edX5_lineOfOrder_42.2.2.2.2.2.2.2.2.2.1
theorem dX5_lineOfOrder_63 : decode cX5_lineOfOrder 63 = .ok (.iload 4, 2) := edX5_lineOfOrder_42.2.2.2.2.2.2.2.2.2.2.1
theorem dX5_lineOfOrder_65 : decode cX5_lineOfOrder 65 = .ok (.iconst 1, 1) := edX5_lineOfOrder_42.2.2.2.2.2.2.2.2.2.2.2
set_option maxRecDepth 20000 in
theorem edX5_lineOfOrder_66 : decode cX5_lineOfOrder 66 = .ok (.iload 9, 2) ∧ decode cX5_lineOfOrder 68 = .ok (.ishl, 1) ∧ decode cX5_lineOfOrder 69 = .ok (.ior, 1) ∧ decode cX5_lineOfOrder 70 = .ok (.iload 6, 2) ∧ decode cX5_lineOfOrder 72 = .ok (.iconst 1, 1) ∧ decode cX5_lineOfOrder 73 = .ok (.iadd, 1) ∧ decode cX5_lineOfOrder 74 = .ok (.invokestatic 51, 3) ∧ decode cX5_lineOfOrder 77 = .ok (.goto 4, 3) ∧ decode cX5_lineOfOrder 80 = .ok (.iconst 0, 1) ∧ decode cX5_lineOfOrder 81 = .ok (.istore 10, 2) ∧ decode cX5_lineOfOrder 83 = .ok (.iload 5, 2) ∧ decode cX5_lineOfOrder 85 = .ok (.iload 10, 2) := by decide +kernel
theorem dX5_lineOfOrder_66 : decode cX5_lineOfOrder 66 = .ok (.iload 9, 2) := edX5_lineOfOrder_66.1
theorem dX5_lineOfOrder_68 : decode cX5_lineOfOrder 68 = .ok (.ishl, 1) := edX5_lineOfOrder_66.2.1
theorem dX5_lineOfOrder_69 : decode cX5_lineOfOrder 69 = .ok (.ior, 1) := edX5_lineOfOrder_66.2.2.1
theorem dX5_lineOfOrder_70 : decode cX5_lineOfOrder 70 = .ok (.iload 6, 2) := edX5_lineOfOrder_66.2.2.2.1
theorem dX5_lineOfOrder_72 : decode cX5_lineOfOrder 72 = .ok (.iconst 1, 1) := edX5_lineOfOrder_66.2.2.2.2.1
theorem dX5_lineOfOrder_73 : decode cX5_lineOfOrder 73 = .ok (.iadd, 1) := edX5_lineOfOrder_66.2.2.2.2.2.1
theorem dX5_lineOfOrder_74 : decode cX5_lineOfOrder 74 = .ok (.invokestatic 51, 3) := edX5_lineOfOrder_66.2.2.2.2.2.2.1
theorem dX5_lineOfOrder_77 : decode cX5_lineOfOrder 77 = .ok (.goto 4, 3) := edX5_lineOfOrder_66.2.2.2.2.2.2.2.1
theorem dX5_lineOfOrder_80 : decode cX5_lineOfOrder 80 = .ok (.iconst 0, 1) := edX5_lineOfOrder_66.2.2.2.2.2.2.2.2.1
theorem dX5_lineOfOrder_81 : decode cX5_lineOfOrder 81 = .ok (.istore 10, 2) := edX5_lineOfOrder_66.2.2.2.2.2.2.2.2.2.1
theorem dX5_lineOfOrder_83 : decode cX5_lineOfOrder 83 = .ok (.iload 5, 2) := edX5_lineOfOrder_66.2.2.2.2.2.2.2.2.2.2.1
theorem dX5_lineOfOrder_85 : decode cX5_lineOfOrder 85 = .ok (.iload 10, 2) := edX5_lineOfOrder_66.2.2.2.2.2.2.2.2.2.2.2
set_option maxRecDepth 20000 in
theorem edX5_lineOfOrder_87 : decode cX5_lineOfOrder 87 = .ok (.if_icmp .ge 10, 3) ∧ decode cX5_lineOfOrder 90 = .ok (.iload 9, 2) ∧ decode cX5_lineOfOrder 92 = .ok (.istore 8, 2) ∧ decode cX5_lineOfOrder 94 = .ok (.goto 10, 3) ∧ decode cX5_lineOfOrder 97 = .ok (.iload 5, 2) ∧ decode cX5_lineOfOrder 99 = .ok (.iload 10, 2) ∧ decode cX5_lineOfOrder 101 = .ok (.isub, 1) ∧ decode cX5_lineOfOrder 102 = .ok (.istore 5, 2) ∧ decode cX5_lineOfOrder 104 = .ok (.iinc 9 1, 3) ∧ decode cX5_lineOfOrder 107 = .ok (.goto (-74), 3) ∧ decode cX5_lineOfOrder 110 = .ok (.iload 8, 2) ∧ decode cX5_lineOfOrder 112 = .ok (.bipush (-9), 2) := by decide +kernel
theorem dX5_lineOfOrder_87 : decode cX5_lineOfOrder 87 = .ok (.if_icmp .ge 10, 3) := edX5_lineOfOrder_87.1
theorem dX5_lineOfOrder_90 : decode cX5_lineOfOrder 90 = .ok (.iload 9, 2) := edX5_lineOfOrder_87.2.1
theorem dX5_lineOfOrder_92 : decode cX5_lineOfOrder 92 = .ok (.istore 8, 2) := edX5_lineOfOrder_87.2.2.1
theorem dX5_lineOfOrder_94 : decode cX5_lineOfOrder 94 = .ok (.goto 10, 3) := edX5_lineOfOrder_87.2.2.2.1
theorem dX5_lineOfOrder_97 : decode cX5_lineOfOrder 97 = .ok (.iload 5, 2) := edX5_lineOfOrder_87.2.2.2.2.1
theorem dX5_lineOfOrder_99 : decode cX5_lineOfOrder 99 = .ok (.iload 10, 2) := edX5_lineOfOrder_87.2.2.2.2.2.1
theorem dX5_lineOfOrder_101 : decode cX5_lineOfOrder 101 = .ok (.isub, 1) := edX5_lineOfOrder_87.2.2.2.2.2.2.1
theorem dX5_lineOfOrder_102 : decode cX5_lineOfOrder 102 = .ok (.istore 5, 2) := edX5_lineOfOrder_87.2.2.2.2.2.2.2.1
theorem dX5_lineOfOrder_104 : decode cX5_lineOfOrder 104 = .ok (.iinc 9 1, 3) := edX5_lineOfOrder_87.2.2.2.2.2.2.2.2.1
theorem dX5_lineOfOrder_107 : decode cX5_lineOfOrder 107 = .ok (.goto (-74), 3) := edX5_lineOfOrder_87.2.2.2.2.2.2.2.2.2.1
theorem dX5_lineOfOrder_110 : decode cX5_lineOfOrder 110 = .ok (.iload 8, 2) := edX5_lineOfOrder_87.2.2.2.2.2.2.2.2.2.2.1
theorem dX5_lineOfOrder_112 : decode cX5_lineOfOrder 112 = .ok (.bipush (-9), 2) := edX5_lineOfOrder_87.2.2.2.2.2.2.2.2.2.2.2
set_option maxRecDepth 20000 in
theorem edX5_lineOfOrder_114 : decode cX5_lineOfOrder 114 = .ok (.if_icmp .ne 6, 3) ∧ decode cX5_lineOfOrder 117 = .ok (.bipush (-9), 2) ∧ decode cX5_lineOfOrder 119 = .ok (.ireturn, 1) ∧ decode cX5_lineOfOrder 120 = .ok (.iload 8, 2) ∧ decode cX5_lineOfOrder 122 = .ok (.istore_n 3, 1) ∧ decode cX5_lineOfOrder 123 = .ok (.iload 4, 2) ∧ decode cX5_lineOfOrder 125 = .ok (.iconst 1, 1) ∧ decode cX5_lineOfOrder 126 = .ok (.iload 8, 2) ∧ decode cX5_lineOfOrder 128 = .ok (.ishl, 1) ∧ decode cX5_lineOfOrder 129 = .ok (.ior, 1) ∧ decode cX5_lineOfOrder 130 = .ok (.istore 4, 2) ∧ decode cX5_lineOfOrder 132 = .ok (.iinc 6 1, 3) := by decide +kernel
theorem dX5_lineOfOrder_114 : decode cX5_lineOfOrder 114 = .ok (.if_icmp .ne 6, 3) := edX5_lineOfOrder_114.1
theorem dX5_lineOfOrder_117 : decode cX5_lineOfOrder 117 = .ok (.bipush (-9), 2) := edX5_lineOfOrder_114.2.1
theorem dX5_lineOfOrder_119 : decode cX5_lineOfOrder 119 = .ok (.ireturn, 1) := edX5_lineOfOrder_114.2.2.1
theorem dX5_lineOfOrder_120 : decode cX5_lineOfOrder 120 = .ok (.iload 8, 2) := edX5_lineOfOrder_114.2.2.2.1
theorem dX5_lineOfOrder_122 : decode cX5_lineOfOrder 122 = .ok (.istore_n 3, 1) := edX5_lineOfOrder_114.2.2.2.2.1
theorem dX5_lineOfOrder_123 : decode cX5_lineOfOrder 123 = .ok (.iload 4, 2) := edX5_lineOfOrder_114.2.2.2.2.2.1
theorem dX5_lineOfOrder_125 : decode cX5_lineOfOrder 125 = .ok (.iconst 1, 1) := edX5_lineOfOrder_114.2.2.2.2.2.2.1
theorem dX5_lineOfOrder_126 : decode cX5_lineOfOrder 126 = .ok (.iload 8, 2) := edX5_lineOfOrder_114.2.2.2.2.2.2.2.1
theorem dX5_lineOfOrder_128 : decode cX5_lineOfOrder 128 = .ok (.ishl, 1) := edX5_lineOfOrder_114.2.2.2.2.2.2.2.2.1
theorem dX5_lineOfOrder_129 : decode cX5_lineOfOrder 129 = .ok (.ior, 1) := edX5_lineOfOrder_114.2.2.2.2.2.2.2.2.2.1
theorem dX5_lineOfOrder_130 : decode cX5_lineOfOrder 130 = .ok (.istore 4, 2) := edX5_lineOfOrder_114.2.2.2.2.2.2.2.2.2.2.1
theorem dX5_lineOfOrder_132 : decode cX5_lineOfOrder 132 = .ok (.iinc 6 1, 3) := edX5_lineOfOrder_114.2.2.2.2.2.2.2.2.2.2.2
set_option maxRecDepth 20000 in
theorem edX5_lineOfOrder_135 : decode cX5_lineOfOrder 135 = .ok (.goto (-124), 3) ∧ decode cX5_lineOfOrder 138 = .ok (.iload_n 3, 1) ∧ decode cX5_lineOfOrder 139 = .ok (.ireturn, 1) := by decide +kernel
theorem dX5_lineOfOrder_135 : decode cX5_lineOfOrder 135 = .ok (.goto (-124), 3) := edX5_lineOfOrder_135.1
theorem dX5_lineOfOrder_138 : decode cX5_lineOfOrder 138 = .ok (.iload_n 3, 1) := edX5_lineOfOrder_135.2.1
theorem dX5_lineOfOrder_139 : decode cX5_lineOfOrder 139 = .ok (.ireturn, 1) := edX5_lineOfOrder_135.2.2
noncomputable def voX5_lineOfOrder : List Cond := [.fieldLink RX5 15 "EachOnHisCue$Net" "lines" "I", .initialized RX11, .static yX11_bitAt, .methodLink RX5 55 yX5_freeBehind, .instanceMethod yX5_freeBehind, .selects RX5 yX5_freeBehind yX5_freeBehind, .initialized RX5, .methodLink RX5 51 yX5_ordersBehind, .static yX5_ordersBehind]
noncomputable def vsX5_lineOfOrder : List Cond := .code yX5_lineOfOrder cX5_lineOfOrder 11 (some .int) :: (voX5_lineOfOrder ++ (vsX5_freeBehind ++ (vsX11_bitAt ++ (vsX5_ordersBehind ++ (wsX50)))))
theorem zgX5_lineOfOrder : zGd vsX5_lineOfOrder := z_gdC rfl (z_gdA (z_gdO (by decide +kernel) : zGd voX5_lineOfOrder) (z_gdA zgX5_freeBehind (z_gdA zgX11_bitAt (z_gdA zgX5_ordersBehind (zgX5)))))
theorem in_X5_lineOfOrder_X5 : ∀ w ∈ wsX50, w ∈ vsX5_lineOfOrder := fun _ h => List.mem_cons_of_mem _ (List.mem_append_right _ (List.mem_append_right _ (List.mem_append_right _ (List.mem_append_right _ (h)))))
theorem gw_X5_lineOfOrder_X5_freeBehind : GoodIn vsX5_lineOfOrder vsX5_freeBehind := z_gdI (fun _ h => List.mem_cons_of_mem _ (List.mem_append_right _ (List.mem_append_left _ h))) zgX5_freeBehind
set_option maxRecDepth 20000 in
theorem gv_X5_lineOfOrder_X5_freeBehind_55 : GoodIn vsX5_lineOfOrder (wsV RX5 55 RX5 yX5_freeBehind vsX5_freeBehind) := goodIn_app (goodIn_of _ (by decide +kernel)) gw_X5_lineOfOrder_X5_freeBehind
theorem gw_X5_lineOfOrder_X11_bitAt : GoodIn vsX5_lineOfOrder vsX11_bitAt := z_gdI (fun _ h => List.mem_cons_of_mem _ (List.mem_append_right _ (List.mem_append_right _ (List.mem_append_left _ h)))) zgX11_bitAt
set_option maxRecDepth 20000 in
theorem gv_X5_lineOfOrder_X11_bitAt_40 : GoodIn vsX5_lineOfOrder (vsX11_bitAt) := gw_X5_lineOfOrder_X11_bitAt
theorem gw_X5_lineOfOrder_X5_ordersBehind : GoodIn vsX5_lineOfOrder vsX5_ordersBehind := z_gdI (fun _ h => List.mem_cons_of_mem _ (List.mem_append_right _ (List.mem_append_right _ (List.mem_append_right _ (List.mem_append_left _ h))))) zgX5_ordersBehind
set_option maxRecDepth 20000 in
theorem gv_X5_lineOfOrder_X5_ordersBehind_51 : GoodIn vsX5_lineOfOrder (va_wsS RX5 51 yX5_ordersBehind vsX5_ordersBehind) := goodIn_app (goodIn_of _ (by decide +kernel)) gw_X5_lineOfOrder_X5_ordersBehind
set_option maxHeartbeats 4000000 in
set_option maxRecDepth 100000 in
theorem rX5_lineOfOrder (l : Launch) (dC : Nat → ClassId) (dI : Nat → Nat → Nat) (cI cQ : ClassId) (ha0 ha0_0 : Nat) (fa0_0 : Nat → Int32) (ia0_1 : Int32) (hia0_1l : 0 ≤ ia0_1.toInt) (hia0_1h : ia0_1.toInt ≤ 12) (p1 : Int32) (p2 : Int32) (hp2l : 0 ≤ p2.toInt) (hp2h : p2.toInt ≤ 11) : Met l yX5_lineOfOrder vsX5_lineOfOrder ({ frames := 7, cells := 0, slots := 0, locals := 182 }) (va_Pc [.ref ha0, .int p1, .int p2] (zRB dC dI cI cQ [(ha0_0, .inl (cI, 12, .inl fa0_0)), (ha0, .inr (5, [.ref ha0_0, .int ia0_1]))])) (vp_Si (fun r => (-9) ≤ r.toInt ∧ r.toInt ≤ 11)) 0 0 (fun _ => False) := by
  refine Met.ofW (cc := cX5_lineOfOrder) (maxL := 11) (ret := (some .int)) (by decide) rfl ?_
  intro p e s m args below meth c s₁ B hml hv
  obtain ⟨rfl, hP, hZ⟩ := hv
  obtain ⟨hK, hAO, hN⟩ := id hZ
  have hx := B.exec
  have hb := B.bytes
  have hr := B.returns
  have hts := atoms_spec (ws := vsX5_lineOfOrder) B.pre
  have hown : s.vm.findClass RX5 = some m.cls := findClass_of_methodNamed B.named
  have hlocks := B.notSynchronized
  have hp1l := z_lo p1
  have hp1h := z_hi p1
  have hl := lv_entry ([.ref ha0, .int p1, .int p2]) (n := 11) (Nat.le_of_ble_eq_true rfl)
  rw [lg_entry_eq]
  generalize (lg_sl ([.ref ha0, .int p1, .int p2]) ++ List.replicate (11 - (lg_sl ([.ref ha0, .int p1, .int p2])).length) Slot.unset).toArray = ls at hl ⊢
  have hl : lv_has ls 11 [(0, .ref ha0), (1, .int p1), (2, .int p2)] := hl
  refine lv_iconst (v := 0) hx hb dX5_lineOfOrder_0 (by decide) ?_
  refine lv_istore_n (lv' := [(3, .int 0), (0, .ref ha0), (1, .int p1), (2, .int p2)]) hx hb dX5_lineOfOrder_1 rfl hl (by decide) rfl (fun ls hl => ?_)
  refine lv_iconst (v := 1) hx hb dX5_lineOfOrder_2 (by decide) ?_
  refine lv_istore (lv' := [(4, .int 1), (3, .int 0), (0, .ref ha0), (1, .int p1), (2, .int p2)]) hx hb dX5_lineOfOrder_3 hl (by decide) rfl (fun ls hl => ?_)
  refine lv_iload_n hx hb dX5_lineOfOrder_5 rfl (lv_at hl 3 rfl) ?_
  refine lv_istore (lv' := [(5, .int p1), (4, .int 1), (3, .int 0), (0, .ref ha0), (1, .int p1), (2, .int p2)]) hx hb dX5_lineOfOrder_6 hl (by decide) rfl (fun ls hl => ?_)
  refine lv_iconst (v := 1) hx hb dX5_lineOfOrder_8 (by decide) ?_
  refine lv_istore (lv' := [(6, .int 1), (5, .int p1), (4, .int 1), (3, .int 0), (0, .ref ha0), (1, .int p1), (2, .int p2)]) hx hb dX5_lineOfOrder_9 hl (by decide) rfl (fun ls hl => ?_)
  have hL2221 : ∀ (n : Nat) (v1 : Int32) (v2 : Int32) (v3 : Int32) (v4 : Int32) (ls : Array Slot), 1 ≤ v1.toInt → v1.toInt ≤ 12 → (-8) ≤ v4.toInt → v4.toInt ≤ 11 → (12 - v1.toInt).toNat < n → lv_has ls 11 [(6, .int v1), (5, .int v2), (4, .int v3), (3, .int v4), (0, .ref ha0), (1, .int p1), (2, .int p2)] → W p l e (headSpec vsX5_lineOfOrder ({ frames := 7, cells := 0, slots := 0, locals := 182 })).room s m ([.ref ha0, .int p1, .int p2] : List Value).toArray below meth c s.heap [] 0 0 (MQ below (vp_Si (fun r => (-9) ≤ r.toInt ∧ r.toInt ≤ 11)) ([.ref ha0, .int p1, .int p2] : List Value).toArray s 0 0 (fun _ => False)) (F0 m 11 ls []) := by
    intro n
    induction n with
    | zero =>
      intro v1 v2 v3 v4 ls hi2222_0 hi2222_1 hi2222_2 hi2222_3 hi2222_m hl
      exact absurd hi2222_m (Nat.not_lt_zero _)
    | succ n ih =>
      intro v1 v2 v3 v4 ls hi2222_0 hi2222_1 hi2222_2 hi2222_3 hi2222_m hl
      have ih2223 := ih
      refine lv_iload hx hb dX5_lineOfOrder_11 (lv_at hl 0 rfl) ?_
      refine lv_iload_n hx hb dX5_lineOfOrder_13 rfl (lv_at hl 6 rfl) ?_
      refine lv_icmp_gt (tgt := 138) hx hb dX5_lineOfOrder_14 (by decide) (fun hc => ?_) (fun hc => ?_)
      · have q2224 : p2.toInt < v1.toInt := z_lt rfl rfl hc
        refine lv_iload_n hx hb dX5_lineOfOrder_138 rfl (lv_at hl 3 rfl) ?_
        exact W.iret (v := v4) hx hb hr (fun t ht hW => ⟨v4, rfl, ⟨by first | decide | omega, by first | decide | omega⟩, ht⟩) (fun _ h => absurd h List.not_mem_nil) dX5_lineOfOrder_139
      · have q2225 : v1.toInt ≤ p2.toInt := z_nlt rfl rfl hc
        refine lv_aload_n hx hb dX5_lineOfOrder_17 rfl (lv_at hl 4 rfl) ?_
        refine lv_iload_n hx hb dX5_lineOfOrder_18 rfl (lv_at hl 3 rfl) ?_
        refine lv_iload hx hb dX5_lineOfOrder_19 (lv_at hl 2 rfl) ?_
        refine z_rdi (va_runV (As := [.int v4, .int v3]) (rest := []) ⟨hx, hb, hml, hown, hts⟩ (rX5_freeBehind l dC dI cI cQ ha0 ha0_0 fa0_0 ia0_1 hia0_1l hia0_1h v4 v3) (cwV 2 hts gv_X5_lineOfOrder_X5_freeBehind_55 rfl rfl rfl (by decide +kernel) ⟨Nat.le_of_ble_eq_true rfl, Nat.le_of_ble_eq_true rfl⟩) ⟨z_blindR, va_recv hK hP (ci := 5) (q0 := 1) rfl rfl, z_preR hZ hP [0, 1] rfl⟩ rfl rfl hl.1 rfl (lv_room (Nat.le_of_ble_eq_true rfl)) dX5_lineOfOrder_21 ⟨Nat.le_of_ble_eq_true rfl, Nat.le_of_ble_eq_true rfl⟩) (fun y2226 hy2226 => ?_)
        obtain ⟨hy2226_0, hy2226_1⟩ := hy2226
        refine lv_istore (lv' := [(7, .int y2226), (6, .int v1), (5, .int v2), (4, .int v3), (3, .int v4), (0, .ref ha0), (1, .int p1), (2, .int p2)]) hx hb dX5_lineOfOrder_24 hl (by decide) rfl (fun ls hl => ?_)
        refine lv_bipush (v := (-9)) hx hb dX5_lineOfOrder_26 (by decide) ?_
        refine lv_istore (lv' := [(8, .int (-9)), (7, .int y2226), (6, .int v1), (5, .int v2), (4, .int v3), (3, .int v4), (0, .ref ha0), (1, .int p1), (2, .int p2)]) hx hb dX5_lineOfOrder_28 hl (by decide) rfl (fun ls hl => ?_)
        refine lv_iconst (v := 1) hx hb dX5_lineOfOrder_30 (by decide) ?_
        refine lv_istore (lv' := [(9, .int 1), (8, .int (-9)), (7, .int y2226), (6, .int v1), (5, .int v2), (4, .int v3), (3, .int v4), (0, .ref ha0), (1, .int p1), (2, .int p2)]) hx hb dX5_lineOfOrder_31 hl (by decide) rfl (fun ls hl => ?_)
        have hL2470 : ∀ (n : Nat) (v2227 : Int32) (v2228 : Int32) (v2229 : Int32) (ls : Array Slot), 1 ≤ v2227.toInt → v2227.toInt ≤ 12 → (-9) ≤ v2228.toInt → v2228.toInt ≤ 11 → (12 - v2227.toInt).toNat < n → lv_has ls 11 [(9, .int v2227), (8, .int v2228), (7, .int y2226), (6, .int v1), (5, .int v2229), (4, .int v3), (3, .int v4), (0, .ref ha0), (1, .int p1), (2, .int p2)] → W p l e (headSpec vsX5_lineOfOrder ({ frames := 7, cells := 0, slots := 0, locals := 182 })).room s m ([.ref ha0, .int p1, .int p2] : List Value).toArray below meth c s.heap [] 0 0 (MQ below (vp_Si (fun r => (-9) ≤ r.toInt ∧ r.toInt ≤ 11)) ([.ref ha0, .int p1, .int p2] : List Value).toArray s 0 0 (fun _ => False)) (F0 m 33 ls []) := by
          intro n
          induction n with
          | zero =>
            intro v2227 v2228 v2229 ls hi2471_0 hi2471_1 hi2471_2 hi2471_3 hi2471_m hl
            exact absurd hi2471_m (Nat.not_lt_zero _)
          | succ n ih =>
            intro v2227 v2228 v2229 ls hi2471_0 hi2471_1 hi2471_2 hi2471_3 hi2471_m hl
            have ih2472 := ih
            refine lv_iload hx hb dX5_lineOfOrder_33 (lv_at hl 0 rfl) ?_
            refine lv_aload_n hx hb dX5_lineOfOrder_35 rfl (lv_at hl 7 rfl) ?_
            refine va_get (D := (dC, dI)) (ci := 5) (v := .int ia0_1) (C := RX5) (T := TX5) (N := 2) hx hb hts in_X5_lineOfOrder_X5 hown hK hP 1 rfl rfl 1 (by decide) (hts (.fieldLink RX5 15 "EachOnHisCue$Net" "lines" "I") (by decide +kernel)) (fun _ h9 => h9) rfl dX5_lineOfOrder_36 ?_
            refine lv_icmp_ge (tgt := 110) hx hb dX5_lineOfOrder_39 (by decide) (fun hc => ?_) (fun hc => ?_)
            · have q2473 : ia0_1.toInt ≤ v2227.toInt := z_le rfl rfl hc
              refine lv_iload hx hb dX5_lineOfOrder_110 (lv_at hl 1 rfl) ?_
              refine lv_bipush (v := (-9)) hx hb dX5_lineOfOrder_112 (by decide) ?_
              refine lv_icmp_ne (tgt := 120) hx hb dX5_lineOfOrder_114 (by decide) (fun hc => ?_) (fun hc => ?_)
              · have q2474 : v2228.toInt ≠ (-9) := z_ne rfl (by decide) hc
                refine lv_iload hx hb dX5_lineOfOrder_120 (lv_at hl 1 rfl) ?_
                refine lv_istore_n (lv' := [(3, .int v2228), (9, .int v2227), (8, .int v2228), (7, .int y2226), (6, .int v1), (5, .int v2229), (4, .int v3), (0, .ref ha0), (1, .int p1), (2, .int p2)]) hx hb dX5_lineOfOrder_122 rfl hl (by decide) rfl (fun ls hl => ?_)
                refine lv_iload hx hb dX5_lineOfOrder_123 (lv_at hl 6 rfl) ?_
                refine lv_iconst (v := 1) hx hb dX5_lineOfOrder_125 (by decide) ?_
                refine lv_iload hx hb dX5_lineOfOrder_126 (lv_at hl 2 rfl) ?_
                refine lv_ishl hx hb dX5_lineOfOrder_128 ?_
                refine lv_topi (fun y2475 ey2475 => ?_)
                refine lv_ior hx hb dX5_lineOfOrder_129 ?_
                refine lv_topi (fun y2476 ey2476 => ?_)
                refine lv_istore (lv' := [(4, .int y2476), (3, .int v2228), (9, .int v2227), (8, .int v2228), (7, .int y2226), (6, .int v1), (5, .int v2229), (0, .ref ha0), (1, .int p1), (2, .int p2)]) hx hb dX5_lineOfOrder_130 hl (by decide) rfl (fun ls hl => ?_)
                obtain ⟨y2477, ey2477⟩ : ∃ y : Int32, y = v1 + 1 := ⟨_, rfl⟩
                refine lv_iinc (v := y2477) (lv' := [(6, .int y2477), (4, .int y2476), (3, .int v2228), (9, .int v2227), (8, .int v2228), (7, .int y2226), (5, .int v2229), (0, .ref ha0), (1, .int p1), (2, .int p2)]) hx hb dX5_lineOfOrder_132 hl (k := 5) rfl (by rw [ey2477]; rfl) (by decide) rfl (fun ls hl => ?_)
                have hy2477 : y2477.toInt = v1.toInt + 1 := by rw [ey2477]; exact z_add rfl (by decide) (by omega) (by omega)
                refine lv_goto (tgt := 11) hx hb dX5_lineOfOrder_135 (by decide) ?_
                exact ih2223 y2477 v2229 y2476 v2228 ls (by first | decide | omega) (by first | decide | omega) (by first | decide | omega) (by first | decide | omega) (by omega) (lv_sub hl [0, 6, 1, 2, 7, 8, 9] rfl)
              · have q2478 : v2228.toInt = (-9) := z_eq rfl (by decide) hc
                refine lv_bipush (v := (-9)) hx hb dX5_lineOfOrder_117 (by decide) ?_
                exact W.iret (v := (-9)) hx hb hr (fun t ht hW => ⟨(-9), rfl, ⟨by first | decide | omega, by first | decide | omega⟩, ht⟩) (fun _ h => absurd h List.not_mem_nil) dX5_lineOfOrder_119
            · have q2479 : v2227.toInt < ia0_1.toInt := z_nle rfl rfl hc
              refine lv_iload hx hb dX5_lineOfOrder_42 (lv_at hl 1 rfl) ?_
              refine lv_bipush (v := (-9)) hx hb dX5_lineOfOrder_44 (by decide) ?_
              refine lv_icmp_ne (tgt := 110) hx hb dX5_lineOfOrder_46 (by decide) (fun hc => ?_) (fun hc => ?_)
              · have q2480 : v2228.toInt ≠ (-9) := z_ne rfl (by decide) hc
                refine lv_iload hx hb dX5_lineOfOrder_110 (lv_at hl 1 rfl) ?_
                refine lv_bipush (v := (-9)) hx hb dX5_lineOfOrder_112 (by decide) ?_
                refine lv_icmp_ne (tgt := 120) hx hb dX5_lineOfOrder_114 (by decide) (fun hc => ?_) (fun hc => ?_)
                · have q2481 : v2228.toInt ≠ (-9) := z_ne rfl (by decide) hc
                  refine lv_iload hx hb dX5_lineOfOrder_120 (lv_at hl 1 rfl) ?_
                  refine lv_istore_n (lv' := [(3, .int v2228), (9, .int v2227), (8, .int v2228), (7, .int y2226), (6, .int v1), (5, .int v2229), (4, .int v3), (0, .ref ha0), (1, .int p1), (2, .int p2)]) hx hb dX5_lineOfOrder_122 rfl hl (by decide) rfl (fun ls hl => ?_)
                  refine lv_iload hx hb dX5_lineOfOrder_123 (lv_at hl 6 rfl) ?_
                  refine lv_iconst (v := 1) hx hb dX5_lineOfOrder_125 (by decide) ?_
                  refine lv_iload hx hb dX5_lineOfOrder_126 (lv_at hl 2 rfl) ?_
                  refine lv_ishl hx hb dX5_lineOfOrder_128 ?_
                  refine lv_topi (fun y2482 ey2482 => ?_)
                  refine lv_ior hx hb dX5_lineOfOrder_129 ?_
                  refine lv_topi (fun y2483 ey2483 => ?_)
                  refine lv_istore (lv' := [(4, .int y2483), (3, .int v2228), (9, .int v2227), (8, .int v2228), (7, .int y2226), (6, .int v1), (5, .int v2229), (0, .ref ha0), (1, .int p1), (2, .int p2)]) hx hb dX5_lineOfOrder_130 hl (by decide) rfl (fun ls hl => ?_)
                  obtain ⟨y2484, ey2484⟩ : ∃ y : Int32, y = v1 + 1 := ⟨_, rfl⟩
                  refine lv_iinc (v := y2484) (lv' := [(6, .int y2484), (4, .int y2483), (3, .int v2228), (9, .int v2227), (8, .int v2228), (7, .int y2226), (5, .int v2229), (0, .ref ha0), (1, .int p1), (2, .int p2)]) hx hb dX5_lineOfOrder_132 hl (k := 5) rfl (by rw [ey2484]; rfl) (by decide) rfl (fun ls hl => ?_)
                  have hy2484 : y2484.toInt = v1.toInt + 1 := by rw [ey2484]; exact z_add rfl (by decide) (by omega) (by omega)
                  refine lv_goto (tgt := 11) hx hb dX5_lineOfOrder_135 (by decide) ?_
                  exact ih2223 y2484 v2229 y2483 v2228 ls (by first | decide | omega) (by first | decide | omega) (by first | decide | omega) (by first | decide | omega) (by omega) (lv_sub hl [0, 6, 1, 2, 7, 8, 9] rfl)
                · have q2485 : v2228.toInt = (-9) := z_eq rfl (by decide) hc
                  exfalso; omega
              · have q2486 : v2228.toInt = (-9) := z_eq rfl (by decide) hc
                refine lv_iload hx hb dX5_lineOfOrder_49 (lv_at hl 2 rfl) ?_
                refine lv_iload hx hb dX5_lineOfOrder_51 (lv_at hl 0 rfl) ?_
                refine z_rdi (va_runSN (As := [.int y2226, .int v2227]) (rest := []) ⟨hx, hb, hml, hown, hts⟩ (rX11_bitAt l dC dI cI cQ y2226 v2227) ⟨va_cnB (host := "EachOnHisCue") 2 hts gv_X5_lineOfOrder_X11_bitAt_40 rfl rfl rfl (hN.2.2.2.2.2.2.2.2.2.1) (hts (.initialized RX11) (by decide +kernel)) (by decide +kernel) ⟨Nat.le_of_ble_eq_true rfl, Nat.le_of_ble_eq_true rfl⟩, hts (.static yX11_bitAt) (by decide +kernel), trivial⟩ ⟨z_blindR, z_preR hZ hP [] rfl⟩ rfl rfl hl.1 rfl (lv_room (Nat.le_of_ble_eq_true rfl)) dX5_lineOfOrder_53 ⟨Nat.le_of_ble_eq_true rfl, Nat.le_of_ble_eq_true rfl⟩) (fun y2487 hy2487 => ?_)
                obtain ⟨hy2487_0, hy2487_1, hy2487_2⟩ := hy2487
                refine lv_iconst (v := 1) hx hb dX5_lineOfOrder_56 (by decide) ?_
                refine lv_icmp_ne (tgt := 80) hx hb dX5_lineOfOrder_57 (by decide) (fun hc => ?_) (fun hc => ?_)
                · have q2488 : y2487.toInt ≠ 1 := z_ne rfl (by decide) hc
                  refine lv_iconst (v := 0) hx hb dX5_lineOfOrder_80 (by decide) ?_
                  refine lv_istore (lv' := [(10, .int 0), (9, .int v2227), (8, .int v2228), (7, .int y2226), (6, .int v1), (5, .int v2229), (4, .int v3), (3, .int v4), (0, .ref ha0), (1, .int p1), (2, .int p2)]) hx hb dX5_lineOfOrder_81 hl (by decide) rfl (fun ls hl => ?_)
                  refine lv_iload hx hb dX5_lineOfOrder_83 (lv_at hl 5 rfl) ?_
                  refine lv_iload hx hb dX5_lineOfOrder_85 (lv_at hl 0 rfl) ?_
                  refine lv_icmp_ge (tgt := 97) hx hb dX5_lineOfOrder_87 (by decide) (fun hc => ?_) (fun hc => ?_)
                  · have q2489 : 0 ≤ v2229.toInt := z_le (by decide) rfl hc
                    refine lv_iload hx hb dX5_lineOfOrder_97 (lv_at hl 5 rfl) ?_
                    refine lv_iload hx hb dX5_lineOfOrder_99 (lv_at hl 0 rfl) ?_
                    refine lv_isub hx hb dX5_lineOfOrder_101 ?_
                    refine lv_topi (fun y2490 ey2490 => ?_)
                    have := z_hi v2229
                    have hy2490 : y2490.toInt = v2229.toInt - 0 := by rw [ey2490]; exact z_sub rfl (by decide) (by omega) (by omega)
                    refine lv_istore (lv' := [(5, .int y2490), (10, .int 0), (9, .int v2227), (8, .int v2228), (7, .int y2226), (6, .int v1), (4, .int v3), (3, .int v4), (0, .ref ha0), (1, .int p1), (2, .int p2)]) hx hb dX5_lineOfOrder_102 hl (by decide) rfl (fun ls hl => ?_)
                    obtain ⟨y2491, ey2491⟩ : ∃ y : Int32, y = v2227 + 1 := ⟨_, rfl⟩
                    refine lv_iinc (v := y2491) (lv' := [(9, .int y2491), (5, .int y2490), (10, .int 0), (8, .int v2228), (7, .int y2226), (6, .int v1), (4, .int v3), (3, .int v4), (0, .ref ha0), (1, .int p1), (2, .int p2)]) hx hb dX5_lineOfOrder_104 hl (k := 2) rfl (by rw [ey2491]; rfl) (by decide) rfl (fun ls hl => ?_)
                    have hy2491 : y2491.toInt = v2227.toInt + 1 := by rw [ey2491]; exact z_add rfl (by decide) (by omega) (by omega)
                    refine lv_goto (tgt := 33) hx hb dX5_lineOfOrder_107 (by decide) ?_
                    exact ih2472 y2491 v2228 y2490 ls (by first | decide | omega) (by first | decide | omega) hi2471_2 hi2471_3 (by omega) (lv_sub hl [0, 3, 4, 5, 1, 6, 7, 8, 9, 10] rfl)
                  · have q2492 : v2229.toInt < 0 := z_nle (by decide) rfl hc
                    refine lv_iload hx hb dX5_lineOfOrder_90 (lv_at hl 1 rfl) ?_
                    refine lv_istore (lv' := [(8, .int v2227), (10, .int 0), (9, .int v2227), (7, .int y2226), (6, .int v1), (5, .int v2229), (4, .int v3), (3, .int v4), (0, .ref ha0), (1, .int p1), (2, .int p2)]) hx hb dX5_lineOfOrder_92 hl (by decide) rfl (fun ls hl => ?_)
                    refine lv_goto (tgt := 104) hx hb dX5_lineOfOrder_94 (by decide) ?_
                    obtain ⟨y2493, ey2493⟩ : ∃ y : Int32, y = v2227 + 1 := ⟨_, rfl⟩
                    refine lv_iinc (v := y2493) (lv' := [(9, .int y2493), (8, .int v2227), (10, .int 0), (7, .int y2226), (6, .int v1), (5, .int v2229), (4, .int v3), (3, .int v4), (0, .ref ha0), (1, .int p1), (2, .int p2)]) hx hb dX5_lineOfOrder_104 hl (k := 2) rfl (by rw [ey2493]; rfl) (by decide) rfl (fun ls hl => ?_)
                    have hy2493 : y2493.toInt = v2227.toInt + 1 := by rw [ey2493]; exact z_add rfl (by decide) (by omega) (by omega)
                    refine lv_goto (tgt := 33) hx hb dX5_lineOfOrder_107 (by decide) ?_
                    exact ih2472 y2493 v2227 v2229 ls (by first | decide | omega) (by first | decide | omega) (by first | decide | omega) (by first | decide | omega) (by omega) (lv_sub hl [0, 1, 3, 4, 5, 6, 7, 8, 9, 10] rfl)
                · have q2494 : y2487.toInt = 1 := z_eq rfl (by decide) hc
                  refine lv_aload_n hx hb dX5_lineOfOrder_60 rfl (lv_at hl 7 rfl) ?_
                  refine lv_iload hx hb dX5_lineOfOrder_61 (lv_at hl 0 rfl) ?_
                  refine lv_iload hx hb dX5_lineOfOrder_63 (lv_at hl 5 rfl) ?_
                  refine lv_iconst (v := 1) hx hb dX5_lineOfOrder_65 (by decide) ?_
                  refine lv_iload hx hb dX5_lineOfOrder_66 (lv_at hl 0 rfl) ?_
                  refine lv_ishl hx hb dX5_lineOfOrder_68 ?_
                  refine lv_topi (fun y2495 ey2495 => ?_)
                  refine lv_ior hx hb dX5_lineOfOrder_69 ?_
                  refine lv_topi (fun y2496 ey2496 => ?_)
                  refine lv_iload hx hb dX5_lineOfOrder_70 (lv_at hl 3 rfl) ?_
                  refine lv_iconst (v := 1) hx hb dX5_lineOfOrder_72 (by decide) ?_
                  refine lv_iadd hx hb dX5_lineOfOrder_73 ?_
                  refine lv_topi (fun y2497 ey2497 => ?_)
                  have hy2497 : y2497.toInt = v1.toInt + 1 := by rw [ey2497]; exact z_add rfl (by decide) (by omega) (by omega)
                  refine z_rdi (va_runS (As := [.ref ha0, .int v2227, .int y2496, .int y2497]) (rest := []) ⟨hx, hb, hml, hown, hts⟩ (rX5_ordersBehind_d1 l dC dI cI cQ ha0 ha0_0 fa0_0 ia0_1 hia0_1l hia0_1h v2227 y2496 y2497 (by first | decide | omega) (by first | decide | omega)) (va_cwS 4 hts gv_X5_lineOfOrder_X5_ordersBehind_51 rfl rfl rfl (by decide +kernel) ⟨Nat.le_of_ble_eq_true rfl, Nat.le_of_ble_eq_true rfl⟩) ⟨z_blindR, z_preR hZ hP [0, 1] rfl⟩ rfl rfl hl.1 rfl (lv_room (Nat.le_of_ble_eq_true rfl)) dX5_lineOfOrder_74 ⟨Nat.le_of_ble_eq_true rfl, Nat.le_of_ble_eq_true rfl⟩) (fun y2498 hy2498 => ?_)
                  obtain ⟨hy2498_0, hy2498_1⟩ := hy2498
                  refine lv_goto (tgt := 81) hx hb dX5_lineOfOrder_77 (by decide) ?_
                  refine lv_istore (lv' := [(10, .int y2498), (9, .int v2227), (8, .int v2228), (7, .int y2226), (6, .int v1), (5, .int v2229), (4, .int v3), (3, .int v4), (0, .ref ha0), (1, .int p1), (2, .int p2)]) hx hb dX5_lineOfOrder_81 hl (by decide) rfl (fun ls hl => ?_)
                  refine lv_iload hx hb dX5_lineOfOrder_83 (lv_at hl 5 rfl) ?_
                  refine lv_iload hx hb dX5_lineOfOrder_85 (lv_at hl 0 rfl) ?_
                  refine lv_icmp_ge (tgt := 97) hx hb dX5_lineOfOrder_87 (by decide) (fun hc => ?_) (fun hc => ?_)
                  · have q2499 : y2498.toInt ≤ v2229.toInt := z_le rfl rfl hc
                    refine lv_iload hx hb dX5_lineOfOrder_97 (lv_at hl 5 rfl) ?_
                    refine lv_iload hx hb dX5_lineOfOrder_99 (lv_at hl 0 rfl) ?_
                    refine lv_isub hx hb dX5_lineOfOrder_101 ?_
                    refine lv_topi (fun y2500 ey2500 => ?_)
                    refine lv_istore (lv' := [(5, .int y2500), (10, .int y2498), (9, .int v2227), (8, .int v2228), (7, .int y2226), (6, .int v1), (4, .int v3), (3, .int v4), (0, .ref ha0), (1, .int p1), (2, .int p2)]) hx hb dX5_lineOfOrder_102 hl (by decide) rfl (fun ls hl => ?_)
                    obtain ⟨y2501, ey2501⟩ : ∃ y : Int32, y = v2227 + 1 := ⟨_, rfl⟩
                    refine lv_iinc (v := y2501) (lv' := [(9, .int y2501), (5, .int y2500), (10, .int y2498), (8, .int v2228), (7, .int y2226), (6, .int v1), (4, .int v3), (3, .int v4), (0, .ref ha0), (1, .int p1), (2, .int p2)]) hx hb dX5_lineOfOrder_104 hl (k := 2) rfl (by rw [ey2501]; rfl) (by decide) rfl (fun ls hl => ?_)
                    have hy2501 : y2501.toInt = v2227.toInt + 1 := by rw [ey2501]; exact z_add rfl (by decide) (by omega) (by omega)
                    refine lv_goto (tgt := 33) hx hb dX5_lineOfOrder_107 (by decide) ?_
                    exact ih2472 y2501 v2228 y2500 ls (by first | decide | omega) (by first | decide | omega) hi2471_2 hi2471_3 (by omega) (lv_sub hl [0, 3, 4, 5, 1, 6, 7, 8, 9, 10] rfl)
                  · have q2502 : v2229.toInt < y2498.toInt := z_nle rfl rfl hc
                    refine lv_iload hx hb dX5_lineOfOrder_90 (lv_at hl 1 rfl) ?_
                    refine lv_istore (lv' := [(8, .int v2227), (10, .int y2498), (9, .int v2227), (7, .int y2226), (6, .int v1), (5, .int v2229), (4, .int v3), (3, .int v4), (0, .ref ha0), (1, .int p1), (2, .int p2)]) hx hb dX5_lineOfOrder_92 hl (by decide) rfl (fun ls hl => ?_)
                    refine lv_goto (tgt := 104) hx hb dX5_lineOfOrder_94 (by decide) ?_
                    obtain ⟨y2503, ey2503⟩ : ∃ y : Int32, y = v2227 + 1 := ⟨_, rfl⟩
                    refine lv_iinc (v := y2503) (lv' := [(9, .int y2503), (8, .int v2227), (10, .int y2498), (7, .int y2226), (6, .int v1), (5, .int v2229), (4, .int v3), (3, .int v4), (0, .ref ha0), (1, .int p1), (2, .int p2)]) hx hb dX5_lineOfOrder_104 hl (k := 2) rfl (by rw [ey2503]; rfl) (by decide) rfl (fun ls hl => ?_)
                    have hy2503 : y2503.toInt = v2227.toInt + 1 := by rw [ey2503]; exact z_add rfl (by decide) (by omega) (by omega)
                    refine lv_goto (tgt := 33) hx hb dX5_lineOfOrder_107 (by decide) ?_
                    exact ih2472 y2503 v2227 v2229 ls (by first | decide | omega) (by first | decide | omega) (by first | decide | omega) (by first | decide | omega) (by omega) (lv_sub hl [0, 1, 3, 4, 5, 6, 7, 8, 9, 10] rfl)
        exact hL2470 ((12 - (1 : Int32).toInt).toNat + 1) 1 (-9) v2 ls (by decide) (by decide) (by decide) (by decide) (by omega) hl
  exact hL2221 ((12 - (1 : Int32).toInt).toNat + 1) 1 p1 1 0 ls (by decide) (by decide) (by decide) (by decide) (by omega) hl
set_option maxRecDepth 20000 in
theorem edX5_firstThatCannotFollow_0 : decode cX5_firstThatCannotFollow 0 = .ok (.iconst 0, 1) ∧ decode cX5_firstThatCannotFollow 1 = .ok (.istore_n 3, 1) ∧ decode cX5_firstThatCannotFollow 2 = .ok (.iload_n 3, 1) ∧ decode cX5_firstThatCannotFollow 3 = .ok (.iload_n 2, 1) ∧ decode cX5_firstThatCannotFollow 4 = .ok (.if_icmp .ge 54, 3) ∧ decode cX5_firstThatCannotFollow 7 = .ok (.iload_n 3, 1) ∧ decode cX5_firstThatCannotFollow 8 = .ok (.aload_n 1, 1) ∧ decode cX5_firstThatCannotFollow 9 = .ok (.arraylength, 1) ∧ decode cX5_firstThatCannotFollow 10 = .ok (.if_icmp .ge 48, 3) ∧ decode cX5_firstThatCannotFollow 13 = .ok (.iload_n 3, 1) ∧ decode cX5_firstThatCannotFollow 14 = .ok (.ifCond .ne 17, 3) ∧ decode cX5_firstThatCannotFollow 17 = .ok (.aload_n 1, 1) := by decide +kernel
theorem dX5_firstThatCannotFollow_0 : decode cX5_firstThatCannotFollow 0 = .ok (.iconst 0, 1) := edX5_firstThatCannotFollow_0.1
theorem dX5_firstThatCannotFollow_1 : decode cX5_firstThatCannotFollow 1 = .ok (.istore_n 3, 1) := edX5_firstThatCannotFollow_0.2.1
theorem dX5_firstThatCannotFollow_2 : decode cX5_firstThatCannotFollow 2 = .ok (.iload_n 3, 1) := edX5_firstThatCannotFollow_0.2.2.1
theorem dX5_firstThatCannotFollow_3 : decode cX5_firstThatCannotFollow 3 = .ok (.iload_n 2, 1) := edX5_firstThatCannotFollow_0.2.2.2.1
theorem dX5_firstThatCannotFollow_4 : decode cX5_firstThatCannotFollow 4 = .ok (.if_icmp .ge 54, 3) := edX5_firstThatCannotFollow_0.2.2.2.2.1
theorem dX5_firstThatCannotFollow_7 : decode cX5_firstThatCannotFollow 7 = .ok (.iload_n 3, 1) := edX5_firstThatCannotFollow_0.2.2.2.2.2.1
theorem dX5_firstThatCannotFollow_8 : decode cX5_firstThatCannotFollow 8 = .ok (.aload_n 1, 1) := edX5_firstThatCannotFollow_0.2.2.2.2.2.2.1
theorem dX5_firstThatCannotFollow_9 : decode cX5_firstThatCannotFollow 9 = .ok (.arraylength, 1) := edX5_firstThatCannotFollow_0.2.2.2.2.2.2.2.1
theorem dX5_firstThatCannotFollow_10 : decode cX5_firstThatCannotFollow 10 = .ok (.if_icmp .ge 48, 3) := edX5_firstThatCannotFollow_0.2.2.2.2.2.2.2.2.1
theorem dX5_firstThatCannotFollow_13 : decode cX5_firstThatCannotFollow 13 = .ok (.iload_n 3, 1) := edX5_firstThatCannotFollow_0.2.2.2.2.2.2.2.2.2.1
theorem dX5_firstThatCannotFollow_14 : decode cX5_firstThatCannotFollow 14 = .ok (.ifCond .ne 17, 3) := edX5_firstThatCannotFollow_0.2.2.2.2.2.2.2.2.2.2.1
theorem dX5_firstThatCannotFollow_17 : decode cX5_firstThatCannotFollow 17 = .ok (.aload_n 1, 1) := edX5_firstThatCannotFollow_0.2.2.2.2.2.2.2.2.2.2.2
set_option maxRecDepth 20000 in
theorem edX5_firstThatCannotFollow_18 : decode cX5_firstThatCannotFollow 18 = .ok (.iload_n 3, 1) ∧ decode cX5_firstThatCannotFollow 19 = .ok (.iaload, 1) ∧ decode cX5_firstThatCannotFollow 20 = .ok (.ifCond .ne 7, 3) ∧ decode cX5_firstThatCannotFollow 23 = .ok (.iconst 1, 1) ∧ decode cX5_firstThatCannotFollow 24 = .ok (.goto 19, 3) ∧ decode cX5_firstThatCannotFollow 27 = .ok (.iconst 0, 1) ∧ decode cX5_firstThatCannotFollow 28 = .ok (.goto 15, 3) ∧ decode cX5_firstThatCannotFollow 31 = .ok (.aload_n 0, 1) ∧ decode cX5_firstThatCannotFollow 32 = .ok (.aload_n 1, 1) ∧ decode cX5_firstThatCannotFollow 33 = .ok (.iload_n 3, 1) ∧ decode cX5_firstThatCannotFollow 34 = .ok (.iconst 1, 1) ∧ decode cX5_firstThatCannotFollow 35 = .ok (.isub, 1) := by decide +kernel
theorem dX5_firstThatCannotFollow_18 : decode cX5_firstThatCannotFollow 18 = .ok (.iload_n 3, 1) := edX5_firstThatCannotFollow_18.1
theorem dX5_firstThatCannotFollow_19 : decode cX5_firstThatCannotFollow 19 = .ok (.iaload, 1) := edX5_firstThatCannotFollow_18.2.1
theorem dX5_firstThatCannotFollow_20 : decode cX5_firstThatCannotFollow 20 = .ok (.ifCond .ne 7, 3) := edX5_firstThatCannotFollow_18.2.2.1
theorem dX5_firstThatCannotFollow_23 : decode cX5_firstThatCannotFollow 23 = .ok (.iconst 1, 1) := edX5_firstThatCannotFollow_18.2.2.2.1
theorem dX5_firstThatCannotFollow_24 : decode cX5_firstThatCannotFollow 24 = .ok (.goto 19, 3) := edX5_firstThatCannotFollow_18.2.2.2.2.1
theorem dX5_firstThatCannotFollow_27 : decode cX5_firstThatCannotFollow 27 = .ok (.iconst 0, 1) := edX5_firstThatCannotFollow_18.2.2.2.2.2.1
theorem dX5_firstThatCannotFollow_28 : decode cX5_firstThatCannotFollow 28 = .ok (.goto 15, 3) := edX5_firstThatCannotFollow_18.2.2.2.2.2.2.1
theorem dX5_firstThatCannotFollow_31 : decode cX5_firstThatCannotFollow 31 = .ok (.aload_n 0, 1) := edX5_firstThatCannotFollow_18.2.2.2.2.2.2.2.1
theorem dX5_firstThatCannotFollow_32 : decode cX5_firstThatCannotFollow 32 = .ok (.aload_n 1, 1) := edX5_firstThatCannotFollow_18.2.2.2.2.2.2.2.2.1
theorem dX5_firstThatCannotFollow_33 : decode cX5_firstThatCannotFollow 33 = .ok (.iload_n 3, 1) := edX5_firstThatCannotFollow_18.2.2.2.2.2.2.2.2.2.1
theorem dX5_firstThatCannotFollow_34 : decode cX5_firstThatCannotFollow 34 = .ok (.iconst 1, 1) := edX5_firstThatCannotFollow_18.2.2.2.2.2.2.2.2.2.2.1
theorem dX5_firstThatCannotFollow_35 : decode cX5_firstThatCannotFollow 35 = .ok (.isub, 1) := edX5_firstThatCannotFollow_18.2.2.2.2.2.2.2.2.2.2.2
set_option maxRecDepth 20000 in
theorem edX5_firstThatCannotFollow_36 : decode cX5_firstThatCannotFollow 36 = .ok (.iaload, 1) ∧ decode cX5_firstThatCannotFollow 37 = .ok (.aload_n 1, 1) ∧ decode cX5_firstThatCannotFollow 38 = .ok (.iload_n 3, 1) ∧ decode cX5_firstThatCannotFollow 39 = .ok (.iaload, 1) ∧ decode cX5_firstThatCannotFollow 40 = .ok (.invokevirtual 58, 3) ∧ decode cX5_firstThatCannotFollow 43 = .ok (.istore 4, 2) ∧ decode cX5_firstThatCannotFollow 45 = .ok (.iload 4, 2) ∧ decode cX5_firstThatCannotFollow 47 = .ok (.ifCond .ne 5, 3) ∧ decode cX5_firstThatCannotFollow 50 = .ok (.iload_n 3, 1) ∧ decode cX5_firstThatCannotFollow 51 = .ok (.ireturn, 1) ∧ decode cX5_firstThatCannotFollow 52 = .ok (.iinc 3 1, 3) ∧ decode cX5_firstThatCannotFollow 55 = .ok (.goto (-53), 3) := by decide +kernel
theorem dX5_firstThatCannotFollow_36 : decode cX5_firstThatCannotFollow 36 = .ok (.iaload, 1) := edX5_firstThatCannotFollow_36.1
theorem dX5_firstThatCannotFollow_37 : decode cX5_firstThatCannotFollow 37 = .ok (.aload_n 1, 1) := edX5_firstThatCannotFollow_36.2.1
theorem dX5_firstThatCannotFollow_38 : decode cX5_firstThatCannotFollow 38 = .ok (.iload_n 3, 1) := edX5_firstThatCannotFollow_36.2.2.1
theorem dX5_firstThatCannotFollow_39 : decode cX5_firstThatCannotFollow 39 = .ok (.iaload, 1) := edX5_firstThatCannotFollow_36.2.2.2.1
theorem dX5_firstThatCannotFollow_40 : decode cX5_firstThatCannotFollow 40 = .ok (.invokevirtual 58, 3) := edX5_firstThatCannotFollow_36.2.2.2.2.1
theorem dX5_firstThatCannotFollow_43 : decode cX5_firstThatCannotFollow 43 = .ok (.istore 4, 2) := edX5_firstThatCannotFollow_36.2.2.2.2.2.1
theorem dX5_firstThatCannotFollow_45 : decode cX5_firstThatCannotFollow 45 = .ok (.iload 4, 2) := edX5_firstThatCannotFollow_36.2.2.2.2.2.2.1
theorem dX5_firstThatCannotFollow_47 : decode cX5_firstThatCannotFollow 47 = .ok (.ifCond .ne 5, 3) := edX5_firstThatCannotFollow_36.2.2.2.2.2.2.2.1
theorem dX5_firstThatCannotFollow_50 : decode cX5_firstThatCannotFollow 50 = .ok (.iload_n 3, 1) := edX5_firstThatCannotFollow_36.2.2.2.2.2.2.2.2.1
theorem dX5_firstThatCannotFollow_51 : decode cX5_firstThatCannotFollow 51 = .ok (.ireturn, 1) := edX5_firstThatCannotFollow_36.2.2.2.2.2.2.2.2.2.1
theorem dX5_firstThatCannotFollow_52 : decode cX5_firstThatCannotFollow 52 = .ok (.iinc 3 1, 3) := edX5_firstThatCannotFollow_36.2.2.2.2.2.2.2.2.2.2.1
theorem dX5_firstThatCannotFollow_55 : decode cX5_firstThatCannotFollow 55 = .ok (.goto (-53), 3) := edX5_firstThatCannotFollow_36.2.2.2.2.2.2.2.2.2.2.2
set_option maxRecDepth 20000 in
theorem edX5_firstThatCannotFollow_58 : decode cX5_firstThatCannotFollow 58 = .ok (.bipush (-9), 2) ∧ decode cX5_firstThatCannotFollow 60 = .ok (.ireturn, 1) := by decide +kernel
theorem dX5_firstThatCannotFollow_58 : decode cX5_firstThatCannotFollow 58 = .ok (.bipush (-9), 2) := edX5_firstThatCannotFollow_58.1
theorem dX5_firstThatCannotFollow_60 : decode cX5_firstThatCannotFollow 60 = .ok (.ireturn, 1) := edX5_firstThatCannotFollow_58.2
noncomputable def voX5_firstThatCannotFollow : List Cond := [.methodLink RX5 58 yX5_canFollow, .instanceMethod yX5_canFollow, .selects RX5 yX5_canFollow yX5_canFollow, .initialized RX5]
noncomputable def vsX5_firstThatCannotFollow : List Cond := .code yX5_firstThatCannotFollow cX5_firstThatCannotFollow 5 (some .int) :: (voX5_firstThatCannotFollow ++ (vsX5_canFollow))
theorem zgX5_firstThatCannotFollow : zGd vsX5_firstThatCannotFollow := z_gdC rfl (z_gdA (z_gdO (by decide +kernel) : zGd voX5_firstThatCannotFollow) (zgX5_canFollow))
theorem gw_X5_firstThatCannotFollow_X5_canFollow : GoodIn vsX5_firstThatCannotFollow vsX5_canFollow := z_gdI (fun _ h => List.mem_cons_of_mem _ (List.mem_append_right _ (h))) zgX5_canFollow
set_option maxRecDepth 20000 in
theorem gv_X5_firstThatCannotFollow_X5_canFollow_58 : GoodIn vsX5_firstThatCannotFollow (wsV RX5 58 RX5 yX5_canFollow vsX5_canFollow) := goodIn_app (goodIn_of _ (by decide +kernel)) gw_X5_firstThatCannotFollow_X5_canFollow
set_option maxHeartbeats 4000000 in
set_option maxRecDepth 100000 in
theorem rX5_firstThatCannotFollow (l : Launch) (dC : Nat → ClassId) (dI : Nat → Nat → Nat) (cI cQ : ClassId) (ha0 ha1 ha0_0 : Nat) (fa0_0 : Nat → Int32) (ia0_1 : Int32) (hia0_1l : 0 ≤ ia0_1.toInt) (hia0_1h : ia0_1.toInt ≤ 12) (fa1 : Nat → Int32) (p2 : Int32) : Met l yX5_firstThatCannotFollow vsX5_firstThatCannotFollow ({ frames := 2, cells := 0, slots := 0, locals := 43 }) (va_Pc [.ref ha0, .ref ha1, .int p2] (zRB dC dI cI cQ [(ha0_0, .inl (cI, 12, .inl fa0_0)), (ha0, .inr (5, [.ref ha0_0, .int ia0_1])), (ha1, .inl (cI, 12, .inl fa1))])) (vp_Si (fun r => (-9) ≤ r.toInt ∧ r.toInt ≤ 11)) 0 0 (fun _ => False) := by
  refine Met.ofW (cc := cX5_firstThatCannotFollow) (maxL := 5) (ret := (some .int)) (by decide) rfl ?_
  intro p e s m args below meth c s₁ B hml hv
  obtain ⟨rfl, hP, hZ⟩ := hv
  obtain ⟨hK, hAO, hN⟩ := id hZ
  have hx := B.exec
  have hb := B.bytes
  have hr := B.returns
  have hts := atoms_spec (ws := vsX5_firstThatCannotFollow) B.pre
  have hown : s.vm.findClass RX5 = some m.cls := findClass_of_methodNamed B.named
  have hlocks := B.notSynchronized
  have hp2l := z_lo p2
  have hp2h := z_hi p2
  have hl := lv_entry ([.ref ha0, .ref ha1, .int p2]) (n := 5) (Nat.le_of_ble_eq_true rfl)
  rw [lg_entry_eq]
  generalize (lg_sl ([.ref ha0, .ref ha1, .int p2]) ++ List.replicate (5 - (lg_sl ([.ref ha0, .ref ha1, .int p2])).length) Slot.unset).toArray = ls at hl ⊢
  have hl : lv_has ls 5 [(0, .ref ha0), (1, .ref ha1), (2, .int p2)] := hl
  refine lv_iconst (v := 0) hx hb dX5_firstThatCannotFollow_0 (by decide) ?_
  refine lv_istore_n (lv' := [(3, .int 0), (0, .ref ha0), (1, .ref ha1), (2, .int p2)]) hx hb dX5_firstThatCannotFollow_1 rfl hl (by decide) rfl (fun ls hl => ?_)
  have hL131 : ∀ (n : Nat) (v1 : Int32) (ls : Array Slot), 0 ≤ v1.toInt → v1.toInt ≤ 12 → (12 - v1.toInt).toNat < n → lv_has ls 5 [(3, .int v1), (0, .ref ha0), (1, .ref ha1), (2, .int p2)] → W p l e (headSpec vsX5_firstThatCannotFollow ({ frames := 2, cells := 0, slots := 0, locals := 43 })).room s m ([.ref ha0, .ref ha1, .int p2] : List Value).toArray below meth c s.heap [] 0 0 (MQ below (vp_Si (fun r => (-9) ≤ r.toInt ∧ r.toInt ≤ 11)) ([.ref ha0, .ref ha1, .int p2] : List Value).toArray s 0 0 (fun _ => False)) (F0 m 2 ls []) := by
    intro n
    induction n with
    | zero =>
      intro v1 ls hi132_0 hi132_1 hi132_m hl
      exact absurd hi132_m (Nat.not_lt_zero _)
    | succ n ih =>
      intro v1 ls hi132_0 hi132_1 hi132_m hl
      have ih133 := ih
      refine lv_iload_n hx hb dX5_firstThatCannotFollow_2 rfl (lv_at hl 0 rfl) ?_
      refine lv_iload_n hx hb dX5_firstThatCannotFollow_3 rfl (lv_at hl 3 rfl) ?_
      refine lv_icmp_ge (tgt := 58) hx hb dX5_firstThatCannotFollow_4 (by decide) (fun hc => ?_) (fun hc => ?_)
      · have q134 : p2.toInt ≤ v1.toInt := z_le rfl rfl hc
        refine lv_bipush (v := (-9)) hx hb dX5_firstThatCannotFollow_58 (by decide) ?_
        exact W.iret (v := (-9)) hx hb hr (fun t ht hW => ⟨(-9), rfl, ⟨by first | decide | omega, by first | decide | omega⟩, ht⟩) (fun _ h => absurd h List.not_mem_nil) dX5_firstThatCannotFollow_60
      · have q135 : v1.toInt < p2.toInt := z_nle rfl rfl hc
        refine lv_iload_n hx hb dX5_firstThatCannotFollow_7 rfl (lv_at hl 0 rfl) ?_
        refine lv_aload_n hx hb dX5_firstThatCannotFollow_8 rfl (lv_at hl 2 rfl) ?_
        refine va_alen hx hb hK hP 2 0 rfl rfl (v := 12) rfl dX5_firstThatCannotFollow_9 ?_
        refine lv_icmp_ge (tgt := 58) hx hb dX5_firstThatCannotFollow_10 (by decide) (fun hc => ?_) (fun hc => ?_)
        · have q136 : 12 ≤ v1.toInt := z_le (by decide) rfl hc
          refine lv_bipush (v := (-9)) hx hb dX5_firstThatCannotFollow_58 (by decide) ?_
          exact W.iret (v := (-9)) hx hb hr (fun t ht hW => ⟨(-9), rfl, ⟨by first | decide | omega, by first | decide | omega⟩, ht⟩) (fun _ h => absurd h List.not_mem_nil) dX5_firstThatCannotFollow_60
        · have q137 : v1.toInt < 12 := z_nle (by decide) rfl hc
          refine lv_iload_n hx hb dX5_firstThatCannotFollow_13 rfl (lv_at hl 0 rfl) ?_
          refine lv_if_ne (tgt := 31) hx hb dX5_firstThatCannotFollow_14 (by decide) (fun hc => ?_) (fun hc => ?_)
          · have q138 : v1.toInt ≠ 0 := z_ne rfl (by decide) hc
            refine lv_aload_n hx hb dX5_firstThatCannotFollow_31 rfl (lv_at hl 1 rfl) ?_
            refine lv_aload_n hx hb dX5_firstThatCannotFollow_32 rfl (lv_at hl 2 rfl) ?_
            refine lv_iload_n hx hb dX5_firstThatCannotFollow_33 rfl (lv_at hl 0 rfl) ?_
            refine lv_iconst (v := 1) hx hb dX5_firstThatCannotFollow_34 (by decide) ?_
            refine lv_isub hx hb dX5_firstThatCannotFollow_35 ?_
            refine lv_topi (fun y139 ey139 => ?_)
            have hy139 : y139.toInt = v1.toInt - 1 := by rw [ey139]; exact z_sub rfl (by decide) (by omega) (by omega)
            refine va_iald hx hb hK hP 2 0 rfl rfl (z_in (by omega) (by omega)) dX5_firstThatCannotFollow_36 ?_
            refine lv_topi (fun y140 ey140 => ?_)
            have gy140 : y140.toInt = (fa1 (y139 : Int32).toNatClampNeg).toInt := by rw [ey140]
            refine lv_aload_n hx hb dX5_firstThatCannotFollow_37 rfl (lv_at hl 2 rfl) ?_
            refine lv_iload_n hx hb dX5_firstThatCannotFollow_38 rfl (lv_at hl 0 rfl) ?_
            refine va_iald hx hb hK hP 2 0 rfl rfl (z_in (by omega) (by omega)) dX5_firstThatCannotFollow_39 ?_
            refine lv_topi (fun y141 ey141 => ?_)
            have gy141 : y141.toInt = (fa1 (v1 : Int32).toNatClampNeg).toInt := by rw [ey141]
            refine z_rdi (va_runV (As := [.int y140, .int y141]) (rest := []) ⟨hx, hb, hml, hown, hts⟩ (rX5_canFollow l dC dI cI cQ ha0 ha0_0 fa0_0 ia0_1 hia0_1l hia0_1h y140 y141) (cwV 2 hts gv_X5_firstThatCannotFollow_X5_canFollow_58 rfl rfl rfl (by decide +kernel) ⟨Nat.le_of_ble_eq_true rfl, Nat.le_of_ble_eq_true rfl⟩) ⟨z_blindR, va_recv hK hP (ci := 5) (q0 := 1) rfl rfl, z_preR hZ hP [0, 1] rfl⟩ rfl rfl hl.1 rfl (lv_room (Nat.le_of_ble_eq_true rfl)) dX5_firstThatCannotFollow_40 ⟨Nat.le_of_ble_eq_true rfl, Nat.le_of_ble_eq_true rfl⟩) (fun y142 hy142 => ?_)
            obtain ⟨hy142_0, hy142_1⟩ := hy142
            refine lv_istore (lv' := [(4, .int y142), (3, .int v1), (0, .ref ha0), (1, .ref ha1), (2, .int p2)]) hx hb dX5_firstThatCannotFollow_43 hl (by decide) rfl (fun ls hl => ?_)
            refine lv_iload hx hb dX5_firstThatCannotFollow_45 (lv_at hl 0 rfl) ?_
            refine lv_if_ne (tgt := 52) hx hb dX5_firstThatCannotFollow_47 (by decide) (fun hc => ?_) (fun hc => ?_)
            · have q143 : y142.toInt ≠ 0 := z_ne rfl (by decide) hc
              obtain ⟨y144, ey144⟩ : ∃ y : Int32, y = v1 + 1 := ⟨_, rfl⟩
              refine lv_iinc (v := y144) (lv' := [(3, .int y144), (4, .int y142), (0, .ref ha0), (1, .ref ha1), (2, .int p2)]) hx hb dX5_firstThatCannotFollow_52 hl (k := 1) rfl (by rw [ey144]; rfl) (by decide) rfl (fun ls hl => ?_)
              have hy144 : y144.toInt = v1.toInt + 1 := by rw [ey144]; exact z_add rfl (by decide) (by omega) (by omega)
              refine lv_goto (tgt := 2) hx hb dX5_firstThatCannotFollow_55 (by decide) ?_
              exact ih133 y144 ls (by first | decide | omega) (by first | decide | omega) (by omega) (lv_sub hl [0, 2, 3, 4] rfl)
            · have q145 : y142.toInt = 0 := z_eq rfl (by decide) hc
              refine lv_iload_n hx hb dX5_firstThatCannotFollow_50 rfl (lv_at hl 1 rfl) ?_
              exact W.iret (v := v1) hx hb hr (fun t ht hW => ⟨v1, rfl, ⟨by first | decide | omega, by first | decide | omega⟩, ht⟩) (fun _ h => absurd h List.not_mem_nil) dX5_firstThatCannotFollow_51
          · have q146 : v1.toInt = 0 := z_eq rfl (by decide) hc
            refine lv_aload_n hx hb dX5_firstThatCannotFollow_17 rfl (lv_at hl 2 rfl) ?_
            refine lv_iload_n hx hb dX5_firstThatCannotFollow_18 rfl (lv_at hl 0 rfl) ?_
            refine va_iald hx hb hK hP 2 0 rfl rfl (z_in (by omega) (by omega)) dX5_firstThatCannotFollow_19 ?_
            refine lv_topi (fun y147 ey147 => ?_)
            have gy147 : y147.toInt = (fa1 (v1 : Int32).toNatClampNeg).toInt := by rw [ey147]
            refine lv_if_ne (tgt := 27) hx hb dX5_firstThatCannotFollow_20 (by decide) (fun hc => ?_) (fun hc => ?_)
            · have q148 : y147.toInt ≠ 0 := z_ne rfl (by decide) hc
              refine lv_iconst (v := 0) hx hb dX5_firstThatCannotFollow_27 (by decide) ?_
              refine lv_goto (tgt := 43) hx hb dX5_firstThatCannotFollow_28 (by decide) ?_
              refine lv_istore (lv' := [(4, .int 0), (3, .int v1), (0, .ref ha0), (1, .ref ha1), (2, .int p2)]) hx hb dX5_firstThatCannotFollow_43 hl (by decide) rfl (fun ls hl => ?_)
              refine lv_iload hx hb dX5_firstThatCannotFollow_45 (lv_at hl 0 rfl) ?_
              refine lv_if_ne (tgt := 52) hx hb dX5_firstThatCannotFollow_47 (by decide) (fun hc => ?_) (fun hc => ?_)
              · exact absurd hc (by decide)
              · skip
                refine lv_iload_n hx hb dX5_firstThatCannotFollow_50 rfl (lv_at hl 1 rfl) ?_
                exact W.iret (v := v1) hx hb hr (fun t ht hW => ⟨v1, rfl, ⟨by first | decide | omega, by first | decide | omega⟩, ht⟩) (fun _ h => absurd h List.not_mem_nil) dX5_firstThatCannotFollow_51
            · have q149 : y147.toInt = 0 := z_eq rfl (by decide) hc
              refine lv_iconst (v := 1) hx hb dX5_firstThatCannotFollow_23 (by decide) ?_
              refine lv_goto (tgt := 43) hx hb dX5_firstThatCannotFollow_24 (by decide) ?_
              refine lv_istore (lv' := [(4, .int 1), (3, .int v1), (0, .ref ha0), (1, .ref ha1), (2, .int p2)]) hx hb dX5_firstThatCannotFollow_43 hl (by decide) rfl (fun ls hl => ?_)
              refine lv_iload hx hb dX5_firstThatCannotFollow_45 (lv_at hl 0 rfl) ?_
              refine lv_if_ne (tgt := 52) hx hb dX5_firstThatCannotFollow_47 (by decide) (fun hc => ?_) (fun hc => ?_)
              · skip
                obtain ⟨y150, ey150⟩ : ∃ y : Int32, y = v1 + 1 := ⟨_, rfl⟩
                refine lv_iinc (v := y150) (lv' := [(3, .int y150), (4, .int 1), (0, .ref ha0), (1, .ref ha1), (2, .int p2)]) hx hb dX5_firstThatCannotFollow_52 hl (k := 1) rfl (by rw [ey150]; rfl) (by decide) rfl (fun ls hl => ?_)
                have hy150 : y150.toInt = v1.toInt + 1 := by rw [ey150]; exact z_add rfl (by decide) (by omega) (by omega)
                refine lv_goto (tgt := 2) hx hb dX5_firstThatCannotFollow_55 (by decide) ?_
                exact ih133 y150 ls (by first | decide | omega) (by first | decide | omega) (by omega) (lv_sub hl [0, 2, 3, 4] rfl)
              · exact absurd hc (by decide)
  exact hL131 ((12 - (0 : Int32).toInt).toNat + 1) 0 ls (by decide) (by decide) (by omega) hl
